theorem dX0_init_0 : decode cX0_init 0 = .ok (.aload_n 0, 1) := by decide +kernel
theorem dX0_init_1 : decode cX0_init 1 = .ok (.invokespecial 3, 3) := by decide +kernel
theorem dX0_init_4 : decode cX0_init 4 = .ok (.aload_n 0, 1) := by decide +kernel
theorem dX0_init_5 : decode cX0_init 5 = .ok (.iload_n 1, 1) := by decide +kernel
theorem dX0_init_6 : decode cX0_init 6 = .ok (.putfield 9, 3) := by decide +kernel
theorem dX0_init_9 : decode cX0_init 9 = .ok (.aload_n 0, 1) := by decide +kernel
theorem dX0_init_10 : decode cX0_init 10 = .ok (.iload_n 2, 1) := by decide +kernel
theorem dX0_init_11 : decode cX0_init 11 = .ok (.putfield 15, 3) := by decide +kernel
theorem dX0_init_14 : decode cX0_init 14 = .ok (.aload_n 0, 1) := by decide +kernel
theorem dX0_init_15 : decode cX0_init 15 = .ok (.iload_n 3, 1) := by decide +kernel
theorem dX0_init_16 : decode cX0_init 16 = .ok (.putfield 18, 3) := by decide +kernel
theorem dX0_init_19 : decode cX0_init 19 = .ok (.aload_n 0, 1) := by decide +kernel
theorem dX0_init_20 : decode cX0_init 20 = .ok (.iload 4, 2) := by decide +kernel
theorem dX0_init_22 : decode cX0_init 22 = .ok (.putfield 21, 3) := by decide +kernel
theorem dX0_init_25 : decode cX0_init 25 = .ok (.aload_n 0, 1) := by decide +kernel
theorem dX0_init_26 : decode cX0_init 26 = .ok (.iload 5, 2) := by decide +kernel
theorem dX0_init_28 : decode cX0_init 28 = .ok (.putfield 24, 3) := by decide +kernel
theorem dX0_init_31 : decode cX0_init 31 = .ok (.aload_n 0, 1) := by decide +kernel
theorem dX0_init_32 : decode cX0_init 32 = .ok (.bipush 8, 2) := by decide +kernel
theorem dX0_init_34 : decode cX0_init 34 = .ok (.newarray .int, 2) := by decide +kernel
theorem dX0_init_36 : decode cX0_init 36 = .ok (.putfield 27, 3) := by decide +kernel
theorem dX0_init_39 : decode cX0_init 39 = .ok (.aload_n 0, 1) := by decide +kernel
theorem dX0_init_40 : decode cX0_init 40 = .ok (.iconst 0, 1) := by decide +kernel
theorem dX0_init_41 : decode cX0_init 41 = .ok (.putfield 31, 3) := by decide +kernel
theorem dX0_init_44 : decode cX0_init 44 = .ok (.aload_n 0, 1) := by decide +kernel
theorem dX0_init_45 : decode cX0_init 45 = .ok (.iconst 0, 1) := by decide +kernel
theorem dX0_init_46 : decode cX0_init 46 = .ok (.putfield 34, 3) := by decide +kernel
theorem dX0_init_49 : decode cX0_init 49 = .ok (.aload_n 0, 1) := by decide +kernel
theorem dX0_init_50 : decode cX0_init 50 = .ok (.iconst 0, 1) := by decide +kernel
theorem dX0_init_51 : decode cX0_init 51 = .ok (.putfield 37, 3) := by decide +kernel
theorem dX0_init_54 : decode cX0_init 54 = .ok (.aload_n 0, 1) := by decide +kernel
theorem dX0_init_55 : decode cX0_init 55 = .ok (.iconst 0, 1) := by decide +kernel
theorem dX0_init_56 : decode cX0_init 56 = .ok (.putfield 41, 3) := by decide +kernel
theorem dX0_init_59 : decode cX0_init 59 = .ok (.aload_n 0, 1) := by decide +kernel
theorem dX0_init_60 : decode cX0_init 60 = .ok (.iconst 0, 1) := by decide +kernel
theorem dX0_init_61 : decode cX0_init 61 = .ok (.putfield 44, 3) := by decide +kernel
theorem dX0_init_64 : decode cX0_init 64 = .ok (.return_, 1) := by decide +kernel
theorem dX0_minutesOfCell_0 : decode cX0_minutesOfCell 0 = .ok (.getstatic 47, 3) := by decide +kernel
theorem dX0_minutesOfCell_3 : decode cX0_minutesOfCell 3 = .ok (.iload_n 1, 1) := by decide +kernel
theorem dX0_minutesOfCell_4 : decode cX0_minutesOfCell 4 = .ok (.iaload, 1) := by decide +kernel
theorem dX0_minutesOfCell_5 : decode cX0_minutesOfCell 5 = .ok (.aload_n 0, 1) := by decide +kernel
theorem dX0_minutesOfCell_6 : decode cX0_minutesOfCell 6 = .ok (.getfield 18, 3) := by decide +kernel
theorem dX0_minutesOfCell_9 : decode cX0_minutesOfCell 9 = .ok (.iadd, 1) := by decide +kernel
theorem dX0_minutesOfCell_10 : decode cX0_minutesOfCell 10 = .ok (.iconst 1, 1) := by decide +kernel
theorem dX0_minutesOfCell_11 : decode cX0_minutesOfCell 11 = .ok (.isub, 1) := by decide +kernel
theorem dX0_minutesOfCell_12 : decode cX0_minutesOfCell 12 = .ok (.aload_n 0, 1) := by decide +kernel
theorem dX0_minutesOfCell_13 : decode cX0_minutesOfCell 13 = .ok (.getfield 18, 3) := by decide +kernel
theorem dX0_minutesOfCell_16 : decode cX0_minutesOfCell 16 = .ok (.idiv, 1) := by decide +kernel
theorem dX0_minutesOfCell_17 : decode cX0_minutesOfCell 17 = .ok (.ireturn, 1) := by decide +kernel
theorem dX0_minutesLeft_0 : decode cX0_minutesLeft 0 = .ok (.sipush 360, 3) := by decide +kernel
theorem dX0_minutesLeft_3 : decode cX0_minutesLeft 3 = .ok (.aload_n 0, 1) := by decide +kernel
theorem dX0_minutesLeft_4 : decode cX0_minutesLeft 4 = .ok (.getfield 31, 3) := by decide +kernel
theorem dX0_minutesLeft_7 : decode cX0_minutesLeft 7 = .ok (.isub, 1) := by decide +kernel
theorem dX0_minutesLeft_8 : decode cX0_minutesLeft 8 = .ok (.ireturn, 1) := by decide +kernel
theorem dX0_beCaught_0 : decode cX0_beCaught 0 = .ok (.aload_n 0, 1) := by decide +kernel
theorem dX0_beCaught_1 : decode cX0_beCaught 1 = .ok (.dup, 1) := by decide +kernel
theorem dX0_beCaught_2 : decode cX0_beCaught 2 = .ok (.getfield 34, 3) := by decide +kernel
theorem dX0_beCaught_5 : decode cX0_beCaught 5 = .ok (.bipush 20, 2) := by decide +kernel
theorem dX0_beCaught_7 : decode cX0_beCaught 7 = .ok (.bipush 10, 2) := by decide +kernel
theorem dX0_beCaught_9 : decode cX0_beCaught 9 = .ok (.iload_n 1, 1) := by decide +kernel
theorem dX0_beCaught_10 : decode cX0_beCaught 10 = .ok (.imul, 1) := by decide +kernel
theorem dX0_beCaught_11 : decode cX0_beCaught 11 = .ok (.iadd, 1) := by decide +kernel
theorem dX0_beCaught_12 : decode cX0_beCaught 12 = .ok (.iadd, 1) := by decide +kernel
theorem dX0_beCaught_13 : decode cX0_beCaught 13 = .ok (.putfield 34, 3) := by decide +kernel
theorem dX0_beCaught_16 : decode cX0_beCaught 16 = .ok (.aload_n 0, 1) := by decide +kernel
theorem dX0_beCaught_17 : decode cX0_beCaught 17 = .ok (.iconst 1, 1) := by decide +kernel
theorem dX0_beCaught_18 : decode cX0_beCaught 18 = .ok (.putfield 37, 3) := by decide +kernel
theorem dX0_beCaught_21 : decode cX0_beCaught 21 = .ok (.aload_n 0, 1) := by decide +kernel
theorem dX0_beCaught_22 : decode cX0_beCaught 22 = .ok (.dup, 1) := by decide +kernel
theorem dX0_beCaught_23 : decode cX0_beCaught 23 = .ok (.getfield 41, 3) := by decide +kernel
theorem dX0_beCaught_26 : decode cX0_beCaught 26 = .ok (.iconst 1, 1) := by decide +kernel
theorem dX0_beCaught_27 : decode cX0_beCaught 27 = .ok (.iadd, 1) := by decide +kernel
theorem dX0_beCaught_28 : decode cX0_beCaught 28 = .ok (.putfield 41, 3) := by decide +kernel
theorem dX0_beCaught_31 : decode cX0_beCaught 31 = .ok (.return_, 1) := by decide +kernel
theorem dX0_wrongsDone_0 : decode cX0_wrongsDone 0 = .ok (.iconst 0, 1) := by decide +kernel
theorem dX0_wrongsDone_1 : decode cX0_wrongsDone 1 = .ok (.istore_n 1, 1) := by decide +kernel
theorem dX0_wrongsDone_2 : decode cX0_wrongsDone 2 = .ok (.iconst 0, 1) := by decide +kernel
theorem dX0_wrongsDone_3 : decode cX0_wrongsDone 3 = .ok (.istore_n 2, 1) := by decide +kernel
theorem dX0_wrongsDone_4 : decode cX0_wrongsDone 4 = .ok (.iload_n 2, 1) := by decide +kernel
theorem dX0_wrongsDone_5 : decode cX0_wrongsDone 5 = .ok (.bipush 8, 2) := by decide +kernel
theorem dX0_wrongsDone_7 : decode cX0_wrongsDone 7 = .ok (.if_icmp .ge 18, 3) := by decide +kernel
theorem dX0_wrongsDone_10 : decode cX0_wrongsDone 10 = .ok (.iload_n 1, 1) := by decide +kernel
theorem dX0_wrongsDone_11 : decode cX0_wrongsDone 11 = .ok (.aload_n 0, 1) := by decide +kernel
theorem dX0_wrongsDone_12 : decode cX0_wrongsDone 12 = .ok (.getfield 27, 3) := by decide +kernel
theorem dX0_wrongsDone_15 : decode cX0_wrongsDone 15 = .ok (.iload_n 2, 1) := by decide +kernel
theorem dX0_wrongsDone_16 : decode cX0_wrongsDone 16 = .ok (.iaload, 1) := by decide +kernel
theorem dX0_wrongsDone_17 : decode cX0_wrongsDone 17 = .ok (.iadd, 1) := by decide +kernel
theorem dX0_wrongsDone_18 : decode cX0_wrongsDone 18 = .ok (.istore_n 1, 1) := by decide +kernel
theorem dX0_wrongsDone_19 : decode cX0_wrongsDone 19 = .ok (.iinc 2 1, 3) := by decide +kernel
theorem dX0_wrongsDone_22 : decode cX0_wrongsDone 22 = .ok (.goto (-18), 3) := by decide +kernel
theorem dX0_wrongsDone_25 : decode cX0_wrongsDone 25 = .ok (.iload_n 1, 1) := by decide +kernel
theorem dX0_wrongsDone_26 : decode cX0_wrongsDone 26 = .ok (.ireturn, 1) := by decide +kernel
theorem dX1_init_0 : decode cX1_init 0 = .ok (.aload_n 0, 1) := by decide +kernel
theorem dX1_init_1 : decode cX1_init 1 = .ok (.invokespecial 3, 3) := by decide +kernel
theorem dX1_init_4 : decode cX1_init 4 = .ok (.aload_n 0, 1) := by decide +kernel
theorem dX1_init_5 : decode cX1_init 5 = .ok (.iload_n 1, 1) := by decide +kernel
theorem dX1_init_6 : decode cX1_init 6 = .ok (.putfield 9, 3) := by decide +kernel
theorem dX1_init_9 : decode cX1_init 9 = .ok (.aload_n 0, 1) := by decide +kernel
theorem dX1_init_10 : decode cX1_init 10 = .ok (.aload_n 2, 1) := by decide +kernel
theorem dX1_init_11 : decode cX1_init 11 = .ok (.putfield 15, 3) := by decide +kernel
theorem dX1_init_14 : decode cX1_init 14 = .ok (.aload_n 0, 1) := by decide +kernel
theorem dX1_init_15 : decode cX1_init 15 = .ok (.aload_n 3, 1) := by decide +kernel
theorem dX1_init_16 : decode cX1_init 16 = .ok (.putfield 19, 3) := by decide +kernel
theorem dX1_init_19 : decode cX1_init 19 = .ok (.aload_n 0, 1) := by decide +kernel
theorem dX1_init_20 : decode cX1_init 20 = .ok (.iload 4, 2) := by decide +kernel
theorem dX1_init_22 : decode cX1_init 22 = .ok (.putfield 23, 3) := by decide +kernel
theorem dX1_init_25 : decode cX1_init 25 = .ok (.aload_n 0, 1) := by decide +kernel
theorem dX1_init_26 : decode cX1_init 26 = .ok (.iload 5, 2) := by decide +kernel
theorem dX1_init_28 : decode cX1_init 28 = .ok (.putfield 26, 3) := by decide +kernel
theorem dX1_init_31 : decode cX1_init 31 = .ok (.aload_n 0, 1) := by decide +kernel
theorem dX1_init_32 : decode cX1_init 32 = .ok (.iload 6, 2) := by decide +kernel
theorem dX1_init_34 : decode cX1_init 34 = .ok (.putfield 29, 3) := by decide +kernel
theorem dX1_init_37 : decode cX1_init 37 = .ok (.aload_n 0, 1) := by decide +kernel
theorem dX1_init_38 : decode cX1_init 38 = .ok (.iload 7, 2) := by decide +kernel
theorem dX1_init_40 : decode cX1_init 40 = .ok (.putfield 32, 3) := by decide +kernel
theorem dX1_init_43 : decode cX1_init 43 = .ok (.aload_n 0, 1) := by decide +kernel
theorem dX1_init_44 : decode cX1_init 44 = .ok (.iconst 0, 1) := by decide +kernel
theorem dX1_init_45 : decode cX1_init 45 = .ok (.putfield 35, 3) := by decide +kernel
theorem dX1_init_48 : decode cX1_init 48 = .ok (.aload_n 0, 1) := by decide +kernel
theorem dX1_init_49 : decode cX1_init 49 = .ok (.iconst 0, 1) := by decide +kernel
theorem dX1_init_50 : decode cX1_init 50 = .ok (.putfield 38, 3) := by decide +kernel
theorem dX1_init_53 : decode cX1_init 53 = .ok (.aload_n 0, 1) := by decide +kernel
theorem dX1_init_54 : decode cX1_init 54 = .ok (.iconst 0, 1) := by decide +kernel
theorem dX1_init_55 : decode cX1_init 55 = .ok (.putfield 42, 3) := by decide +kernel
theorem dX1_init_58 : decode cX1_init 58 = .ok (.aload_n 0, 1) := by decide +kernel
theorem dX1_init_59 : decode cX1_init 59 = .ok (.iconst 0, 1) := by decide +kernel
theorem dX1_init_60 : decode cX1_init 60 = .ok (.putfield 45, 3) := by decide +kernel
theorem dX1_init_63 : decode cX1_init 63 = .ok (.return_, 1) := by decide +kernel
theorem dX1_weight_0 : decode cX1_weight 0 = .ok (.getstatic 48, 3) := by decide +kernel
theorem dX1_weight_3 : decode cX1_weight 3 = .ok (.aload_n 0, 1) := by decide +kernel
theorem dX1_weight_4 : decode cX1_weight 4 = .ok (.getfield 29, 3) := by decide +kernel
theorem dX1_weight_7 : decode cX1_weight 7 = .ok (.iaload, 1) := by decide +kernel
theorem dX1_weight_8 : decode cX1_weight 8 = .ok (.ireturn, 1) := by decide +kernel
theorem dX1_cellsSeen_0 : decode cX1_cellsSeen 0 = .ok (.aload_n 0, 1) := by decide +kernel
theorem dX1_cellsSeen_1 : decode cX1_cellsSeen 1 = .ok (.getfield 19, 3) := by decide +kernel
theorem dX1_cellsSeen_4 : decode cX1_cellsSeen 4 = .ok (.aload_n 0, 1) := by decide +kernel
theorem dX1_cellsSeen_5 : decode cX1_cellsSeen 5 = .ok (.invokevirtual 52, 3) := by decide +kernel
theorem dX1_cellsSeen_8 : decode cX1_cellsSeen 8 = .ok (.ireturn, 1) := by decide +kernel
theorem dX1_isSeen_0 : decode cX1_isSeen 0 = .ok (.aload_n 0, 1) := by decide +kernel
theorem dX1_isSeen_1 : decode cX1_isSeen 1 = .ok (.invokevirtual 58, 3) := by decide +kernel
theorem dX1_isSeen_4 : decode cX1_isSeen 4 = .ok (.ifCond .le 7, 3) := by decide +kernel
theorem dX1_isSeen_7 : decode cX1_isSeen 7 = .ok (.iconst 1, 1) := by decide +kernel
theorem dX1_isSeen_8 : decode cX1_isSeen 8 = .ok (.goto 4, 3) := by decide +kernel
theorem dX1_isSeen_11 : decode cX1_isSeen 11 = .ok (.iconst 0, 1) := by decide +kernel
theorem dX1_isSeen_12 : decode cX1_isSeen 12 = .ok (.ireturn, 1) := by decide +kernel
theorem dX1_hasRights_0 : decode cX1_hasRights 0 = .ok (.aload_n 0, 1) := by decide +kernel
theorem dX1_hasRights_1 : decode cX1_hasRights 1 = .ok (.getfield 38, 3) := by decide +kernel
theorem dX1_hasRights_4 : decode cX1_hasRights 4 = .ok (.ifCond .eq 22, 3) := by decide +kernel
theorem dX1_hasRights_7 : decode cX1_hasRights 7 = .ok (.aload_n 0, 1) := by decide +kernel
theorem dX1_hasRights_8 : decode cX1_hasRights 8 = .ok (.getfield 29, 3) := by decide +kernel
theorem dX1_hasRights_11 : decode cX1_hasRights 11 = .ok (.iconst 2, 1) := by decide +kernel
theorem dX1_hasRights_12 : decode cX1_hasRights 12 = .ok (.if_icmp .lt 14, 3) := by decide +kernel
theorem dX1_hasRights_15 : decode cX1_hasRights 15 = .ok (.aload_n 0, 1) := by decide +kernel
theorem dX1_hasRights_16 : decode cX1_hasRights 16 = .ok (.getfield 42, 3) := by decide +kernel
theorem dX1_hasRights_19 : decode cX1_hasRights 19 = .ok (.ifCond .ne 7, 3) := by decide +kernel
theorem dX1_hasRights_22 : decode cX1_hasRights 22 = .ok (.iconst 1, 1) := by decide +kernel
theorem dX1_hasRights_23 : decode cX1_hasRights 23 = .ok (.goto 4, 3) := by decide +kernel
theorem dX1_hasRights_26 : decode cX1_hasRights 26 = .ok (.iconst 0, 1) := by decide +kernel
theorem dX1_hasRights_27 : decode cX1_hasRights 27 = .ok (.ireturn, 1) := by decide +kernel
theorem dX1_slantShown_0 : decode cX1_slantShown 0 = .ok (.aload_n 0, 1) := by decide +kernel
theorem dX1_slantShown_1 : decode cX1_slantShown 1 = .ok (.getfield 15, 3) := by decide +kernel
theorem dX1_slantShown_4 : decode cX1_slantShown 4 = .ok (.getfield 62, 3) := by decide +kernel
theorem dX1_slantShown_7 : decode cX1_slantShown 7 = .ok (.aload_n 0, 1) := by decide +kernel
theorem dX1_slantShown_8 : decode cX1_slantShown 8 = .ok (.getfield 32, 3) := by decide +kernel
theorem dX1_slantShown_11 : decode cX1_slantShown 11 = .ok (.iadd, 1) := by decide +kernel
theorem dX1_slantShown_12 : decode cX1_slantShown 12 = .ok (.ireturn, 1) := by decide +kernel
theorem dX1_roundShown_0 : decode cX1_roundShown 0 = .ok (.aload_n 0, 1) := by decide +kernel
theorem dX1_roundShown_1 : decode cX1_roundShown 1 = .ok (.getfield 15, 3) := by decide +kernel
theorem dX1_roundShown_4 : decode cX1_roundShown 4 = .ok (.getfield 67, 3) := by decide +kernel
theorem dX1_roundShown_7 : decode cX1_roundShown 7 = .ok (.aload_n 0, 1) := by decide +kernel
theorem dX1_roundShown_8 : decode cX1_roundShown 8 = .ok (.getfield 32, 3) := by decide +kernel
theorem dX1_roundShown_11 : decode cX1_roundShown 11 = .ok (.isub, 1) := by decide +kernel
theorem dX1_roundShown_12 : decode cX1_roundShown 12 = .ok (.ireturn, 1) := by decide +kernel
theorem dX2_init_0 : decode cX2_init 0 = .ok (.aload_n 0, 1) := by decide +kernel
theorem dX2_init_1 : decode cX2_init 1 = .ok (.invokespecial 3, 3) := by decide +kernel
theorem dX2_init_4 : decode cX2_init 4 = .ok (.aload_n 0, 1) := by decide +kernel
theorem dX2_init_5 : decode cX2_init 5 = .ok (.iload_n 1, 1) := by decide +kernel
theorem dX2_init_6 : decode cX2_init 6 = .ok (.putfield 9, 3) := by decide +kernel
theorem dX2_init_9 : decode cX2_init 9 = .ok (.aload_n 0, 1) := by decide +kernel
theorem dX2_init_10 : decode cX2_init 10 = .ok (.iload_n 2, 1) := by decide +kernel
theorem dX2_init_11 : decode cX2_init 11 = .ok (.putfield 15, 3) := by decide +kernel
theorem dX2_init_14 : decode cX2_init 14 = .ok (.aload_n 0, 1) := by decide +kernel
theorem dX2_init_15 : decode cX2_init 15 = .ok (.iload_n 3, 1) := by decide +kernel
theorem dX2_init_16 : decode cX2_init 16 = .ok (.putfield 18, 3) := by decide +kernel
theorem dX2_init_19 : decode cX2_init 19 = .ok (.aload_n 0, 1) := by decide +kernel
theorem dX2_init_20 : decode cX2_init 20 = .ok (.iload 4, 2) := by decide +kernel
theorem dX2_init_22 : decode cX2_init 22 = .ok (.putfield 21, 3) := by decide +kernel
theorem dX2_init_25 : decode cX2_init 25 = .ok (.aload_n 0, 1) := by decide +kernel
theorem dX2_init_26 : decode cX2_init 26 = .ok (.iload 5, 2) := by decide +kernel
theorem dX2_init_28 : decode cX2_init 28 = .ok (.putfield 24, 3) := by decide +kernel
theorem dX2_init_31 : decode cX2_init 31 = .ok (.aload_n 0, 1) := by decide +kernel
theorem dX2_init_32 : decode cX2_init 32 = .ok (.iload_n 2, 1) := by decide +kernel
theorem dX2_init_33 : decode cX2_init 33 = .ok (.anewarray 27, 3) := by decide +kernel
theorem dX2_init_36 : decode cX2_init 36 = .ok (.putfield 29, 3) := by decide +kernel
theorem dX2_init_39 : decode cX2_init 39 = .ok (.aload_n 0, 1) := by decide +kernel
theorem dX2_init_40 : decode cX2_init 40 = .ok (.iconst (-1), 1) := by decide +kernel
theorem dX2_init_41 : decode cX2_init 41 = .ok (.putfield 33, 3) := by decide +kernel
theorem dX2_init_44 : decode cX2_init 44 = .ok (.aload_n 0, 1) := by decide +kernel
theorem dX2_init_45 : decode cX2_init 45 = .ok (.iconst (-1), 1) := by decide +kernel
theorem dX2_init_46 : decode cX2_init 46 = .ok (.putfield 36, 3) := by decide +kernel
theorem dX2_init_49 : decode cX2_init 49 = .ok (.aload_n 0, 1) := by decide +kernel
theorem dX2_init_50 : decode cX2_init 50 = .ok (.iconst 0, 1) := by decide +kernel
theorem dX2_init_51 : decode cX2_init 51 = .ok (.putfield 39, 3) := by decide +kernel
theorem dX2_init_54 : decode cX2_init 54 = .ok (.aload_n 0, 1) := by decide +kernel
theorem dX2_init_55 : decode cX2_init 55 = .ok (.iconst (-1), 1) := by decide +kernel
theorem dX2_init_56 : decode cX2_init 56 = .ok (.putfield 42, 3) := by decide +kernel
theorem dX2_init_59 : decode cX2_init 59 = .ok (.return_, 1) := by decide +kernel
theorem dX2_hasCells_0 : decode cX2_hasCells 0 = .ok (.iload_n 1, 1) := by decide +kernel
theorem dX2_hasCells_1 : decode cX2_hasCells 1 = .ok (.ifCond .lt 22, 3) := by decide +kernel
theorem dX2_hasCells_4 : decode cX2_hasCells 4 = .ok (.iload_n 2, 1) := by decide +kernel
theorem dX2_hasCells_5 : decode cX2_hasCells 5 = .ok (.iconst 1, 1) := by decide +kernel
theorem dX2_hasCells_6 : decode cX2_hasCells 6 = .ok (.if_icmp .lt 17, 3) := by decide +kernel
theorem dX2_hasCells_9 : decode cX2_hasCells 9 = .ok (.iload_n 2, 1) := by decide +kernel
theorem dX2_hasCells_10 : decode cX2_hasCells 10 = .ok (.aload_n 0, 1) := by decide +kernel
theorem dX2_hasCells_11 : decode cX2_hasCells 11 = .ok (.getfield 15, 3) := by decide +kernel
theorem dX2_hasCells_14 : decode cX2_hasCells 14 = .ok (.iload_n 1, 1) := by decide +kernel
theorem dX2_hasCells_15 : decode cX2_hasCells 15 = .ok (.isub, 1) := by decide +kernel
theorem dX2_hasCells_16 : decode cX2_hasCells 16 = .ok (.if_icmp .gt 7, 3) := by decide +kernel
theorem dX2_hasCells_19 : decode cX2_hasCells 19 = .ok (.iconst 1, 1) := by decide +kernel
theorem dX2_hasCells_20 : decode cX2_hasCells 20 = .ok (.goto 4, 3) := by decide +kernel
theorem dX2_hasCells_23 : decode cX2_hasCells 23 = .ok (.iconst 0, 1) := by decide +kernel
theorem dX2_hasCells_24 : decode cX2_hasCells 24 = .ok (.ireturn, 1) := by decide +kernel
theorem dX2_permittedCrew_0 : decode cX2_permittedCrew 0 = .ok (.iload_n 1, 1) := by decide +kernel
theorem dX2_permittedCrew_1 : decode cX2_permittedCrew 1 = .ok (.aload_n 0, 1) := by decide +kernel
theorem dX2_permittedCrew_2 : decode cX2_permittedCrew 2 = .ok (.getfield 36, 3) := by decide +kernel
theorem dX2_permittedCrew_5 : decode cX2_permittedCrew 5 = .ok (.if_icmp .gt 10, 3) := by decide +kernel
theorem dX2_permittedCrew_8 : decode cX2_permittedCrew 8 = .ok (.aload_n 0, 1) := by decide +kernel
theorem dX2_permittedCrew_9 : decode cX2_permittedCrew 9 = .ok (.getfield 33, 3) := by decide +kernel
theorem dX2_permittedCrew_12 : decode cX2_permittedCrew 12 = .ok (.goto 4, 3) := by decide +kernel
theorem dX2_permittedCrew_15 : decode cX2_permittedCrew 15 = .ok (.iconst (-1), 1) := by decide +kernel
theorem dX2_permittedCrew_16 : decode cX2_permittedCrew 16 = .ok (.ireturn, 1) := by decide +kernel
theorem dX2_isWatchedWithin_0 : decode cX2_isWatchedWithin 0 = .ok (.iload_n 1, 1) := by decide +kernel
theorem dX2_isWatchedWithin_1 : decode cX2_isWatchedWithin 1 = .ok (.aload_n 0, 1) := by decide +kernel
theorem dX2_isWatchedWithin_2 : decode cX2_isWatchedWithin 2 = .ok (.getfield 42, 3) := by decide +kernel
theorem dX2_isWatchedWithin_5 : decode cX2_isWatchedWithin 5 = .ok (.if_icmp .gt 17, 3) := by decide +kernel
theorem dX2_isWatchedWithin_8 : decode cX2_isWatchedWithin 8 = .ok (.iload_n 1, 1) := by decide +kernel
theorem dX2_isWatchedWithin_9 : decode cX2_isWatchedWithin 9 = .ok (.iload_n 2, 1) := by decide +kernel
theorem dX2_isWatchedWithin_10 : decode cX2_isWatchedWithin 10 = .ok (.iadd, 1) := by decide +kernel
theorem dX2_isWatchedWithin_11 : decode cX2_isWatchedWithin 11 = .ok (.aload_n 0, 1) := by decide +kernel
theorem dX2_isWatchedWithin_12 : decode cX2_isWatchedWithin 12 = .ok (.getfield 39, 3) := by decide +kernel
theorem dX2_isWatchedWithin_15 : decode cX2_isWatchedWithin 15 = .ok (.if_icmp .le 7, 3) := by decide +kernel
theorem dX2_isWatchedWithin_18 : decode cX2_isWatchedWithin 18 = .ok (.iconst 1, 1) := by decide +kernel
theorem dX2_isWatchedWithin_19 : decode cX2_isWatchedWithin 19 = .ok (.goto 4, 3) := by decide +kernel
theorem dX2_isWatchedWithin_22 : decode cX2_isWatchedWithin 22 = .ok (.iconst 0, 1) := by decide +kernel
theorem dX2_isWatchedWithin_23 : decode cX2_isWatchedWithin 23 = .ok (.ireturn, 1) := by decide +kernel
theorem dX2_isCleanedIn_0 : decode cX2_isCleanedIn 0 = .ok (.aload_n 0, 1) := by decide +kernel
theorem dX2_isCleanedIn_1 : decode cX2_isCleanedIn 1 = .ok (.getfield 24, 3) := by decide +kernel
theorem dX2_isCleanedIn_4 : decode cX2_isCleanedIn 4 = .ok (.ifCond .le 16, 3) := by decide +kernel
theorem dX2_isCleanedIn_7 : decode cX2_isCleanedIn 7 = .ok (.iload_n 1, 1) := by decide +kernel
theorem dX2_isCleanedIn_8 : decode cX2_isCleanedIn 8 = .ok (.aload_n 0, 1) := by decide +kernel
theorem dX2_isCleanedIn_9 : decode cX2_isCleanedIn 9 = .ok (.getfield 24, 3) := by decide +kernel
theorem dX2_isCleanedIn_12 : decode cX2_isCleanedIn 12 = .ok (.irem, 1) := by decide +kernel
theorem dX2_isCleanedIn_13 : decode cX2_isCleanedIn 13 = .ok (.ifCond .ne 7, 3) := by decide +kernel
theorem dX2_isCleanedIn_16 : decode cX2_isCleanedIn 16 = .ok (.iconst 1, 1) := by decide +kernel
theorem dX2_isCleanedIn_17 : decode cX2_isCleanedIn 17 = .ok (.goto 4, 3) := by decide +kernel
theorem dX2_isCleanedIn_20 : decode cX2_isCleanedIn 20 = .ok (.iconst 0, 1) := by decide +kernel
theorem dX2_isCleanedIn_21 : decode cX2_isCleanedIn 21 = .ok (.ireturn, 1) := by decide +kernel
theorem dX2_showsWithin_0 : decode cX2_showsWithin 0 = .ok (.iload_n 2, 1) := by decide +kernel
theorem dX2_showsWithin_1 : decode cX2_showsWithin 1 = .ok (.istore 4, 2) := by decide +kernel
theorem dX2_showsWithin_3 : decode cX2_showsWithin 3 = .ok (.iload 4, 2) := by decide +kernel
theorem dX2_showsWithin_5 : decode cX2_showsWithin 5 = .ok (.iload_n 3, 1) := by decide +kernel
theorem dX2_showsWithin_6 : decode cX2_showsWithin 6 = .ok (.if_icmp .ge 22, 3) := by decide +kernel
theorem dX2_showsWithin_9 : decode cX2_showsWithin 9 = .ok (.aload_n 0, 1) := by decide +kernel
theorem dX2_showsWithin_10 : decode cX2_showsWithin 10 = .ok (.getfield 29, 3) := by decide +kernel
theorem dX2_showsWithin_13 : decode cX2_showsWithin 13 = .ok (.iload 4, 2) := by decide +kernel
theorem dX2_showsWithin_15 : decode cX2_showsWithin 15 = .ok (.aaload, 1) := by decide +kernel
theorem dX2_showsWithin_16 : decode cX2_showsWithin 16 = .ok (.aload_n 1, 1) := by decide +kernel
theorem dX2_showsWithin_17 : decode cX2_showsWithin 17 = .ok (.if_acmp .ne 5, 3) := by decide +kernel
theorem dX2_showsWithin_20 : decode cX2_showsWithin 20 = .ok (.iconst 1, 1) := by decide +kernel
theorem dX2_showsWithin_21 : decode cX2_showsWithin 21 = .ok (.ireturn, 1) := by decide +kernel
theorem dX2_showsWithin_22 : decode cX2_showsWithin 22 = .ok (.iinc 4 1, 3) := by decide +kernel
theorem dX2_showsWithin_25 : decode cX2_showsWithin 25 = .ok (.goto (-22), 3) := by decide +kernel
theorem dX2_showsWithin_28 : decode cX2_showsWithin 28 = .ok (.iconst 0, 1) := by decide +kernel
theorem dX2_showsWithin_29 : decode cX2_showsWithin 29 = .ok (.ireturn, 1) := by decide +kernel
theorem dX2_cellsShowing_0 : decode cX2_cellsShowing 0 = .ok (.iconst 0, 1) := by decide +kernel
theorem dX2_cellsShowing_1 : decode cX2_cellsShowing 1 = .ok (.istore_n 2, 1) := by decide +kernel
theorem dX2_cellsShowing_2 : decode cX2_cellsShowing 2 = .ok (.iconst 0, 1) := by decide +kernel
theorem dX2_cellsShowing_3 : decode cX2_cellsShowing 3 = .ok (.istore_n 3, 1) := by decide +kernel
theorem dX2_cellsShowing_4 : decode cX2_cellsShowing 4 = .ok (.iload_n 3, 1) := by decide +kernel
theorem dX2_cellsShowing_5 : decode cX2_cellsShowing 5 = .ok (.aload_n 0, 1) := by decide +kernel
theorem dX2_cellsShowing_6 : decode cX2_cellsShowing 6 = .ok (.getfield 15, 3) := by decide +kernel
theorem dX2_cellsShowing_9 : decode cX2_cellsShowing 9 = .ok (.if_icmp .ge 22, 3) := by decide +kernel
theorem dX2_cellsShowing_12 : decode cX2_cellsShowing 12 = .ok (.aload_n 0, 1) := by decide +kernel
theorem dX2_cellsShowing_13 : decode cX2_cellsShowing 13 = .ok (.getfield 29, 3) := by decide +kernel
theorem dX2_cellsShowing_16 : decode cX2_cellsShowing 16 = .ok (.iload_n 3, 1) := by decide +kernel
theorem dX2_cellsShowing_17 : decode cX2_cellsShowing 17 = .ok (.aaload, 1) := by decide +kernel
theorem dX2_cellsShowing_18 : decode cX2_cellsShowing 18 = .ok (.aload_n 1, 1) := by decide +kernel
theorem dX2_cellsShowing_19 : decode cX2_cellsShowing 19 = .ok (.if_acmp .ne 6, 3) := by decide +kernel
theorem dX2_cellsShowing_22 : decode cX2_cellsShowing 22 = .ok (.iinc 2 1, 3) := by decide +kernel
theorem dX2_cellsShowing_25 : decode cX2_cellsShowing 25 = .ok (.iinc 3 1, 3) := by decide +kernel
theorem dX2_cellsShowing_28 : decode cX2_cellsShowing 28 = .ok (.goto (-24), 3) := by decide +kernel
theorem dX2_cellsShowing_31 : decode cX2_cellsShowing 31 = .ok (.iload_n 2, 1) := by decide +kernel
theorem dX2_cellsShowing_32 : decode cX2_cellsShowing 32 = .ok (.ireturn, 1) := by decide +kernel
theorem dX2_paintedCells_0 : decode cX2_paintedCells 0 = .ok (.iconst 0, 1) := by decide +kernel
theorem dX2_paintedCells_1 : decode cX2_paintedCells 1 = .ok (.istore_n 1, 1) := by decide +kernel
theorem dX2_paintedCells_2 : decode cX2_paintedCells 2 = .ok (.iconst 0, 1) := by decide +kernel
theorem dX2_paintedCells_3 : decode cX2_paintedCells 3 = .ok (.istore_n 2, 1) := by decide +kernel
theorem dX2_paintedCells_4 : decode cX2_paintedCells 4 = .ok (.iload_n 2, 1) := by decide +kernel
theorem dX2_paintedCells_5 : decode cX2_paintedCells 5 = .ok (.aload_n 0, 1) := by decide +kernel
theorem dX2_paintedCells_6 : decode cX2_paintedCells 6 = .ok (.getfield 15, 3) := by decide +kernel
theorem dX2_paintedCells_9 : decode cX2_paintedCells 9 = .ok (.if_icmp .ge 21, 3) := by decide +kernel
theorem dX2_paintedCells_12 : decode cX2_paintedCells 12 = .ok (.aload_n 0, 1) := by decide +kernel
theorem dX2_paintedCells_13 : decode cX2_paintedCells 13 = .ok (.getfield 29, 3) := by decide +kernel
theorem dX2_paintedCells_16 : decode cX2_paintedCells 16 = .ok (.iload_n 2, 1) := by decide +kernel
theorem dX2_paintedCells_17 : decode cX2_paintedCells 17 = .ok (.aaload, 1) := by decide +kernel
theorem dX2_paintedCells_18 : decode cX2_paintedCells 18 = .ok (.ifnull 6, 3) := by decide +kernel
theorem dX2_paintedCells_21 : decode cX2_paintedCells 21 = .ok (.iinc 1 1, 3) := by decide +kernel
theorem dX2_paintedCells_24 : decode cX2_paintedCells 24 = .ok (.iinc 2 1, 3) := by decide +kernel
theorem dX2_paintedCells_27 : decode cX2_paintedCells 27 = .ok (.goto (-23), 3) := by decide +kernel
theorem dX2_paintedCells_30 : decode cX2_paintedCells 30 = .ok (.iload_n 1, 1) := by decide +kernel
theorem dX2_paintedCells_31 : decode cX2_paintedCells 31 = .ok (.ireturn, 1) := by decide +kernel
theorem dX2_fameOf_0 : decode cX2_fameOf 0 = .ok (.iconst 0, 1) := by decide +kernel
theorem dX2_fameOf_1 : decode cX2_fameOf 1 = .ok (.istore_n 2, 1) := by decide +kernel
theorem dX2_fameOf_2 : decode cX2_fameOf 2 = .ok (.iconst 0, 1) := by decide +kernel
theorem dX2_fameOf_3 : decode cX2_fameOf 3 = .ok (.istore_n 3, 1) := by decide +kernel
theorem dX2_fameOf_4 : decode cX2_fameOf 4 = .ok (.iload_n 3, 1) := by decide +kernel
theorem dX2_fameOf_5 : decode cX2_fameOf 5 = .ok (.aload_n 0, 1) := by decide +kernel
theorem dX2_fameOf_6 : decode cX2_fameOf 6 = .ok (.getfield 15, 3) := by decide +kernel
theorem dX2_fameOf_9 : decode cX2_fameOf 9 = .ok (.if_icmp .ge 18, 3) := by decide +kernel
theorem dX2_fameOf_12 : decode cX2_fameOf 12 = .ok (.iload_n 2, 1) := by decide +kernel
theorem dX2_fameOf_13 : decode cX2_fameOf 13 = .ok (.aload_n 0, 1) := by decide +kernel
theorem dX2_fameOf_14 : decode cX2_fameOf 14 = .ok (.iload_n 3, 1) := by decide +kernel
theorem dX2_fameOf_15 : decode cX2_fameOf 15 = .ok (.aload_n 1, 1) := by decide +kernel
theorem dX2_fameOf_16 : decode cX2_fameOf 16 = .ok (.invokevirtual 45, 3) := by decide +kernel
theorem dX2_fameOf_19 : decode cX2_fameOf 19 = .ok (.iadd, 1) := by decide +kernel
theorem dX2_fameOf_20 : decode cX2_fameOf 20 = .ok (.istore_n 2, 1) := by decide +kernel
theorem dX2_fameOf_21 : decode cX2_fameOf 21 = .ok (.iinc 3 1, 3) := by decide +kernel
theorem dX2_fameOf_24 : decode cX2_fameOf 24 = .ok (.goto (-20), 3) := by decide +kernel
theorem dX2_fameOf_27 : decode cX2_fameOf 27 = .ok (.iload_n 2, 1) := by decide +kernel
theorem dX2_fameOf_28 : decode cX2_fameOf 28 = .ok (.ireturn, 1) := by decide +kernel
theorem dX2_fameAt_0 : decode cX2_fameAt 0 = .ok (.aload_n 0, 1) := by decide +kernel
theorem dX2_fameAt_1 : decode cX2_fameAt 1 = .ok (.getfield 29, 3) := by decide +kernel
theorem dX2_fameAt_4 : decode cX2_fameAt 4 = .ok (.iload_n 1, 1) := by decide +kernel
theorem dX2_fameAt_5 : decode cX2_fameAt 5 = .ok (.aaload, 1) := by decide +kernel
theorem dX2_fameAt_6 : decode cX2_fameAt 6 = .ok (.astore_n 3, 1) := by decide +kernel
theorem dX2_fameAt_7 : decode cX2_fameAt 7 = .ok (.aload_n 3, 1) := by decide +kernel
theorem dX2_fameAt_8 : decode cX2_fameAt 8 = .ok (.ifnull 23, 3) := by decide +kernel
theorem dX2_fameAt_11 : decode cX2_fameAt 11 = .ok (.aload_n 3, 1) := by decide +kernel
theorem dX2_fameAt_12 : decode cX2_fameAt 12 = .ok (.getfield 49, 3) := by decide +kernel
theorem dX2_fameAt_15 : decode cX2_fameAt 15 = .ok (.aload_n 2, 1) := by decide +kernel
theorem dX2_fameAt_16 : decode cX2_fameAt 16 = .ok (.if_acmp .ne 15, 3) := by decide +kernel
theorem dX2_fameAt_19 : decode cX2_fameAt 19 = .ok (.aload_n 0, 1) := by decide +kernel
theorem dX2_fameAt_20 : decode cX2_fameAt 20 = .ok (.getfield 18, 3) := by decide +kernel
theorem dX2_fameAt_23 : decode cX2_fameAt 23 = .ok (.aload_n 3, 1) := by decide +kernel
theorem dX2_fameAt_24 : decode cX2_fameAt 24 = .ok (.invokevirtual 53, 3) := by decide +kernel
theorem dX2_fameAt_27 : decode cX2_fameAt 27 = .ok (.imul, 1) := by decide +kernel
theorem dX2_fameAt_28 : decode cX2_fameAt 28 = .ok (.goto 4, 3) := by decide +kernel
theorem dX2_fameAt_31 : decode cX2_fameAt 31 = .ok (.iconst 0, 1) := by decide +kernel
theorem dX2_fameAt_32 : decode cX2_fameAt 32 = .ok (.ireturn, 1) := by decide +kernel
theorem dX2_cover_0 : decode cX2_cover 0 = .ok (.aload_n 1, 1) := by decide +kernel
theorem dX2_cover_1 : decode cX2_cover 1 = .ok (.getfield 57, 3) := by decide +kernel
theorem dX2_cover_4 : decode cX2_cover 4 = .ok (.istore_n 2, 1) := by decide +kernel
theorem dX2_cover_5 : decode cX2_cover 5 = .ok (.iload_n 2, 1) := by decide +kernel
theorem dX2_cover_6 : decode cX2_cover 6 = .ok (.aload_n 1, 1) := by decide +kernel
theorem dX2_cover_7 : decode cX2_cover 7 = .ok (.getfield 57, 3) := by decide +kernel
theorem dX2_cover_10 : decode cX2_cover 10 = .ok (.aload_n 1, 1) := by decide +kernel
theorem dX2_cover_11 : decode cX2_cover 11 = .ok (.getfield 60, 3) := by decide +kernel
theorem dX2_cover_14 : decode cX2_cover 14 = .ok (.iadd, 1) := by decide +kernel
theorem dX2_cover_15 : decode cX2_cover 15 = .ok (.if_icmp .ge 16, 3) := by decide +kernel
theorem dX2_cover_18 : decode cX2_cover 18 = .ok (.aload_n 0, 1) := by decide +kernel
theorem dX2_cover_19 : decode cX2_cover 19 = .ok (.getfield 29, 3) := by decide +kernel
theorem dX2_cover_22 : decode cX2_cover 22 = .ok (.iload_n 2, 1) := by decide +kernel
theorem dX2_cover_23 : decode cX2_cover 23 = .ok (.aload_n 1, 1) := by decide +kernel
theorem dX2_cover_24 : decode cX2_cover 24 = .ok (.aastore, 1) := by decide +kernel
theorem dX2_cover_25 : decode cX2_cover 25 = .ok (.iinc 2 1, 3) := by decide +kernel
theorem dX2_cover_28 : decode cX2_cover 28 = .ok (.goto (-23), 3) := by decide +kernel
theorem dX2_cover_31 : decode cX2_cover 31 = .ok (.return_, 1) := by decide +kernel
theorem dX2_cutOut_0 : decode cX2_cutOut 0 = .ok (.iconst 0, 1) := by decide +kernel
theorem dX2_cutOut_1 : decode cX2_cutOut 1 = .ok (.istore_n 2, 1) := by decide +kernel
theorem dX2_cutOut_2 : decode cX2_cutOut 2 = .ok (.iload_n 2, 1) := by decide +kernel
theorem dX2_cutOut_3 : decode cX2_cutOut 3 = .ok (.aload_n 0, 1) := by decide +kernel
theorem dX2_cutOut_4 : decode cX2_cutOut 4 = .ok (.getfield 15, 3) := by decide +kernel
theorem dX2_cutOut_7 : decode cX2_cutOut 7 = .ok (.if_icmp .ge 26, 3) := by decide +kernel
theorem dX2_cutOut_10 : decode cX2_cutOut 10 = .ok (.aload_n 0, 1) := by decide +kernel
theorem dX2_cutOut_11 : decode cX2_cutOut 11 = .ok (.getfield 29, 3) := by decide +kernel
theorem dX2_cutOut_14 : decode cX2_cutOut 14 = .ok (.iload_n 2, 1) := by decide +kernel
theorem dX2_cutOut_15 : decode cX2_cutOut 15 = .ok (.aaload, 1) := by decide +kernel
theorem dX2_cutOut_16 : decode cX2_cutOut 16 = .ok (.aload_n 1, 1) := by decide +kernel
theorem dX2_cutOut_17 : decode cX2_cutOut 17 = .ok (.if_acmp .ne 10, 3) := by decide +kernel
theorem dX2_cutOut_20 : decode cX2_cutOut 20 = .ok (.aload_n 0, 1) := by decide +kernel
theorem dX2_cutOut_21 : decode cX2_cutOut 21 = .ok (.getfield 29, 3) := by decide +kernel
theorem dX2_cutOut_24 : decode cX2_cutOut 24 = .ok (.iload_n 2, 1) := by decide +kernel
theorem dX2_cutOut_25 : decode cX2_cutOut 25 = .ok (.aconst_null, 1) := by decide +kernel
theorem dX2_cutOut_26 : decode cX2_cutOut 26 = .ok (.aastore, 1) := by decide +kernel
theorem dX2_cutOut_27 : decode cX2_cutOut 27 = .ok (.iinc 2 1, 3) := by decide +kernel
theorem dX2_cutOut_30 : decode cX2_cutOut 30 = .ok (.goto (-28), 3) := by decide +kernel
theorem dX2_cutOut_33 : decode cX2_cutOut 33 = .ok (.return_, 1) := by decide +kernel
theorem dX2_bareAll_0 : decode cX2_bareAll 0 = .ok (.iconst 0, 1) := by decide +kernel
theorem dX2_bareAll_1 : decode cX2_bareAll 1 = .ok (.istore_n 1, 1) := by decide +kernel
theorem dX2_bareAll_2 : decode cX2_bareAll 2 = .ok (.iload_n 1, 1) := by decide +kernel
theorem dX2_bareAll_3 : decode cX2_bareAll 3 = .ok (.aload_n 0, 1) := by decide +kernel
theorem dX2_bareAll_4 : decode cX2_bareAll 4 = .ok (.getfield 15, 3) := by decide +kernel
theorem dX2_bareAll_7 : decode cX2_bareAll 7 = .ok (.if_icmp .ge 16, 3) := by decide +kernel
theorem dX2_bareAll_10 : decode cX2_bareAll 10 = .ok (.aload_n 0, 1) := by decide +kernel
theorem dX2_bareAll_11 : decode cX2_bareAll 11 = .ok (.getfield 29, 3) := by decide +kernel
theorem dX2_bareAll_14 : decode cX2_bareAll 14 = .ok (.iload_n 1, 1) := by decide +kernel
theorem dX2_bareAll_15 : decode cX2_bareAll 15 = .ok (.aconst_null, 1) := by decide +kernel
theorem dX2_bareAll_16 : decode cX2_bareAll 16 = .ok (.aastore, 1) := by decide +kernel
theorem dX2_bareAll_17 : decode cX2_bareAll 17 = .ok (.iinc 1 1, 3) := by decide +kernel
theorem dX2_bareAll_20 : decode cX2_bareAll 20 = .ok (.goto (-18), 3) := by decide +kernel
theorem dX2_bareAll_23 : decode cX2_bareAll 23 = .ok (.return_, 1) := by decide +kernel
theorem dX3_init_0 : decode cX3_init 0 = .ok (.aload_n 0, 1) := by decide +kernel
theorem dX3_init_1 : decode cX3_init 1 = .ok (.invokespecial 1, 3) := by decide +kernel
theorem dX3_init_4 : decode cX3_init 4 = .ok (.aload_n 0, 1) := by decide +kernel
theorem dX3_init_5 : decode cX3_init 5 = .ok (.new 7, 3) := by decide +kernel
theorem dX3_init_8 : decode cX3_init 8 = .ok (.dup, 1) := by decide +kernel
theorem dX3_init_9 : decode cX3_init 9 = .ok (.invokespecial 9, 3) := by decide +kernel
theorem dX3_init_12 : decode cX3_init 12 = .ok (.putfield 10, 3) := by decide +kernel
theorem dX3_init_15 : decode cX3_init 15 = .ok (.aload_n 0, 1) := by decide +kernel
theorem dX3_init_16 : decode cX3_init 16 = .ok (.new 7, 3) := by decide +kernel
theorem dX3_init_19 : decode cX3_init 19 = .ok (.dup, 1) := by decide +kernel
theorem dX3_init_20 : decode cX3_init 20 = .ok (.invokespecial 9, 3) := by decide +kernel
theorem dX3_init_23 : decode cX3_init 23 = .ok (.putfield 16, 3) := by decide +kernel
theorem dX3_init_26 : decode cX3_init 26 = .ok (.aload_n 0, 1) := by decide +kernel
theorem dX3_init_27 : decode cX3_init 27 = .ok (.new 7, 3) := by decide +kernel
theorem dX3_init_30 : decode cX3_init 30 = .ok (.dup, 1) := by decide +kernel
theorem dX3_init_31 : decode cX3_init 31 = .ok (.invokespecial 9, 3) := by decide +kernel
theorem dX3_init_34 : decode cX3_init 34 = .ok (.putfield 19, 3) := by decide +kernel
theorem dX3_init_37 : decode cX3_init 37 = .ok (.aload_n 0, 1) := by decide +kernel
theorem dX3_init_38 : decode cX3_init 38 = .ok (.iconst 0, 1) := by decide +kernel
theorem dX3_init_39 : decode cX3_init 39 = .ok (.putfield 22, 3) := by decide +kernel
theorem dX3_init_42 : decode cX3_init 42 = .ok (.aload_n 0, 1) := by decide +kernel
theorem dX3_init_43 : decode cX3_init 43 = .ok (.bipush 30, 2) := by decide +kernel
theorem dX3_init_45 : decode cX3_init 45 = .ok (.putfield 26, 3) := by decide +kernel
theorem dX3_init_48 : decode cX3_init 48 = .ok (.aload_n 0, 1) := by decide +kernel
theorem dX3_init_49 : decode cX3_init 49 = .ok (.iconst 0, 1) := by decide +kernel
theorem dX3_init_50 : decode cX3_init 50 = .ok (.putfield 29, 3) := by decide +kernel
theorem dX3_init_53 : decode cX3_init 53 = .ok (.return_, 1) := by decide +kernel
theorem dX3_wall_0 : decode cX3_wall 0 = .ok (.iload 4, 2) := by decide +kernel
theorem dX3_wall_2 : decode cX3_wall 2 = .ok (.ifCond .eq 14, 3) := by decide +kernel
theorem dX3_wall_5 : decode cX3_wall 5 = .ok (.iload 4, 2) := by decide +kernel
theorem dX3_wall_7 : decode cX3_wall 7 = .ok (.iconst 2, 1) := by decide +kernel
theorem dX3_wall_8 : decode cX3_wall 8 = .ok (.bipush 20, 2) := by decide +kernel
theorem dX3_wall_10 : decode cX3_wall 10 = .ok (.invokestatic 32, 3) := by decide +kernel
theorem dX3_wall_13 : decode cX3_wall 13 = .ok (.ifCond .eq 7, 3) := by decide +kernel
theorem dX3_wall_16 : decode cX3_wall 16 = .ok (.iconst 1, 1) := by decide +kernel
theorem dX3_wall_17 : decode cX3_wall 17 = .ok (.goto 4, 3) := by decide +kernel
theorem dX3_wall_20 : decode cX3_wall 20 = .ok (.iconst 0, 1) := by decide +kernel
theorem dX3_wall_21 : decode cX3_wall 21 = .ok (.istore 5, 2) := by decide +kernel
theorem dX3_wall_23 : decode cX3_wall 23 = .ok (.iload_n 1, 1) := by decide +kernel
theorem dX3_wall_24 : decode cX3_wall 24 = .ok (.iconst 4, 1) := by decide +kernel
theorem dX3_wall_25 : decode cX3_wall 25 = .ok (.bipush 16, 2) := by decide +kernel
theorem dX3_wall_27 : decode cX3_wall 27 = .ok (.invokestatic 32, 3) := by decide +kernel
theorem dX3_wall_30 : decode cX3_wall 30 = .ok (.ifCond .eq 27, 3) := by decide +kernel
theorem dX3_wall_33 : decode cX3_wall 33 = .ok (.iload_n 2, 1) := by decide +kernel
theorem dX3_wall_34 : decode cX3_wall 34 = .ok (.iconst 1, 1) := by decide +kernel
theorem dX3_wall_35 : decode cX3_wall 35 = .ok (.bipush 9, 2) := by decide +kernel
theorem dX3_wall_37 : decode cX3_wall 37 = .ok (.invokestatic 32, 3) := by decide +kernel
theorem dX3_wall_40 : decode cX3_wall 40 = .ok (.ifCond .eq 17, 3) := by decide +kernel
theorem dX3_wall_43 : decode cX3_wall 43 = .ok (.iload_n 3, 1) := by decide +kernel
theorem dX3_wall_44 : decode cX3_wall 44 = .ok (.iconst 0, 1) := by decide +kernel
theorem dX3_wall_45 : decode cX3_wall 45 = .ok (.iconst 3, 1) := by decide +kernel
theorem dX3_wall_46 : decode cX3_wall 46 = .ok (.invokestatic 32, 3) := by decide +kernel
theorem dX3_wall_49 : decode cX3_wall 49 = .ok (.ifCond .eq 8, 3) := by decide +kernel
theorem dX3_wall_52 : decode cX3_wall 52 = .ok (.iload 5, 2) := by decide +kernel
theorem dX3_wall_54 : decode cX3_wall 54 = .ok (.ifCond .ne 13, 3) := by decide +kernel
theorem dX3_wall_57 : decode cX3_wall 57 = .ok (.new 36, 3) := by decide +kernel
theorem dX3_wall_60 : decode cX3_wall 60 = .ok (.dup, 1) := by decide +kernel
theorem dX3_wall_61 : decode cX3_wall 61 = .ok (.ldc 38, 2) := by decide +kernel
theorem dX3_wall_63 : decode cX3_wall 63 = .ok (.invokespecial 40, 3) := by decide +kernel
theorem dX3_wall_66 : decode cX3_wall 66 = .ok (.athrow, 1) := by decide +kernel
theorem dX3_wall_67 : decode cX3_wall 67 = .ok (.aload_n 0, 1) := by decide +kernel
theorem dX3_wall_68 : decode cX3_wall 68 = .ok (.getfield 10, 3) := by decide +kernel
theorem dX3_wall_71 : decode cX3_wall 71 = .ok (.invokevirtual 43, 3) := by decide +kernel
theorem dX3_wall_74 : decode cX3_wall 74 = .ok (.istore 6, 2) := by decide +kernel
theorem dX3_wall_76 : decode cX3_wall 76 = .ok (.iload 6, 2) := by decide +kernel
theorem dX3_wall_78 : decode cX3_wall 78 = .ok (.bipush 6, 2) := by decide +kernel
theorem dX3_wall_80 : decode cX3_wall 80 = .ok (.if_icmp .lt 13, 3) := by decide +kernel
theorem dX3_wall_83 : decode cX3_wall 83 = .ok (.new 47, 3) := by decide +kernel
theorem dX3_wall_86 : decode cX3_wall 86 = .ok (.dup, 1) := by decide +kernel
theorem dX3_wall_87 : decode cX3_wall 87 = .ok (.ldc 49, 2) := by decide +kernel
theorem dX3_wall_89 : decode cX3_wall 89 = .ok (.invokespecial 51, 3) := by decide +kernel
theorem dX3_wall_92 : decode cX3_wall 92 = .ok (.athrow, 1) := by decide +kernel
theorem dX3_wall_93 : decode cX3_wall 93 = .ok (.aload_n 0, 1) := by decide +kernel
theorem dX3_wall_94 : decode cX3_wall 94 = .ok (.getfield 10, 3) := by decide +kernel
theorem dX3_wall_97 : decode cX3_wall 97 = .ok (.new 52, 3) := by decide +kernel
theorem dX3_wall_100 : decode cX3_wall 100 = .ok (.dup, 1) := by decide +kernel
theorem dX3_wall_101 : decode cX3_wall 101 = .ok (.iload 6, 2) := by decide +kernel
theorem dX3_wall_103 : decode cX3_wall 103 = .ok (.iload_n 1, 1) := by decide +kernel
theorem dX3_wall_104 : decode cX3_wall 104 = .ok (.iload_n 2, 1) := by decide +kernel
theorem dX3_wall_105 : decode cX3_wall 105 = .ok (.iload_n 3, 1) := by decide +kernel
theorem dX3_wall_106 : decode cX3_wall 106 = .ok (.iload 4, 2) := by decide +kernel
theorem dX3_wall_108 : decode cX3_wall 108 = .ok (.invokespecial 54, 3) := by decide +kernel
theorem dX3_wall_111 : decode cX3_wall 111 = .ok (.invokevirtual 57, 3) := by decide +kernel
theorem dX3_wall_114 : decode cX3_wall 114 = .ok (.pop, 1) := by decide +kernel
theorem dX3_wall_115 : decode cX3_wall 115 = .ok (.iload 6, 2) := by decide +kernel
theorem dX3_wall_117 : decode cX3_wall 117 = .ok (.ireturn, 1) := by decide +kernel
theorem dX3_hand_0 : decode cX3_hand 0 = .ok (.iload_n 1, 1) := by decide +kernel
theorem dX3_hand_1 : decode cX3_hand 1 = .ok (.iconst 0, 1) := by decide +kernel
theorem dX3_hand_2 : decode cX3_hand 2 = .ok (.iconst 3, 1) := by decide +kernel
theorem dX3_hand_3 : decode cX3_hand 3 = .ok (.invokestatic 32, 3) := by decide +kernel
theorem dX3_hand_6 : decode cX3_hand 6 = .ok (.ifCond .eq 34, 3) := by decide +kernel
theorem dX3_hand_9 : decode cX3_hand 9 = .ok (.iload_n 2, 1) := by decide +kernel
theorem dX3_hand_10 : decode cX3_hand 10 = .ok (.iconst 1, 1) := by decide +kernel
theorem dX3_hand_11 : decode cX3_hand 11 = .ok (.bipush 9, 2) := by decide +kernel
theorem dX3_hand_13 : decode cX3_hand 13 = .ok (.invokestatic 32, 3) := by decide +kernel
theorem dX3_hand_16 : decode cX3_hand 16 = .ok (.ifCond .eq 24, 3) := by decide +kernel
theorem dX3_hand_19 : decode cX3_hand 19 = .ok (.iload_n 3, 1) := by decide +kernel
theorem dX3_hand_20 : decode cX3_hand 20 = .ok (.iconst 0, 1) := by decide +kernel
theorem dX3_hand_21 : decode cX3_hand 21 = .ok (.bipush 9, 2) := by decide +kernel
theorem dX3_hand_23 : decode cX3_hand 23 = .ok (.invokestatic 32, 3) := by decide +kernel
theorem dX3_hand_26 : decode cX3_hand 26 = .ok (.ifCond .eq 14, 3) := by decide +kernel
theorem dX3_hand_29 : decode cX3_hand 29 = .ok (.iload 4, 2) := by decide +kernel
theorem dX3_hand_31 : decode cX3_hand 31 = .ok (.iconst 0, 1) := by decide +kernel
theorem dX3_hand_32 : decode cX3_hand 32 = .ok (.bipush 9, 2) := by decide +kernel
theorem dX3_hand_34 : decode cX3_hand 34 = .ok (.invokestatic 32, 3) := by decide +kernel
theorem dX3_hand_37 : decode cX3_hand 37 = .ok (.ifCond .ne 13, 3) := by decide +kernel
theorem dX3_hand_40 : decode cX3_hand 40 = .ok (.new 36, 3) := by decide +kernel
theorem dX3_hand_43 : decode cX3_hand 43 = .ok (.dup, 1) := by decide +kernel
theorem dX3_hand_44 : decode cX3_hand 44 = .ok (.ldc 61, 2) := by decide +kernel
theorem dX3_hand_46 : decode cX3_hand 46 = .ok (.invokespecial 40, 3) := by decide +kernel
theorem dX3_hand_49 : decode cX3_hand 49 = .ok (.athrow, 1) := by decide +kernel
theorem dX3_hand_50 : decode cX3_hand 50 = .ok (.aload_n 0, 1) := by decide +kernel
theorem dX3_hand_51 : decode cX3_hand 51 = .ok (.getfield 16, 3) := by decide +kernel
theorem dX3_hand_54 : decode cX3_hand 54 = .ok (.invokevirtual 43, 3) := by decide +kernel
theorem dX3_hand_57 : decode cX3_hand 57 = .ok (.istore 5, 2) := by decide +kernel
theorem dX3_hand_59 : decode cX3_hand 59 = .ok (.iload 5, 2) := by decide +kernel
theorem dX3_hand_61 : decode cX3_hand 61 = .ok (.bipush 8, 2) := by decide +kernel
theorem dX3_hand_63 : decode cX3_hand 63 = .ok (.if_icmp .lt 13, 3) := by decide +kernel
theorem dX3_hand_66 : decode cX3_hand 66 = .ok (.new 47, 3) := by decide +kernel
theorem dX3_hand_69 : decode cX3_hand 69 = .ok (.dup, 1) := by decide +kernel
theorem dX3_hand_70 : decode cX3_hand 70 = .ok (.ldc 63, 2) := by decide +kernel
theorem dX3_hand_72 : decode cX3_hand 72 = .ok (.invokespecial 51, 3) := by decide +kernel
theorem dX3_hand_75 : decode cX3_hand 75 = .ok (.athrow, 1) := by decide +kernel
theorem dX3_hand_76 : decode cX3_hand 76 = .ok (.aload_n 0, 1) := by decide +kernel
theorem dX3_hand_77 : decode cX3_hand 77 = .ok (.getfield 16, 3) := by decide +kernel
theorem dX3_hand_80 : decode cX3_hand 80 = .ok (.new 65, 3) := by decide +kernel
theorem dX3_hand_83 : decode cX3_hand 83 = .ok (.dup, 1) := by decide +kernel
theorem dX3_hand_84 : decode cX3_hand 84 = .ok (.iload 5, 2) := by decide +kernel
theorem dX3_hand_86 : decode cX3_hand 86 = .ok (.iload_n 1, 1) := by decide +kernel
theorem dX3_hand_87 : decode cX3_hand 87 = .ok (.iload_n 2, 1) := by decide +kernel
theorem dX3_hand_88 : decode cX3_hand 88 = .ok (.iload_n 3, 1) := by decide +kernel
theorem dX3_hand_89 : decode cX3_hand 89 = .ok (.iload 4, 2) := by decide +kernel
theorem dX3_hand_91 : decode cX3_hand 91 = .ok (.invokespecial 67, 3) := by decide +kernel
theorem dX3_hand_94 : decode cX3_hand 94 = .ok (.invokevirtual 57, 3) := by decide +kernel
theorem dX3_hand_97 : decode cX3_hand 97 = .ok (.pop, 1) := by decide +kernel
theorem dX3_hand_98 : decode cX3_hand 98 = .ok (.iload 5, 2) := by decide +kernel
theorem dX3_hand_100 : decode cX3_hand 100 = .ok (.ireturn, 1) := by decide +kernel
theorem dX3_permit_0 : decode cX3_permit 0 = .ok (.aload_n 0, 1) := by decide +kernel
theorem dX3_permit_1 : decode cX3_permit 1 = .ok (.iload_n 1, 1) := by decide +kernel
theorem dX3_permit_2 : decode cX3_permit 2 = .ok (.invokevirtual 68, 3) := by decide +kernel
theorem dX3_permit_5 : decode cX3_permit 5 = .ok (.astore 4, 2) := by decide +kernel
theorem dX3_permit_7 : decode cX3_permit 7 = .ok (.iload_n 2, 1) := by decide +kernel
theorem dX3_permit_8 : decode cX3_permit 8 = .ok (.iconst 0, 1) := by decide +kernel
theorem dX3_permit_9 : decode cX3_permit 9 = .ok (.iconst 3, 1) := by decide +kernel
theorem dX3_permit_10 : decode cX3_permit 10 = .ok (.invokestatic 32, 3) := by decide +kernel
theorem dX3_permit_13 : decode cX3_permit 13 = .ok (.ifCond .eq 17, 3) := by decide +kernel
theorem dX3_permit_16 : decode cX3_permit 16 = .ok (.iload_n 3, 1) := by decide +kernel
theorem dX3_permit_17 : decode cX3_permit 17 = .ok (.aload_n 0, 1) := by decide +kernel
theorem dX3_permit_18 : decode cX3_permit 18 = .ok (.getfield 22, 3) := by decide +kernel
theorem dX3_permit_21 : decode cX3_permit 21 = .ok (.sipush 400, 3) := by decide +kernel
theorem dX3_permit_24 : decode cX3_permit 24 = .ok (.invokestatic 32, 3) := by decide +kernel
theorem dX3_permit_27 : decode cX3_permit 27 = .ok (.ifCond .ne 13, 3) := by decide +kernel
theorem dX3_permit_30 : decode cX3_permit 30 = .ok (.new 36, 3) := by decide +kernel
theorem dX3_permit_33 : decode cX3_permit 33 = .ok (.dup, 1) := by decide +kernel
theorem dX3_permit_34 : decode cX3_permit 34 = .ok (.ldc 72, 2) := by decide +kernel
theorem dX3_permit_36 : decode cX3_permit 36 = .ok (.invokespecial 40, 3) := by decide +kernel
theorem dX3_permit_39 : decode cX3_permit 39 = .ok (.athrow, 1) := by decide +kernel
theorem dX3_permit_40 : decode cX3_permit 40 = .ok (.aload 4, 2) := by decide +kernel
theorem dX3_permit_42 : decode cX3_permit 42 = .ok (.aload_n 0, 1) := by decide +kernel
theorem dX3_permit_43 : decode cX3_permit 43 = .ok (.getfield 22, 3) := by decide +kernel
theorem dX3_permit_46 : decode cX3_permit 46 = .ok (.invokevirtual 74, 3) := by decide +kernel
theorem dX3_permit_49 : decode cX3_permit 49 = .ok (.istore 5, 2) := by decide +kernel
theorem dX3_permit_51 : decode cX3_permit 51 = .ok (.aload 4, 2) := by decide +kernel
theorem dX3_permit_53 : decode cX3_permit 53 = .ok (.iload_n 2, 1) := by decide +kernel
theorem dX3_permit_54 : decode cX3_permit 54 = .ok (.putfield 78, 3) := by decide +kernel
theorem dX3_permit_57 : decode cX3_permit 57 = .ok (.aload 4, 2) := by decide +kernel
theorem dX3_permit_59 : decode cX3_permit 59 = .ok (.iload_n 3, 1) := by decide +kernel
theorem dX3_permit_60 : decode cX3_permit 60 = .ok (.putfield 81, 3) := by decide +kernel
theorem dX3_permit_63 : decode cX3_permit 63 = .ok (.iload 5, 2) := by decide +kernel
theorem dX3_permit_65 : decode cX3_permit 65 = .ok (.ireturn, 1) := by decide +kernel
theorem dX3_watch_0 : decode cX3_watch 0 = .ok (.aload_n 0, 1) := by decide +kernel
theorem dX3_watch_1 : decode cX3_watch 1 = .ok (.iload_n 1, 1) := by decide +kernel
theorem dX3_watch_2 : decode cX3_watch 2 = .ok (.invokevirtual 68, 3) := by decide +kernel
theorem dX3_watch_5 : decode cX3_watch 5 = .ok (.astore 4, 2) := by decide +kernel
theorem dX3_watch_7 : decode cX3_watch 7 = .ok (.iload_n 2, 1) := by decide +kernel
theorem dX3_watch_8 : decode cX3_watch 8 = .ok (.iconst 0, 1) := by decide +kernel
theorem dX3_watch_9 : decode cX3_watch 9 = .ok (.sipush 359, 3) := by decide +kernel
theorem dX3_watch_12 : decode cX3_watch 12 = .ok (.invokestatic 32, 3) := by decide +kernel
theorem dX3_watch_15 : decode cX3_watch 15 = .ok (.ifCond .eq 14, 3) := by decide +kernel
theorem dX3_watch_18 : decode cX3_watch 18 = .ok (.iload_n 3, 1) := by decide +kernel
theorem dX3_watch_19 : decode cX3_watch 19 = .ok (.iload_n 2, 1) := by decide +kernel
theorem dX3_watch_20 : decode cX3_watch 20 = .ok (.sipush 359, 3) := by decide +kernel
theorem dX3_watch_23 : decode cX3_watch 23 = .ok (.invokestatic 32, 3) := by decide +kernel
theorem dX3_watch_26 : decode cX3_watch 26 = .ok (.ifCond .ne 13, 3) := by decide +kernel
theorem dX3_watch_29 : decode cX3_watch 29 = .ok (.new 36, 3) := by decide +kernel
theorem dX3_watch_32 : decode cX3_watch 32 = .ok (.dup, 1) := by decide +kernel
theorem dX3_watch_33 : decode cX3_watch 33 = .ok (.ldc 84, 2) := by decide +kernel
theorem dX3_watch_35 : decode cX3_watch 35 = .ok (.invokespecial 40, 3) := by decide +kernel
theorem dX3_watch_38 : decode cX3_watch 38 = .ok (.athrow, 1) := by decide +kernel
theorem dX3_watch_39 : decode cX3_watch 39 = .ok (.aload 4, 2) := by decide +kernel
theorem dX3_watch_41 : decode cX3_watch 41 = .ok (.iload_n 2, 1) := by decide +kernel
theorem dX3_watch_42 : decode cX3_watch 42 = .ok (.putfield 86, 3) := by decide +kernel
theorem dX3_watch_45 : decode cX3_watch 45 = .ok (.aload 4, 2) := by decide +kernel
theorem dX3_watch_47 : decode cX3_watch 47 = .ok (.iload_n 3, 1) := by decide +kernel
theorem dX3_watch_48 : decode cX3_watch 48 = .ok (.putfield 89, 3) := by decide +kernel
theorem dX3_watch_51 : decode cX3_watch 51 = .ok (.iload_n 3, 1) := by decide +kernel
theorem dX3_watch_52 : decode cX3_watch 52 = .ok (.iload_n 2, 1) := by decide +kernel
theorem dX3_watch_53 : decode cX3_watch 53 = .ok (.isub, 1) := by decide +kernel
theorem dX3_watch_54 : decode cX3_watch 54 = .ok (.iconst 1, 1) := by decide +kernel
theorem dX3_watch_55 : decode cX3_watch 55 = .ok (.iadd, 1) := by decide +kernel
theorem dX3_watch_56 : decode cX3_watch 56 = .ok (.ireturn, 1) := by decide +kernel
theorem dX3_paint_0 : decode cX3_paint 0 = .ok (.aload_n 0, 1) := by decide +kernel
theorem dX3_paint_1 : decode cX3_paint 1 = .ok (.iload_n 1, 1) := by decide +kernel
theorem dX3_paint_2 : decode cX3_paint 2 = .ok (.invokevirtual 92, 3) := by decide +kernel
theorem dX3_paint_5 : decode cX3_paint 5 = .ok (.astore 7, 2) := by decide +kernel
theorem dX3_paint_7 : decode cX3_paint 7 = .ok (.aload_n 0, 1) := by decide +kernel
theorem dX3_paint_8 : decode cX3_paint 8 = .ok (.iload_n 2, 1) := by decide +kernel
theorem dX3_paint_9 : decode cX3_paint 9 = .ok (.invokevirtual 68, 3) := by decide +kernel
theorem dX3_paint_12 : decode cX3_paint 12 = .ok (.astore 8, 2) := by decide +kernel
theorem dX3_paint_14 : decode cX3_paint 14 = .ok (.aload 8, 2) := by decide +kernel
theorem dX3_paint_16 : decode cX3_paint 16 = .ok (.iload_n 3, 1) := by decide +kernel
theorem dX3_paint_17 : decode cX3_paint 17 = .ok (.iload 4, 2) := by decide +kernel
theorem dX3_paint_19 : decode cX3_paint 19 = .ok (.invokevirtual 96, 3) := by decide +kernel
theorem dX3_paint_22 : decode cX3_paint 22 = .ok (.ifCond .eq 22, 3) := by decide +kernel
theorem dX3_paint_25 : decode cX3_paint 25 = .ok (.iload 5, 2) := by decide +kernel
theorem dX3_paint_27 : decode cX3_paint 27 = .ok (.invokestatic 100, 3) := by decide +kernel
theorem dX3_paint_30 : decode cX3_paint 30 = .ok (.ifCond .eq 14, 3) := by decide +kernel
theorem dX3_paint_33 : decode cX3_paint 33 = .ok (.iload 6, 2) := by decide +kernel
theorem dX3_paint_35 : decode cX3_paint 35 = .ok (.bipush (-2), 2) := by decide +kernel
theorem dX3_paint_37 : decode cX3_paint 37 = .ok (.iconst 2, 1) := by decide +kernel
theorem dX3_paint_38 : decode cX3_paint 38 = .ok (.invokestatic 32, 3) := by decide +kernel
theorem dX3_paint_41 : decode cX3_paint 41 = .ok (.ifCond .ne 13, 3) := by decide +kernel
theorem dX3_paint_44 : decode cX3_paint 44 = .ok (.new 36, 3) := by decide +kernel
theorem dX3_paint_47 : decode cX3_paint 47 = .ok (.dup, 1) := by decide +kernel
theorem dX3_paint_48 : decode cX3_paint 48 = .ok (.ldc 104, 2) := by decide +kernel
theorem dX3_paint_50 : decode cX3_paint 50 = .ok (.invokespecial 40, 3) := by decide +kernel
theorem dX3_paint_53 : decode cX3_paint 53 = .ok (.athrow, 1) := by decide +kernel
theorem dX3_paint_54 : decode cX3_paint 54 = .ok (.iload 4, 2) := by decide +kernel
theorem dX3_paint_56 : decode cX3_paint 56 = .ok (.aload 7, 2) := by decide +kernel
theorem dX3_paint_58 : decode cX3_paint 58 = .ok (.iload 5, 2) := by decide +kernel
theorem dX3_paint_60 : decode cX3_paint 60 = .ok (.invokevirtual 106, 3) := by decide +kernel
theorem dX3_paint_63 : decode cX3_paint 63 = .ok (.imul, 1) := by decide +kernel
theorem dX3_paint_64 : decode cX3_paint 64 = .ok (.istore 9, 2) := by decide +kernel
theorem dX3_paint_66 : decode cX3_paint 66 = .ok (.iload 9, 2) := by decide +kernel
theorem dX3_paint_68 : decode cX3_paint 68 = .ok (.aload 7, 2) := by decide +kernel
theorem dX3_paint_70 : decode cX3_paint 70 = .ok (.invokevirtual 109, 3) := by decide +kernel
theorem dX3_paint_73 : decode cX3_paint 73 = .ok (.if_icmp .gt 15, 3) := by decide +kernel
theorem dX3_paint_76 : decode cX3_paint 76 = .ok (.aload_n 0, 1) := by decide +kernel
theorem dX3_paint_77 : decode cX3_paint 77 = .ok (.getfield 19, 3) := by decide +kernel
theorem dX3_paint_80 : decode cX3_paint 80 = .ok (.invokevirtual 43, 3) := by decide +kernel
theorem dX3_paint_83 : decode cX3_paint 83 = .ok (.bipush 60, 2) := by decide +kernel
theorem dX3_paint_85 : decode cX3_paint 85 = .ok (.if_icmp .lt 13, 3) := by decide +kernel
theorem dX3_paint_88 : decode cX3_paint 88 = .ok (.new 47, 3) := by decide +kernel
theorem dX3_paint_91 : decode cX3_paint 91 = .ok (.dup, 1) := by decide +kernel
theorem dX3_paint_92 : decode cX3_paint 92 = .ok (.ldc 112, 2) := by decide +kernel
theorem dX3_paint_94 : decode cX3_paint 94 = .ok (.invokespecial 51, 3) := by decide +kernel
theorem dX3_paint_97 : decode cX3_paint 97 = .ok (.athrow, 1) := by decide +kernel
theorem dX3_paint_98 : decode cX3_paint 98 = .ok (.aload_n 0, 1) := by decide +kernel
theorem dX3_paint_99 : decode cX3_paint 99 = .ok (.aload 7, 2) := by decide +kernel
theorem dX3_paint_101 : decode cX3_paint 101 = .ok (.aload 8, 2) := by decide +kernel
theorem dX3_paint_103 : decode cX3_paint 103 = .ok (.iload_n 3, 1) := by decide +kernel
theorem dX3_paint_104 : decode cX3_paint 104 = .ok (.iload 4, 2) := by decide +kernel
theorem dX3_paint_106 : decode cX3_paint 106 = .ok (.iload 5, 2) := by decide +kernel
theorem dX3_paint_108 : decode cX3_paint 108 = .ok (.invokevirtual 114, 3) := by decide +kernel
theorem dX3_paint_111 : decode cX3_paint 111 = .ok (.istore 10, 2) := by decide +kernel
theorem dX3_paint_113 : decode cX3_paint 113 = .ok (.new 118, 3) := by decide +kernel
theorem dX3_paint_116 : decode cX3_paint 116 = .ok (.dup, 1) := by decide +kernel
theorem dX3_paint_117 : decode cX3_paint 117 = .ok (.aload_n 0, 1) := by decide +kernel
theorem dX3_paint_118 : decode cX3_paint 118 = .ok (.getfield 19, 3) := by decide +kernel
theorem dX3_paint_121 : decode cX3_paint 121 = .ok (.invokevirtual 43, 3) := by decide +kernel
theorem dX3_paint_124 : decode cX3_paint 124 = .ok (.aload 7, 2) := by decide +kernel
theorem dX3_paint_126 : decode cX3_paint 126 = .ok (.aload 8, 2) := by decide +kernel
theorem dX3_paint_128 : decode cX3_paint 128 = .ok (.iload_n 3, 1) := by decide +kernel
theorem dX3_paint_129 : decode cX3_paint 129 = .ok (.iload 4, 2) := by decide +kernel
theorem dX3_paint_131 : decode cX3_paint 131 = .ok (.iload 5, 2) := by decide +kernel
theorem dX3_paint_133 : decode cX3_paint 133 = .ok (.iload 6, 2) := by decide +kernel
theorem dX3_paint_135 : decode cX3_paint 135 = .ok (.invokespecial 120, 3) := by decide +kernel
theorem dX3_paint_138 : decode cX3_paint 138 = .ok (.astore 11, 2) := by decide +kernel
theorem dX3_paint_140 : decode cX3_paint 140 = .ok (.aload 11, 2) := by decide +kernel
theorem dX3_paint_142 : decode cX3_paint 142 = .ok (.aload_n 0, 1) := by decide +kernel
theorem dX3_paint_143 : decode cX3_paint 143 = .ok (.getfield 22, 3) := by decide +kernel
theorem dX3_paint_146 : decode cX3_paint 146 = .ok (.putfield 123, 3) := by decide +kernel
theorem dX3_paint_149 : decode cX3_paint 149 = .ok (.aload 11, 2) := by decide +kernel
theorem dX3_paint_151 : decode cX3_paint 151 = .ok (.aload_n 0, 1) := by decide +kernel
theorem dX3_paint_152 : decode cX3_paint 152 = .ok (.aload 7, 2) := by decide +kernel
theorem dX3_paint_154 : decode cX3_paint 154 = .ok (.aload 8, 2) := by decide +kernel
theorem dX3_paint_156 : decode cX3_paint 156 = .ok (.invokevirtual 126, 3) := by decide +kernel
theorem dX3_paint_159 : decode cX3_paint 159 = .ok (.putfield 130, 3) := by decide +kernel
theorem dX3_paint_162 : decode cX3_paint 162 = .ok (.aload 11, 2) := by decide +kernel
theorem dX3_paint_164 : decode cX3_paint 164 = .ok (.getfield 130, 3) := by decide +kernel
theorem dX3_paint_167 : decode cX3_paint 167 = .ok (.ifCond .ne 25, 3) := by decide +kernel
theorem dX3_paint_170 : decode cX3_paint 170 = .ok (.aload 8, 2) := by decide +kernel
theorem dX3_paint_172 : decode cX3_paint 172 = .ok (.aload 7, 2) := by decide +kernel
theorem dX3_paint_174 : decode cX3_paint 174 = .ok (.getfield 134, 3) := by decide +kernel
theorem dX3_paint_177 : decode cX3_paint 177 = .ok (.iload 9, 2) := by decide +kernel
theorem dX3_paint_179 : decode cX3_paint 179 = .ok (.invokevirtual 137, 3) := by decide +kernel
theorem dX3_paint_182 : decode cX3_paint 182 = .ok (.ifCond .eq 10, 3) := by decide +kernel
theorem dX3_paint_185 : decode cX3_paint 185 = .ok (.aload 7, 2) := by decide +kernel
theorem dX3_paint_187 : decode cX3_paint 187 = .ok (.iload 5, 2) := by decide +kernel
theorem dX3_paint_189 : decode cX3_paint 189 = .ok (.invokevirtual 140, 3) := by decide +kernel
theorem dX3_paint_192 : decode cX3_paint 192 = .ok (.aload 7, 2) := by decide +kernel
theorem dX3_paint_194 : decode cX3_paint 194 = .ok (.dup, 1) := by decide +kernel
theorem dX3_paint_195 : decode cX3_paint 195 = .ok (.getfield 134, 3) := by decide +kernel
theorem dX3_paint_198 : decode cX3_paint 198 = .ok (.iload 9, 2) := by decide +kernel
theorem dX3_paint_200 : decode cX3_paint 200 = .ok (.iadd, 1) := by decide +kernel
theorem dX3_paint_201 : decode cX3_paint 201 = .ok (.putfield 134, 3) := by decide +kernel
theorem dX3_paint_204 : decode cX3_paint 204 = .ok (.aload 8, 2) := by decide +kernel
theorem dX3_paint_206 : decode cX3_paint 206 = .ok (.aload 11, 2) := by decide +kernel
theorem dX3_paint_208 : decode cX3_paint 208 = .ok (.invokevirtual 144, 3) := by decide +kernel
theorem dX3_paint_211 : decode cX3_paint 211 = .ok (.aload_n 0, 1) := by decide +kernel
theorem dX3_paint_212 : decode cX3_paint 212 = .ok (.getfield 19, 3) := by decide +kernel
theorem dX3_paint_215 : decode cX3_paint 215 = .ok (.aload 11, 2) := by decide +kernel
theorem dX3_paint_217 : decode cX3_paint 217 = .ok (.invokevirtual 57, 3) := by decide +kernel
theorem dX3_paint_220 : decode cX3_paint 220 = .ok (.pop, 1) := by decide +kernel
theorem dX3_paint_221 : decode cX3_paint 221 = .ok (.iload 10, 2) := by decide +kernel
theorem dX3_paint_223 : decode cX3_paint 223 = .ok (.ireturn, 1) := by decide +kernel
theorem dX3_buff_0 : decode cX3_buff 0 = .ok (.aload_n 0, 1) := by decide +kernel
theorem dX3_buff_1 : decode cX3_buff 1 = .ok (.iload_n 1, 1) := by decide +kernel
theorem dX3_buff_2 : decode cX3_buff 2 = .ok (.invokevirtual 68, 3) := by decide +kernel
theorem dX3_buff_5 : decode cX3_buff 5 = .ok (.astore_n 2, 1) := by decide +kernel
theorem dX3_buff_6 : decode cX3_buff 6 = .ok (.aload_n 0, 1) := by decide +kernel
theorem dX3_buff_7 : decode cX3_buff 7 = .ok (.aload_n 2, 1) := by decide +kernel
theorem dX3_buff_8 : decode cX3_buff 8 = .ok (.invokevirtual 148, 3) := by decide +kernel
theorem dX3_buff_11 : decode cX3_buff 11 = .ok (.istore_n 3, 1) := by decide +kernel
theorem dX3_buff_12 : decode cX3_buff 12 = .ok (.iload_n 3, 1) := by decide +kernel
theorem dX3_buff_13 : decode cX3_buff 13 = .ok (.aload_n 0, 1) := by decide +kernel
theorem dX3_buff_14 : decode cX3_buff 14 = .ok (.getfield 26, 3) := by decide +kernel
theorem dX3_buff_17 : decode cX3_buff 17 = .ok (.if_icmp .le 13, 3) := by decide +kernel
theorem dX3_buff_20 : decode cX3_buff 20 = .ok (.new 47, 3) := by decide +kernel
theorem dX3_buff_23 : decode cX3_buff 23 = .ok (.dup, 1) := by decide +kernel
theorem dX3_buff_24 : decode cX3_buff 24 = .ok (.ldc 152, 2) := by decide +kernel
theorem dX3_buff_26 : decode cX3_buff 26 = .ok (.invokespecial 51, 3) := by decide +kernel
theorem dX3_buff_29 : decode cX3_buff 29 = .ok (.athrow, 1) := by decide +kernel
theorem dX3_buff_30 : decode cX3_buff 30 = .ok (.iconst 0, 1) := by decide +kernel
theorem dX3_buff_31 : decode cX3_buff 31 = .ok (.istore 4, 2) := by decide +kernel
theorem dX3_buff_33 : decode cX3_buff 33 = .ok (.iload 4, 2) := by decide +kernel
theorem dX3_buff_35 : decode cX3_buff 35 = .ok (.aload_n 2, 1) := by decide +kernel
theorem dX3_buff_36 : decode cX3_buff 36 = .ok (.getfield 154, 3) := by decide +kernel
theorem dX3_buff_39 : decode cX3_buff 39 = .ok (.if_icmp .ge 27, 3) := by decide +kernel
theorem dX3_buff_42 : decode cX3_buff 42 = .ok (.aload_n 0, 1) := by decide +kernel
theorem dX3_buff_43 : decode cX3_buff 43 = .ok (.aload_n 2, 1) := by decide +kernel
theorem dX3_buff_44 : decode cX3_buff 44 = .ok (.iload 4, 2) := by decide +kernel
theorem dX3_buff_46 : decode cX3_buff 46 = .ok (.invokevirtual 157, 3) := by decide +kernel
theorem dX3_buff_49 : decode cX3_buff 49 = .ok (.ifCond .eq 11, 3) := by decide +kernel
theorem dX3_buff_52 : decode cX3_buff 52 = .ok (.aload_n 2, 1) := by decide +kernel
theorem dX3_buff_53 : decode cX3_buff 53 = .ok (.getfield 161, 3) := by decide +kernel
theorem dX3_buff_56 : decode cX3_buff 56 = .ok (.iload 4, 2) := by decide +kernel
theorem dX3_buff_58 : decode cX3_buff 58 = .ok (.aconst_null, 1) := by decide +kernel
theorem dX3_buff_59 : decode cX3_buff 59 = .ok (.aastore, 1) := by decide +kernel
theorem dX3_buff_60 : decode cX3_buff 60 = .ok (.iinc 4 1, 3) := by decide +kernel
theorem dX3_buff_63 : decode cX3_buff 63 = .ok (.goto (-30), 3) := by decide +kernel
theorem dX3_buff_66 : decode cX3_buff 66 = .ok (.aload_n 0, 1) := by decide +kernel
theorem dX3_buff_67 : decode cX3_buff 67 = .ok (.dup, 1) := by decide +kernel
theorem dX3_buff_68 : decode cX3_buff 68 = .ok (.getfield 26, 3) := by decide +kernel
theorem dX3_buff_71 : decode cX3_buff 71 = .ok (.iload_n 3, 1) := by decide +kernel
theorem dX3_buff_72 : decode cX3_buff 72 = .ok (.isub, 1) := by decide +kernel
theorem dX3_buff_73 : decode cX3_buff 73 = .ok (.putfield 26, 3) := by decide +kernel
theorem dX3_buff_76 : decode cX3_buff 76 = .ok (.iload_n 3, 1) := by decide +kernel
theorem dX3_buff_77 : decode cX3_buff 77 = .ok (.ireturn, 1) := by decide +kernel
theorem dX3_clear_0 : decode cX3_clear 0 = .ok (.aload_n 0, 1) := by decide +kernel
theorem dX3_clear_1 : decode cX3_clear 1 = .ok (.iload_n 1, 1) := by decide +kernel
theorem dX3_clear_2 : decode cX3_clear 2 = .ok (.invokevirtual 68, 3) := by decide +kernel
theorem dX3_clear_5 : decode cX3_clear 5 = .ok (.astore_n 2, 1) := by decide +kernel
theorem dX3_clear_6 : decode cX3_clear 6 = .ok (.iconst 0, 1) := by decide +kernel
theorem dX3_clear_7 : decode cX3_clear 7 = .ok (.istore_n 3, 1) := by decide +kernel
theorem dX3_clear_8 : decode cX3_clear 8 = .ok (.iconst 0, 1) := by decide +kernel
theorem dX3_clear_9 : decode cX3_clear 9 = .ok (.istore 4, 2) := by decide +kernel
theorem dX3_clear_11 : decode cX3_clear 11 = .ok (.iload 4, 2) := by decide +kernel
theorem dX3_clear_13 : decode cX3_clear 13 = .ok (.aload_n 2, 1) := by decide +kernel
theorem dX3_clear_14 : decode cX3_clear 14 = .ok (.getfield 154, 3) := by decide +kernel
theorem dX3_clear_17 : decode cX3_clear 17 = .ok (.if_icmp .ge 60, 3) := by decide +kernel
theorem dX3_clear_20 : decode cX3_clear 20 = .ok (.aload_n 2, 1) := by decide +kernel
theorem dX3_clear_21 : decode cX3_clear 21 = .ok (.getfield 161, 3) := by decide +kernel
theorem dX3_clear_24 : decode cX3_clear 24 = .ok (.iload 4, 2) := by decide +kernel
theorem dX3_clear_26 : decode cX3_clear 26 = .ok (.aaload, 1) := by decide +kernel
theorem dX3_clear_27 : decode cX3_clear 27 = .ok (.astore 5, 2) := by decide +kernel
theorem dX3_clear_29 : decode cX3_clear 29 = .ok (.aload 5, 2) := by decide +kernel
theorem dX3_clear_31 : decode cX3_clear 31 = .ok (.ifnull 40, 3) := by decide +kernel
theorem dX3_clear_34 : decode cX3_clear 34 = .ok (.aload 5, 2) := by decide +kernel
theorem dX3_clear_36 : decode cX3_clear 36 = .ok (.invokevirtual 165, 3) := by decide +kernel
theorem dX3_clear_39 : decode cX3_clear 39 = .ok (.ifCond .eq 32, 3) := by decide +kernel
theorem dX3_clear_42 : decode cX3_clear 42 = .ok (.iconst 5, 1) := by decide +kernel
theorem dX3_clear_43 : decode cX3_clear 43 = .ok (.aload 5, 2) := by decide +kernel
theorem dX3_clear_45 : decode cX3_clear 45 = .ok (.invokevirtual 169, 3) := by decide +kernel
theorem dX3_clear_48 : decode cX3_clear 48 = .ok (.imul, 1) := by decide +kernel
theorem dX3_clear_49 : decode cX3_clear 49 = .ok (.istore 6, 2) := by decide +kernel
theorem dX3_clear_51 : decode cX3_clear 51 = .ok (.aload 5, 2) := by decide +kernel
theorem dX3_clear_53 : decode cX3_clear 53 = .ok (.getfield 172, 3) := by decide +kernel
theorem dX3_clear_56 : decode cX3_clear 56 = .ok (.dup, 1) := by decide +kernel
theorem dX3_clear_57 : decode cX3_clear 57 = .ok (.getfield 176, 3) := by decide +kernel
theorem dX3_clear_60 : decode cX3_clear 60 = .ok (.iload 6, 2) := by decide +kernel
theorem dX3_clear_62 : decode cX3_clear 62 = .ok (.iadd, 1) := by decide +kernel
theorem dX3_clear_63 : decode cX3_clear 63 = .ok (.putfield 176, 3) := by decide +kernel
theorem dX3_clear_66 : decode cX3_clear 66 = .ok (.iload_n 3, 1) := by decide +kernel
theorem dX3_clear_67 : decode cX3_clear 67 = .ok (.iload 6, 2) := by decide +kernel
theorem dX3_clear_69 : decode cX3_clear 69 = .ok (.iadd, 1) := by decide +kernel
theorem dX3_clear_70 : decode cX3_clear 70 = .ok (.istore_n 3, 1) := by decide +kernel
theorem dX3_clear_71 : decode cX3_clear 71 = .ok (.iinc 4 1, 3) := by decide +kernel
theorem dX3_clear_74 : decode cX3_clear 74 = .ok (.goto (-63), 3) := by decide +kernel
theorem dX3_clear_77 : decode cX3_clear 77 = .ok (.aload_n 2, 1) := by decide +kernel
theorem dX3_clear_78 : decode cX3_clear 78 = .ok (.invokevirtual 179, 3) := by decide +kernel
theorem dX3_clear_81 : decode cX3_clear 81 = .ok (.iload_n 3, 1) := by decide +kernel
theorem dX3_clear_82 : decode cX3_clear 82 = .ok (.ireturn, 1) := by decide +kernel
theorem dX3_sell_0 : decode cX3_sell 0 = .ok (.aload_n 0, 1) := by decide +kernel
theorem dX3_sell_1 : decode cX3_sell 1 = .ok (.iload_n 1, 1) := by decide +kernel
theorem dX3_sell_2 : decode cX3_sell 2 = .ok (.invokevirtual 182, 3) := by decide +kernel
theorem dX3_sell_5 : decode cX3_sell 5 = .ok (.astore_n 2, 1) := by decide +kernel
theorem dX3_sell_6 : decode cX3_sell 6 = .ok (.aload_n 2, 1) := by decide +kernel
theorem dX3_sell_7 : decode cX3_sell 7 = .ok (.invokevirtual 186, 3) := by decide +kernel
theorem dX3_sell_10 : decode cX3_sell 10 = .ok (.ifCond .ne 13, 3) := by decide +kernel
theorem dX3_sell_13 : decode cX3_sell 13 = .ok (.new 47, 3) := by decide +kernel
theorem dX3_sell_16 : decode cX3_sell 16 = .ok (.dup, 1) := by decide +kernel
theorem dX3_sell_17 : decode cX3_sell 17 = .ok (.ldc 189, 2) := by decide +kernel
theorem dX3_sell_19 : decode cX3_sell 19 = .ok (.invokespecial 51, 3) := by decide +kernel
theorem dX3_sell_22 : decode cX3_sell 22 = .ok (.athrow, 1) := by decide +kernel
theorem dX3_sell_23 : decode cX3_sell 23 = .ok (.aload_n 0, 1) := by decide +kernel
theorem dX3_sell_24 : decode cX3_sell 24 = .ok (.aload_n 2, 1) := by decide +kernel
theorem dX3_sell_25 : decode cX3_sell 25 = .ok (.invokevirtual 191, 3) := by decide +kernel
theorem dX3_sell_28 : decode cX3_sell 28 = .ok (.istore_n 3, 1) := by decide +kernel
theorem dX3_sell_29 : decode cX3_sell 29 = .ok (.aload_n 2, 1) := by decide +kernel
theorem dX3_sell_30 : decode cX3_sell 30 = .ok (.getfield 195, 3) := by decide +kernel
theorem dX3_sell_33 : decode cX3_sell 33 = .ok (.aload_n 2, 1) := by decide +kernel
theorem dX3_sell_34 : decode cX3_sell 34 = .ok (.invokevirtual 199, 3) := by decide +kernel
theorem dX3_sell_37 : decode cX3_sell 37 = .ok (.aload_n 0, 1) := by decide +kernel
theorem dX3_sell_38 : decode cX3_sell 38 = .ok (.dup, 1) := by decide +kernel
theorem dX3_sell_39 : decode cX3_sell 39 = .ok (.getfield 29, 3) := by decide +kernel
theorem dX3_sell_42 : decode cX3_sell 42 = .ok (.iload_n 3, 1) := by decide +kernel
theorem dX3_sell_43 : decode cX3_sell 43 = .ok (.iadd, 1) := by decide +kernel
theorem dX3_sell_44 : decode cX3_sell 44 = .ok (.putfield 29, 3) := by decide +kernel
theorem dX3_sell_47 : decode cX3_sell 47 = .ok (.iload_n 3, 1) := by decide +kernel
theorem dX3_sell_48 : decode cX3_sell 48 = .ok (.ireturn, 1) := by decide +kernel
theorem dX3_remember_0 : decode cX3_remember 0 = .ok (.aload_n 0, 1) := by decide +kernel
theorem dX3_remember_1 : decode cX3_remember 1 = .ok (.iload_n 1, 1) := by decide +kernel
theorem dX3_remember_2 : decode cX3_remember 2 = .ok (.invokevirtual 182, 3) := by decide +kernel
theorem dX3_remember_5 : decode cX3_remember 5 = .ok (.astore_n 2, 1) := by decide +kernel
theorem dX3_remember_6 : decode cX3_remember 6 = .ok (.aload_n 2, 1) := by decide +kernel
theorem dX3_remember_7 : decode cX3_remember 7 = .ok (.getfield 205, 3) := by decide +kernel
theorem dX3_remember_10 : decode cX3_remember 10 = .ok (.ifCond .ne 7, 3) := by decide +kernel
theorem dX3_remember_13 : decode cX3_remember 13 = .ok (.iconst 1, 1) := by decide +kernel
theorem dX3_remember_14 : decode cX3_remember 14 = .ok (.goto 4, 3) := by decide +kernel
theorem dX3_remember_17 : decode cX3_remember 17 = .ok (.iconst 0, 1) := by decide +kernel
theorem dX3_remember_18 : decode cX3_remember 18 = .ok (.istore_n 3, 1) := by decide +kernel
theorem dX3_remember_19 : decode cX3_remember 19 = .ok (.aload_n 2, 1) := by decide +kernel
theorem dX3_remember_20 : decode cX3_remember 20 = .ok (.iconst 1, 1) := by decide +kernel
theorem dX3_remember_21 : decode cX3_remember 21 = .ok (.putfield 205, 3) := by decide +kernel
theorem dX3_remember_24 : decode cX3_remember 24 = .ok (.iload_n 3, 1) := by decide +kernel
theorem dX3_remember_25 : decode cX3_remember 25 = .ok (.ireturn, 1) := by decide +kernel
theorem dX3_pay_0 : decode cX3_pay 0 = .ok (.aload_n 0, 1) := by decide +kernel
theorem dX3_pay_1 : decode cX3_pay 1 = .ok (.iload_n 1, 1) := by decide +kernel
theorem dX3_pay_2 : decode cX3_pay 2 = .ok (.invokevirtual 92, 3) := by decide +kernel
theorem dX3_pay_5 : decode cX3_pay 5 = .ok (.astore_n 2, 1) := by decide +kernel
theorem dX3_pay_6 : decode cX3_pay 6 = .ok (.aload_n 2, 1) := by decide +kernel
theorem dX3_pay_7 : decode cX3_pay 7 = .ok (.getfield 208, 3) := by decide +kernel
theorem dX3_pay_10 : decode cX3_pay 10 = .ok (.istore_n 3, 1) := by decide +kernel
theorem dX3_pay_11 : decode cX3_pay 11 = .ok (.aload_n 2, 1) := by decide +kernel
theorem dX3_pay_12 : decode cX3_pay 12 = .ok (.iconst 0, 1) := by decide +kernel
theorem dX3_pay_13 : decode cX3_pay 13 = .ok (.putfield 208, 3) := by decide +kernel
theorem dX3_pay_16 : decode cX3_pay 16 = .ok (.iload_n 3, 1) := by decide +kernel
theorem dX3_pay_17 : decode cX3_pay 17 = .ok (.ireturn, 1) := by decide +kernel
theorem dX3_pass_0 : decode cX3_pass 0 = .ok (.iload_n 1, 1) := by decide +kernel
theorem dX3_pass_1 : decode cX3_pass 1 = .ok (.iconst 1, 1) := by decide +kernel
theorem dX3_pass_2 : decode cX3_pass 2 = .ok (.bipush 30, 2) := by decide +kernel
theorem dX3_pass_4 : decode cX3_pass 4 = .ok (.invokestatic 32, 3) := by decide +kernel
theorem dX3_pass_7 : decode cX3_pass 7 = .ok (.ifCond .ne 13, 3) := by decide +kernel
theorem dX3_pass_10 : decode cX3_pass 10 = .ok (.new 36, 3) := by decide +kernel
theorem dX3_pass_13 : decode cX3_pass 13 = .ok (.dup, 1) := by decide +kernel
theorem dX3_pass_14 : decode cX3_pass 14 = .ok (.ldc 211, 2) := by decide +kernel
theorem dX3_pass_16 : decode cX3_pass 16 = .ok (.invokespecial 40, 3) := by decide +kernel
theorem dX3_pass_19 : decode cX3_pass 19 = .ok (.athrow, 1) := by decide +kernel
theorem dX3_pass_20 : decode cX3_pass 20 = .ok (.aload_n 0, 1) := by decide +kernel
theorem dX3_pass_21 : decode cX3_pass 21 = .ok (.getfield 22, 3) := by decide +kernel
theorem dX3_pass_24 : decode cX3_pass 24 = .ok (.iload_n 1, 1) := by decide +kernel
theorem dX3_pass_25 : decode cX3_pass 25 = .ok (.iadd, 1) := by decide +kernel
theorem dX3_pass_26 : decode cX3_pass 26 = .ok (.sipush 400, 3) := by decide +kernel
theorem dX3_pass_29 : decode cX3_pass 29 = .ok (.if_icmp .le 13, 3) := by decide +kernel
theorem dX3_pass_32 : decode cX3_pass 32 = .ok (.new 47, 3) := by decide +kernel
theorem dX3_pass_35 : decode cX3_pass 35 = .ok (.dup, 1) := by decide +kernel
theorem dX3_pass_36 : decode cX3_pass 36 = .ok (.ldc 213, 2) := by decide +kernel
theorem dX3_pass_38 : decode cX3_pass 38 = .ok (.invokespecial 51, 3) := by decide +kernel
theorem dX3_pass_41 : decode cX3_pass 41 = .ok (.athrow, 1) := by decide +kernel
theorem dX3_pass_42 : decode cX3_pass 42 = .ok (.iconst 0, 1) := by decide +kernel
theorem dX3_pass_43 : decode cX3_pass 43 = .ok (.istore_n 2, 1) := by decide +kernel
theorem dX3_pass_44 : decode cX3_pass 44 = .ok (.iconst 0, 1) := by decide +kernel
theorem dX3_pass_45 : decode cX3_pass 45 = .ok (.istore_n 3, 1) := by decide +kernel
theorem dX3_pass_46 : decode cX3_pass 46 = .ok (.iload_n 3, 1) := by decide +kernel
theorem dX3_pass_47 : decode cX3_pass 47 = .ok (.iload_n 1, 1) := by decide +kernel
theorem dX3_pass_48 : decode cX3_pass 48 = .ok (.if_icmp .ge 16, 3) := by decide +kernel
theorem dX3_pass_51 : decode cX3_pass 51 = .ok (.iload_n 2, 1) := by decide +kernel
theorem dX3_pass_52 : decode cX3_pass 52 = .ok (.aload_n 0, 1) := by decide +kernel
theorem dX3_pass_53 : decode cX3_pass 53 = .ok (.invokevirtual 215, 3) := by decide +kernel
theorem dX3_pass_56 : decode cX3_pass 56 = .ok (.iadd, 1) := by decide +kernel
theorem dX3_pass_57 : decode cX3_pass 57 = .ok (.istore_n 2, 1) := by decide +kernel
theorem dX3_pass_58 : decode cX3_pass 58 = .ok (.iinc 3 1, 3) := by decide +kernel
theorem dX3_pass_61 : decode cX3_pass 61 = .ok (.goto (-15), 3) := by decide +kernel
theorem dX3_pass_64 : decode cX3_pass 64 = .ok (.iload_n 2, 1) := by decide +kernel
theorem dX3_pass_65 : decode cX3_pass 65 = .ok (.ireturn, 1) := by decide +kernel
theorem dX3_ofWall_0 : decode cX3_ofWall 0 = .ok (.aload_n 0, 1) := by decide +kernel
theorem dX3_ofWall_1 : decode cX3_ofWall 1 = .ok (.iload_n 1, 1) := by decide +kernel
theorem dX3_ofWall_2 : decode cX3_ofWall 2 = .ok (.invokevirtual 68, 3) := by decide +kernel
theorem dX3_ofWall_5 : decode cX3_ofWall 5 = .ok (.astore_n 3, 1) := by decide +kernel
theorem dX3_ofWall_6 : decode cX3_ofWall 6 = .ok (.iload_n 2, 1) := by decide +kernel
theorem dX3_ofWall_7 : decode cX3_ofWall 7 = .ok (.tableswitch 82 0 6 #[41, 46, 51, 56, 65, 70, 76], 41) := by decide +kernel
theorem dX3_ofWall_48 : decode cX3_ofWall 48 = .ok (.aload_n 3, 1) := by decide +kernel
theorem dX3_ofWall_49 : decode cX3_ofWall 49 = .ok (.getfield 154, 3) := by decide +kernel
theorem dX3_ofWall_52 : decode cX3_ofWall 52 = .ok (.ireturn, 1) := by decide +kernel
theorem dX3_ofWall_53 : decode cX3_ofWall 53 = .ok (.aload_n 3, 1) := by decide +kernel
theorem dX3_ofWall_54 : decode cX3_ofWall 54 = .ok (.getfield 218, 3) := by decide +kernel
theorem dX3_ofWall_57 : decode cX3_ofWall 57 = .ok (.ireturn, 1) := by decide +kernel
theorem dX3_ofWall_58 : decode cX3_ofWall 58 = .ok (.aload_n 3, 1) := by decide +kernel
theorem dX3_ofWall_59 : decode cX3_ofWall 59 = .ok (.getfield 221, 3) := by decide +kernel
theorem dX3_ofWall_62 : decode cX3_ofWall 62 = .ok (.ireturn, 1) := by decide +kernel
theorem dX3_ofWall_63 : decode cX3_ofWall 63 = .ok (.aload_n 3, 1) := by decide +kernel
theorem dX3_ofWall_64 : decode cX3_ofWall 64 = .ok (.aload_n 0, 1) := by decide +kernel
theorem dX3_ofWall_65 : decode cX3_ofWall 65 = .ok (.getfield 22, 3) := by decide +kernel
theorem dX3_ofWall_68 : decode cX3_ofWall 68 = .ok (.invokevirtual 74, 3) := by decide +kernel
theorem dX3_ofWall_71 : decode cX3_ofWall 71 = .ok (.ireturn, 1) := by decide +kernel
theorem dX3_ofWall_72 : decode cX3_ofWall 72 = .ok (.aload_n 3, 1) := by decide +kernel
theorem dX3_ofWall_73 : decode cX3_ofWall 73 = .ok (.invokevirtual 224, 3) := by decide +kernel
theorem dX3_ofWall_76 : decode cX3_ofWall 76 = .ok (.ireturn, 1) := by decide +kernel
theorem dX3_ofWall_77 : decode cX3_ofWall 77 = .ok (.aload_n 0, 1) := by decide +kernel
theorem dX3_ofWall_78 : decode cX3_ofWall 78 = .ok (.aload_n 3, 1) := by decide +kernel
theorem dX3_ofWall_79 : decode cX3_ofWall 79 = .ok (.invokevirtual 227, 3) := by decide +kernel
theorem dX3_ofWall_82 : decode cX3_ofWall 82 = .ok (.ireturn, 1) := by decide +kernel
theorem dX3_ofWall_83 : decode cX3_ofWall 83 = .ok (.aload_n 0, 1) := by decide +kernel
theorem dX3_ofWall_84 : decode cX3_ofWall 84 = .ok (.aload_n 3, 1) := by decide +kernel
theorem dX3_ofWall_85 : decode cX3_ofWall 85 = .ok (.invokevirtual 230, 3) := by decide +kernel
theorem dX3_ofWall_88 : decode cX3_ofWall 88 = .ok (.ireturn, 1) := by decide +kernel
theorem dX3_ofWall_89 : decode cX3_ofWall 89 = .ok (.new 36, 3) := by decide +kernel
theorem dX3_ofWall_92 : decode cX3_ofWall 92 = .ok (.dup, 1) := by decide +kernel
theorem dX3_ofWall_93 : decode cX3_ofWall 93 = .ok (.ldc 233, 2) := by decide +kernel
theorem dX3_ofWall_95 : decode cX3_ofWall 95 = .ok (.invokespecial 40, 3) := by decide +kernel
theorem dX3_ofWall_98 : decode cX3_ofWall 98 = .ok (.athrow, 1) := by decide +kernel
theorem dX3_shows_0 : decode cX3_shows 0 = .ok (.aload_n 0, 1) := by decide +kernel
theorem dX3_shows_1 : decode cX3_shows 1 = .ok (.iload_n 1, 1) := by decide +kernel
theorem dX3_shows_2 : decode cX3_shows 2 = .ok (.invokevirtual 68, 3) := by decide +kernel
theorem dX3_shows_5 : decode cX3_shows 5 = .ok (.astore_n 3, 1) := by decide +kernel
theorem dX3_shows_6 : decode cX3_shows 6 = .ok (.iload_n 2, 1) := by decide +kernel
theorem dX3_shows_7 : decode cX3_shows 7 = .ok (.iconst 0, 1) := by decide +kernel
theorem dX3_shows_8 : decode cX3_shows 8 = .ok (.aload_n 3, 1) := by decide +kernel
theorem dX3_shows_9 : decode cX3_shows 9 = .ok (.getfield 154, 3) := by decide +kernel
theorem dX3_shows_12 : decode cX3_shows 12 = .ok (.iconst 1, 1) := by decide +kernel
theorem dX3_shows_13 : decode cX3_shows 13 = .ok (.isub, 1) := by decide +kernel
theorem dX3_shows_14 : decode cX3_shows 14 = .ok (.invokestatic 32, 3) := by decide +kernel
theorem dX3_shows_17 : decode cX3_shows 17 = .ok (.ifCond .ne 13, 3) := by decide +kernel
theorem dX3_shows_20 : decode cX3_shows 20 = .ok (.new 235, 3) := by decide +kernel
theorem dX3_shows_23 : decode cX3_shows 23 = .ok (.dup, 1) := by decide +kernel
theorem dX3_shows_24 : decode cX3_shows 24 = .ok (.ldc 237, 2) := by decide +kernel
theorem dX3_shows_26 : decode cX3_shows 26 = .ok (.invokespecial 239, 3) := by decide +kernel
theorem dX3_shows_29 : decode cX3_shows 29 = .ok (.athrow, 1) := by decide +kernel
theorem dX3_shows_30 : decode cX3_shows 30 = .ok (.aload_n 3, 1) := by decide +kernel
theorem dX3_shows_31 : decode cX3_shows 31 = .ok (.getfield 161, 3) := by decide +kernel
theorem dX3_shows_34 : decode cX3_shows 34 = .ok (.iload_n 2, 1) := by decide +kernel
theorem dX3_shows_35 : decode cX3_shows 35 = .ok (.aaload, 1) := by decide +kernel
theorem dX3_shows_36 : decode cX3_shows 36 = .ok (.astore 4, 2) := by decide +kernel
theorem dX3_shows_38 : decode cX3_shows 38 = .ok (.aload 4, 2) := by decide +kernel
theorem dX3_shows_40 : decode cX3_shows 40 = .ok (.ifnonnull 7, 3) := by decide +kernel
theorem dX3_shows_43 : decode cX3_shows 43 = .ok (.iconst (-1), 1) := by decide +kernel
theorem dX3_shows_44 : decode cX3_shows 44 = .ok (.goto 8, 3) := by decide +kernel
theorem dX3_shows_47 : decode cX3_shows 47 = .ok (.aload 4, 2) := by decide +kernel
theorem dX3_shows_49 : decode cX3_shows 49 = .ok (.getfield 240, 3) := by decide +kernel
theorem dX3_shows_52 : decode cX3_shows 52 = .ok (.ireturn, 1) := by decide +kernel
theorem dX3_ofHand_0 : decode cX3_ofHand 0 = .ok (.aload_n 0, 1) := by decide +kernel
theorem dX3_ofHand_1 : decode cX3_ofHand 1 = .ok (.iload_n 1, 1) := by decide +kernel
theorem dX3_ofHand_2 : decode cX3_ofHand 2 = .ok (.invokevirtual 92, 3) := by decide +kernel
theorem dX3_ofHand_5 : decode cX3_ofHand 5 = .ok (.astore_n 3, 1) := by decide +kernel
theorem dX3_ofHand_6 : decode cX3_ofHand 6 = .ok (.iload_n 2, 1) := by decide +kernel
theorem dX3_ofHand_7 : decode cX3_ofHand 7 = .ok (.tableswitch 124 0 10 #[57, 62, 67, 72, 85, 91, 97, 103, 108, 114, 119], 57) := by decide +kernel
theorem dX3_ofHand_64 : decode cX3_ofHand 64 = .ok (.aload_n 3, 1) := by decide +kernel
theorem dX3_ofHand_65 : decode cX3_ofHand 65 = .ok (.getfield 243, 3) := by decide +kernel
theorem dX3_ofHand_68 : decode cX3_ofHand 68 = .ok (.ireturn, 1) := by decide +kernel
theorem dX3_ofHand_69 : decode cX3_ofHand 69 = .ok (.aload_n 3, 1) := by decide +kernel
theorem dX3_ofHand_70 : decode cX3_ofHand 70 = .ok (.invokevirtual 109, 3) := by decide +kernel
theorem dX3_ofHand_73 : decode cX3_ofHand 73 = .ok (.ireturn, 1) := by decide +kernel
theorem dX3_ofHand_74 : decode cX3_ofHand 74 = .ok (.aload_n 3, 1) := by decide +kernel
theorem dX3_ofHand_75 : decode cX3_ofHand 75 = .ok (.getfield 208, 3) := by decide +kernel
theorem dX3_ofHand_78 : decode cX3_ofHand 78 = .ok (.ireturn, 1) := by decide +kernel
theorem dX3_ofHand_79 : decode cX3_ofHand 79 = .ok (.aload_n 3, 1) := by decide +kernel
theorem dX3_ofHand_80 : decode cX3_ofHand 80 = .ok (.getfield 246, 3) := by decide +kernel
theorem dX3_ofHand_83 : decode cX3_ofHand 83 = .ok (.ifCond .eq 7, 3) := by decide +kernel
theorem dX3_ofHand_86 : decode cX3_ofHand 86 = .ok (.iconst 1, 1) := by decide +kernel
theorem dX3_ofHand_87 : decode cX3_ofHand 87 = .ok (.goto 4, 3) := by decide +kernel
theorem dX3_ofHand_90 : decode cX3_ofHand 90 = .ok (.iconst 0, 1) := by decide +kernel
theorem dX3_ofHand_91 : decode cX3_ofHand 91 = .ok (.ireturn, 1) := by decide +kernel
theorem dX3_ofHand_92 : decode cX3_ofHand 92 = .ok (.aload_n 0, 1) := by decide +kernel
theorem dX3_ofHand_93 : decode cX3_ofHand 93 = .ok (.aload_n 3, 1) := by decide +kernel
theorem dX3_ofHand_94 : decode cX3_ofHand 94 = .ok (.invokevirtual 249, 3) := by decide +kernel
theorem dX3_ofHand_97 : decode cX3_ofHand 97 = .ok (.ireturn, 1) := by decide +kernel
theorem dX3_ofHand_98 : decode cX3_ofHand 98 = .ok (.aload_n 0, 1) := by decide +kernel
theorem dX3_ofHand_99 : decode cX3_ofHand 99 = .ok (.aload_n 3, 1) := by decide +kernel
theorem dX3_ofHand_100 : decode cX3_ofHand 100 = .ok (.invokevirtual 253, 3) := by decide +kernel
theorem dX3_ofHand_103 : decode cX3_ofHand 103 = .ok (.ireturn, 1) := by decide +kernel
theorem dX3_ofHand_104 : decode cX3_ofHand 104 = .ok (.aload_n 0, 1) := by decide +kernel
theorem dX3_ofHand_105 : decode cX3_ofHand 105 = .ok (.aload_n 3, 1) := by decide +kernel
theorem dX3_ofHand_106 : decode cX3_ofHand 106 = .ok (.invokevirtual 256, 3) := by decide +kernel
theorem dX3_ofHand_109 : decode cX3_ofHand 109 = .ok (.ireturn, 1) := by decide +kernel
theorem dX3_ofHand_110 : decode cX3_ofHand 110 = .ok (.aload_n 3, 1) := by decide +kernel
theorem dX3_ofHand_111 : decode cX3_ofHand 111 = .ok (.invokevirtual 259, 3) := by decide +kernel
theorem dX3_ofHand_114 : decode cX3_ofHand 114 = .ok (.ireturn, 1) := by decide +kernel
theorem dX3_ofHand_115 : decode cX3_ofHand 115 = .ok (.aload_n 0, 1) := by decide +kernel
theorem dX3_ofHand_116 : decode cX3_ofHand 116 = .ok (.aload_n 3, 1) := by decide +kernel
theorem dX3_ofHand_117 : decode cX3_ofHand 117 = .ok (.invokevirtual 262, 3) := by decide +kernel
theorem dX3_ofHand_120 : decode cX3_ofHand 120 = .ok (.ireturn, 1) := by decide +kernel
theorem dX3_ofHand_121 : decode cX3_ofHand 121 = .ok (.aload_n 3, 1) := by decide +kernel
theorem dX3_ofHand_122 : decode cX3_ofHand 122 = .ok (.getfield 176, 3) := by decide +kernel
theorem dX3_ofHand_125 : decode cX3_ofHand 125 = .ok (.ireturn, 1) := by decide +kernel
theorem dX3_ofHand_126 : decode cX3_ofHand 126 = .ok (.aload_n 3, 1) := by decide +kernel
theorem dX3_ofHand_127 : decode cX3_ofHand 127 = .ok (.getfield 265, 3) := by decide +kernel
theorem dX3_ofHand_130 : decode cX3_ofHand 130 = .ok (.ireturn, 1) := by decide +kernel
theorem dX3_ofHand_131 : decode cX3_ofHand 131 = .ok (.new 36, 3) := by decide +kernel
theorem dX3_ofHand_134 : decode cX3_ofHand 134 = .ok (.dup, 1) := by decide +kernel
theorem dX3_ofHand_135 : decode cX3_ofHand 135 = .ok (.ldc_w 268, 3) := by decide +kernel
theorem dX3_ofHand_138 : decode cX3_ofHand 138 = .ok (.invokespecial 40, 3) := by decide +kernel
theorem dX3_ofHand_141 : decode cX3_ofHand 141 = .ok (.athrow, 1) := by decide +kernel
theorem dX3_ofLayer_0 : decode cX3_ofLayer 0 = .ok (.aload_n 0, 1) := by decide +kernel
theorem dX3_ofLayer_1 : decode cX3_ofLayer 1 = .ok (.iload_n 1, 1) := by decide +kernel
theorem dX3_ofLayer_2 : decode cX3_ofLayer 2 = .ok (.invokevirtual 182, 3) := by decide +kernel
theorem dX3_ofLayer_5 : decode cX3_ofLayer 5 = .ok (.astore_n 3, 1) := by decide +kernel
theorem dX3_ofLayer_6 : decode cX3_ofLayer 6 = .ok (.iload_n 2, 1) := by decide +kernel
theorem dX3_ofLayer_7 : decode cX3_ofLayer 7 = .ok (.tableswitch 171 0 13 #[69, 77, 85, 90, 95, 100, 105, 118, 131, 144, 149, 154, 159, 165], 69) := by decide +kernel
theorem dX3_ofLayer_76 : decode cX3_ofLayer 76 = .ok (.aload_n 3, 1) := by decide +kernel
theorem dX3_ofLayer_77 : decode cX3_ofLayer 77 = .ok (.getfield 172, 3) := by decide +kernel
theorem dX3_ofLayer_80 : decode cX3_ofLayer 80 = .ok (.getfield 270, 3) := by decide +kernel
theorem dX3_ofLayer_83 : decode cX3_ofLayer 83 = .ok (.ireturn, 1) := by decide +kernel
theorem dX3_ofLayer_84 : decode cX3_ofLayer 84 = .ok (.aload_n 3, 1) := by decide +kernel
theorem dX3_ofLayer_85 : decode cX3_ofLayer 85 = .ok (.getfield 195, 3) := by decide +kernel
theorem dX3_ofLayer_88 : decode cX3_ofLayer 88 = .ok (.getfield 271, 3) := by decide +kernel
theorem dX3_ofLayer_91 : decode cX3_ofLayer 91 = .ok (.ireturn, 1) := by decide +kernel
theorem dX3_ofLayer_92 : decode cX3_ofLayer 92 = .ok (.aload_n 3, 1) := by decide +kernel
theorem dX3_ofLayer_93 : decode cX3_ofLayer 93 = .ok (.getfield 272, 3) := by decide +kernel
theorem dX3_ofLayer_96 : decode cX3_ofLayer 96 = .ok (.ireturn, 1) := by decide +kernel
theorem dX3_ofLayer_97 : decode cX3_ofLayer 97 = .ok (.aload_n 3, 1) := by decide +kernel
theorem dX3_ofLayer_98 : decode cX3_ofLayer 98 = .ok (.getfield 275, 3) := by decide +kernel
theorem dX3_ofLayer_101 : decode cX3_ofLayer 101 = .ok (.ireturn, 1) := by decide +kernel
theorem dX3_ofLayer_102 : decode cX3_ofLayer 102 = .ok (.aload_n 3, 1) := by decide +kernel
theorem dX3_ofLayer_103 : decode cX3_ofLayer 103 = .ok (.getfield 278, 3) := by decide +kernel
theorem dX3_ofLayer_106 : decode cX3_ofLayer 106 = .ok (.ireturn, 1) := by decide +kernel
theorem dX3_ofLayer_107 : decode cX3_ofLayer 107 = .ok (.aload_n 3, 1) := by decide +kernel
theorem dX3_ofLayer_108 : decode cX3_ofLayer 108 = .ok (.getfield 123, 3) := by decide +kernel
theorem dX3_ofLayer_111 : decode cX3_ofLayer 111 = .ok (.ireturn, 1) := by decide +kernel
theorem dX3_ofLayer_112 : decode cX3_ofLayer 112 = .ok (.aload_n 3, 1) := by decide +kernel
theorem dX3_ofLayer_113 : decode cX3_ofLayer 113 = .ok (.getfield 130, 3) := by decide +kernel
theorem dX3_ofLayer_116 : decode cX3_ofLayer 116 = .ok (.ifCond .eq 7, 3) := by decide +kernel
theorem dX3_ofLayer_119 : decode cX3_ofLayer 119 = .ok (.iconst 1, 1) := by decide +kernel
theorem dX3_ofLayer_120 : decode cX3_ofLayer 120 = .ok (.goto 4, 3) := by decide +kernel
theorem dX3_ofLayer_123 : decode cX3_ofLayer 123 = .ok (.iconst 0, 1) := by decide +kernel
theorem dX3_ofLayer_124 : decode cX3_ofLayer 124 = .ok (.ireturn, 1) := by decide +kernel
theorem dX3_ofLayer_125 : decode cX3_ofLayer 125 = .ok (.aload_n 3, 1) := by decide +kernel
theorem dX3_ofLayer_126 : decode cX3_ofLayer 126 = .ok (.getfield 202, 3) := by decide +kernel
theorem dX3_ofLayer_129 : decode cX3_ofLayer 129 = .ok (.ifCond .eq 7, 3) := by decide +kernel
theorem dX3_ofLayer_132 : decode cX3_ofLayer 132 = .ok (.iconst 1, 1) := by decide +kernel
theorem dX3_ofLayer_133 : decode cX3_ofLayer 133 = .ok (.goto 4, 3) := by decide +kernel
theorem dX3_ofLayer_136 : decode cX3_ofLayer 136 = .ok (.iconst 0, 1) := by decide +kernel
theorem dX3_ofLayer_137 : decode cX3_ofLayer 137 = .ok (.ireturn, 1) := by decide +kernel
theorem dX3_ofLayer_138 : decode cX3_ofLayer 138 = .ok (.aload_n 3, 1) := by decide +kernel
theorem dX3_ofLayer_139 : decode cX3_ofLayer 139 = .ok (.getfield 205, 3) := by decide +kernel
theorem dX3_ofLayer_142 : decode cX3_ofLayer 142 = .ok (.ifCond .eq 7, 3) := by decide +kernel
theorem dX3_ofLayer_145 : decode cX3_ofLayer 145 = .ok (.iconst 1, 1) := by decide +kernel
theorem dX3_ofLayer_146 : decode cX3_ofLayer 146 = .ok (.goto 4, 3) := by decide +kernel
theorem dX3_ofLayer_149 : decode cX3_ofLayer 149 = .ok (.iconst 0, 1) := by decide +kernel
theorem dX3_ofLayer_150 : decode cX3_ofLayer 150 = .ok (.ireturn, 1) := by decide +kernel
theorem dX3_ofLayer_151 : decode cX3_ofLayer 151 = .ok (.aload_n 3, 1) := by decide +kernel
theorem dX3_ofLayer_152 : decode cX3_ofLayer 152 = .ok (.invokevirtual 281, 3) := by decide +kernel
theorem dX3_ofLayer_155 : decode cX3_ofLayer 155 = .ok (.ireturn, 1) := by decide +kernel
theorem dX3_ofLayer_156 : decode cX3_ofLayer 156 = .ok (.aload_n 3, 1) := by decide +kernel
theorem dX3_ofLayer_157 : decode cX3_ofLayer 157 = .ok (.invokevirtual 284, 3) := by decide +kernel
theorem dX3_ofLayer_160 : decode cX3_ofLayer 160 = .ok (.ireturn, 1) := by decide +kernel
theorem dX3_ofLayer_161 : decode cX3_ofLayer 161 = .ok (.aload_n 3, 1) := by decide +kernel
theorem dX3_ofLayer_162 : decode cX3_ofLayer 162 = .ok (.invokevirtual 287, 3) := by decide +kernel
theorem dX3_ofLayer_165 : decode cX3_ofLayer 165 = .ok (.ireturn, 1) := by decide +kernel
theorem dX3_ofLayer_166 : decode cX3_ofLayer 166 = .ok (.aload_n 0, 1) := by decide +kernel
theorem dX3_ofLayer_167 : decode cX3_ofLayer 167 = .ok (.aload_n 3, 1) := by decide +kernel
theorem dX3_ofLayer_168 : decode cX3_ofLayer 168 = .ok (.invokevirtual 191, 3) := by decide +kernel
theorem dX3_ofLayer_171 : decode cX3_ofLayer 171 = .ok (.ireturn, 1) := by decide +kernel
theorem dX3_ofLayer_172 : decode cX3_ofLayer 172 = .ok (.aload_n 0, 1) := by decide +kernel
theorem dX3_ofLayer_173 : decode cX3_ofLayer 173 = .ok (.aload_n 3, 1) := by decide +kernel
theorem dX3_ofLayer_174 : decode cX3_ofLayer 174 = .ok (.invokevirtual 290, 3) := by decide +kernel
theorem dX3_ofLayer_177 : decode cX3_ofLayer 177 = .ok (.ireturn, 1) := by decide +kernel
theorem dX3_ofLayer_178 : decode cX3_ofLayer 178 = .ok (.new 36, 3) := by decide +kernel
theorem dX3_ofLayer_181 : decode cX3_ofLayer 181 = .ok (.dup, 1) := by decide +kernel
theorem dX3_ofLayer_182 : decode cX3_ofLayer 182 = .ok (.ldc_w 293, 3) := by decide +kernel
theorem dX3_ofLayer_185 : decode cX3_ofLayer 185 = .ok (.invokespecial 40, 3) := by decide +kernel
theorem dX3_ofLayer_188 : decode cX3_ofLayer 188 = .ok (.athrow, 1) := by decide +kernel
theorem dX3_wrongs_0 : decode cX3_wrongs 0 = .ok (.aload_n 0, 1) := by decide +kernel
theorem dX3_wrongs_1 : decode cX3_wrongs 1 = .ok (.iload_n 1, 1) := by decide +kernel
theorem dX3_wrongs_2 : decode cX3_wrongs 2 = .ok (.invokevirtual 92, 3) := by decide +kernel
theorem dX3_wrongs_5 : decode cX3_wrongs 5 = .ok (.astore_n 3, 1) := by decide +kernel
theorem dX3_wrongs_6 : decode cX3_wrongs 6 = .ok (.aload_n 0, 1) := by decide +kernel
theorem dX3_wrongs_7 : decode cX3_wrongs 7 = .ok (.iload_n 2, 1) := by decide +kernel
theorem dX3_wrongs_8 : decode cX3_wrongs 8 = .ok (.invokevirtual 92, 3) := by decide +kernel
theorem dX3_wrongs_11 : decode cX3_wrongs 11 = .ok (.astore 4, 2) := by decide +kernel
theorem dX3_wrongs_13 : decode cX3_wrongs 13 = .ok (.aload_n 3, 1) := by decide +kernel
theorem dX3_wrongs_14 : decode cX3_wrongs 14 = .ok (.getfield 295, 3) := by decide +kernel
theorem dX3_wrongs_17 : decode cX3_wrongs 17 = .ok (.aload 4, 2) := by decide +kernel
theorem dX3_wrongs_19 : decode cX3_wrongs 19 = .ok (.getfield 270, 3) := by decide +kernel
theorem dX3_wrongs_22 : decode cX3_wrongs 22 = .ok (.iaload, 1) := by decide +kernel
theorem dX3_wrongs_23 : decode cX3_wrongs 23 = .ok (.ireturn, 1) := by decide +kernel
theorem dX3_many_0 : decode cX3_many 0 = .ok (.iload_n 1, 1) := by decide +kernel
theorem dX3_many_1 : decode cX3_many 1 = .ok (.tableswitch 132 0 11 #[63, 68, 76, 84, 92, 97, 102, 107, 112, 117, 122, 127], 63) := by decide +kernel
theorem dX3_many_64 : decode cX3_many 64 = .ok (.aload_n 0, 1) := by decide +kernel
theorem dX3_many_65 : decode cX3_many 65 = .ok (.getfield 22, 3) := by decide +kernel
theorem dX3_many_68 : decode cX3_many 68 = .ok (.ireturn, 1) := by decide +kernel
theorem dX3_many_69 : decode cX3_many 69 = .ok (.aload_n 0, 1) := by decide +kernel
theorem dX3_many_70 : decode cX3_many 70 = .ok (.getfield 10, 3) := by decide +kernel
theorem dX3_many_73 : decode cX3_many 73 = .ok (.invokevirtual 43, 3) := by decide +kernel
theorem dX3_many_76 : decode cX3_many 76 = .ok (.ireturn, 1) := by decide +kernel
theorem dX3_many_77 : decode cX3_many 77 = .ok (.aload_n 0, 1) := by decide +kernel
theorem dX3_many_78 : decode cX3_many 78 = .ok (.getfield 16, 3) := by decide +kernel
theorem dX3_many_81 : decode cX3_many 81 = .ok (.invokevirtual 43, 3) := by decide +kernel
theorem dX3_many_84 : decode cX3_many 84 = .ok (.ireturn, 1) := by decide +kernel
theorem dX3_many_85 : decode cX3_many 85 = .ok (.aload_n 0, 1) := by decide +kernel
theorem dX3_many_86 : decode cX3_many 86 = .ok (.getfield 19, 3) := by decide +kernel
theorem dX3_many_89 : decode cX3_many 89 = .ok (.invokevirtual 43, 3) := by decide +kernel
theorem dX3_many_92 : decode cX3_many 92 = .ok (.ireturn, 1) := by decide +kernel
theorem dX3_many_93 : decode cX3_many 93 = .ok (.aload_n 0, 1) := by decide +kernel
theorem dX3_many_94 : decode cX3_many 94 = .ok (.invokevirtual 304, 3) := by decide +kernel
theorem dX3_many_97 : decode cX3_many 97 = .ok (.ireturn, 1) := by decide +kernel
theorem dX3_many_98 : decode cX3_many 98 = .ok (.aload_n 0, 1) := by decide +kernel
theorem dX3_many_99 : decode cX3_many 99 = .ok (.getfield 26, 3) := by decide +kernel
theorem dX3_many_102 : decode cX3_many 102 = .ok (.ireturn, 1) := by decide +kernel
theorem dX3_many_103 : decode cX3_many 103 = .ok (.aload_n 0, 1) := by decide +kernel
theorem dX3_many_104 : decode cX3_many 104 = .ok (.invokevirtual 307, 3) := by decide +kernel
theorem dX3_many_107 : decode cX3_many 107 = .ok (.ireturn, 1) := by decide +kernel
theorem dX3_many_108 : decode cX3_many 108 = .ok (.aload_n 0, 1) := by decide +kernel
theorem dX3_many_109 : decode cX3_many 109 = .ok (.invokevirtual 310, 3) := by decide +kernel
theorem dX3_many_112 : decode cX3_many 112 = .ok (.ireturn, 1) := by decide +kernel
theorem dX3_many_113 : decode cX3_many 113 = .ok (.aload_n 0, 1) := by decide +kernel
theorem dX3_many_114 : decode cX3_many 114 = .ok (.invokevirtual 313, 3) := by decide +kernel
theorem dX3_many_117 : decode cX3_many 117 = .ok (.ireturn, 1) := by decide +kernel
theorem dX3_many_118 : decode cX3_many 118 = .ok (.aload_n 0, 1) := by decide +kernel
theorem dX3_many_119 : decode cX3_many 119 = .ok (.invokevirtual 316, 3) := by decide +kernel
theorem dX3_many_122 : decode cX3_many 122 = .ok (.ireturn, 1) := by decide +kernel
theorem dX3_many_123 : decode cX3_many 123 = .ok (.aload_n 0, 1) := by decide +kernel
theorem dX3_many_124 : decode cX3_many 124 = .ok (.getfield 29, 3) := by decide +kernel
theorem dX3_many_127 : decode cX3_many 127 = .ok (.ireturn, 1) := by decide +kernel
theorem dX3_many_128 : decode cX3_many 128 = .ok (.aload_n 0, 1) := by decide +kernel
theorem dX3_many_129 : decode cX3_many 129 = .ok (.invokevirtual 319, 3) := by decide +kernel
theorem dX3_many_132 : decode cX3_many 132 = .ok (.ireturn, 1) := by decide +kernel
theorem dX3_many_133 : decode cX3_many 133 = .ok (.new 36, 3) := by decide +kernel
theorem dX3_many_136 : decode cX3_many 136 = .ok (.dup, 1) := by decide +kernel
theorem dX3_many_137 : decode cX3_many 137 = .ok (.ldc_w 322, 3) := by decide +kernel
theorem dX3_many_140 : decode cX3_many 140 = .ok (.invokespecial 40, 3) := by decide +kernel
theorem dX3_many_143 : decode cX3_many 143 = .ok (.athrow, 1) := by decide +kernel
theorem dX3_meanFame_0 : decode cX3_meanFame 0 = .ok (.aload_n 0, 1) := by decide +kernel
theorem dX3_meanFame_1 : decode cX3_meanFame 1 = .ok (.getfield 16, 3) := by decide +kernel
theorem dX3_meanFame_4 : decode cX3_meanFame 4 = .ok (.invokevirtual 324, 3) := by decide +kernel
theorem dX3_meanFame_7 : decode cX3_meanFame 7 = .ok (.ifCond .eq 5, 3) := by decide +kernel
theorem dX3_meanFame_10 : decode cX3_meanFame 10 = .ok (.dconst 0, 1) := by decide +kernel
theorem dX3_meanFame_11 : decode cX3_meanFame 11 = .ok (.dreturn, 1) := by decide +kernel
theorem dX3_meanFame_12 : decode cX3_meanFame 12 = .ok (.iconst 0, 1) := by decide +kernel
theorem dX3_meanFame_13 : decode cX3_meanFame 13 = .ok (.istore_n 1, 1) := by decide +kernel
theorem dX3_meanFame_14 : decode cX3_meanFame 14 = .ok (.iconst 0, 1) := by decide +kernel
theorem dX3_meanFame_15 : decode cX3_meanFame 15 = .ok (.istore_n 2, 1) := by decide +kernel
theorem dX3_meanFame_16 : decode cX3_meanFame 16 = .ok (.iload_n 2, 1) := by decide +kernel
theorem dX3_meanFame_17 : decode cX3_meanFame 17 = .ok (.aload_n 0, 1) := by decide +kernel
theorem dX3_meanFame_18 : decode cX3_meanFame 18 = .ok (.getfield 16, 3) := by decide +kernel
theorem dX3_meanFame_21 : decode cX3_meanFame 21 = .ok (.invokevirtual 43, 3) := by decide +kernel
theorem dX3_meanFame_24 : decode cX3_meanFame 24 = .ok (.if_icmp .ge 27, 3) := by decide +kernel
theorem dX3_meanFame_27 : decode cX3_meanFame 27 = .ok (.iload_n 1, 1) := by decide +kernel
theorem dX3_meanFame_28 : decode cX3_meanFame 28 = .ok (.aload_n 0, 1) := by decide +kernel
theorem dX3_meanFame_29 : decode cX3_meanFame 29 = .ok (.aload_n 0, 1) := by decide +kernel
theorem dX3_meanFame_30 : decode cX3_meanFame 30 = .ok (.getfield 16, 3) := by decide +kernel
theorem dX3_meanFame_33 : decode cX3_meanFame 33 = .ok (.iload_n 2, 1) := by decide +kernel
theorem dX3_meanFame_34 : decode cX3_meanFame 34 = .ok (.invokevirtual 327, 3) := by decide +kernel
theorem dX3_meanFame_37 : decode cX3_meanFame 37 = .ok (.checkcast 65, 3) := by decide +kernel
theorem dX3_meanFame_40 : decode cX3_meanFame 40 = .ok (.invokevirtual 249, 3) := by decide +kernel
theorem dX3_meanFame_43 : decode cX3_meanFame 43 = .ok (.iadd, 1) := by decide +kernel
theorem dX3_meanFame_44 : decode cX3_meanFame 44 = .ok (.istore_n 1, 1) := by decide +kernel
theorem dX3_meanFame_45 : decode cX3_meanFame 45 = .ok (.iinc 2 1, 3) := by decide +kernel
theorem dX3_meanFame_48 : decode cX3_meanFame 48 = .ok (.goto (-32), 3) := by decide +kernel
theorem dX3_meanFame_51 : decode cX3_meanFame 51 = .ok (.iload_n 1, 1) := by decide +kernel
theorem dX3_meanFame_52 : decode cX3_meanFame 52 = .ok (.i2d, 1) := by decide +kernel
theorem dX3_meanFame_53 : decode cX3_meanFame 53 = .ok (.aload_n 0, 1) := by decide +kernel
theorem dX3_meanFame_54 : decode cX3_meanFame 54 = .ok (.getfield 16, 3) := by decide +kernel
theorem dX3_meanFame_57 : decode cX3_meanFame 57 = .ok (.invokevirtual 43, 3) := by decide +kernel
theorem dX3_meanFame_60 : decode cX3_meanFame 60 = .ok (.i2d, 1) := by decide +kernel
theorem dX3_meanFame_61 : decode cX3_meanFame 61 = .ok (.ddiv, 1) := by decide +kernel
theorem dX3_meanFame_62 : decode cX3_meanFame 62 = .ok (.dreturn, 1) := by decide +kernel
theorem dX3_bestFrom_0 : decode cX3_bestFrom 0 = .ok (.aload_n 0, 1) := by decide +kernel
theorem dX3_bestFrom_1 : decode cX3_bestFrom 1 = .ok (.iload_n 1, 1) := by decide +kernel
theorem dX3_bestFrom_2 : decode cX3_bestFrom 2 = .ok (.invokevirtual 92, 3) := by decide +kernel
theorem dX3_bestFrom_5 : decode cX3_bestFrom 5 = .ok (.astore 5, 2) := by decide +kernel
theorem dX3_bestFrom_7 : decode cX3_bestFrom 7 = .ok (.aload_n 0, 1) := by decide +kernel
theorem dX3_bestFrom_8 : decode cX3_bestFrom 8 = .ok (.iload_n 2, 1) := by decide +kernel
theorem dX3_bestFrom_9 : decode cX3_bestFrom 9 = .ok (.invokevirtual 68, 3) := by decide +kernel
theorem dX3_bestFrom_12 : decode cX3_bestFrom 12 = .ok (.astore 6, 2) := by decide +kernel
theorem dX3_bestFrom_14 : decode cX3_bestFrom 14 = .ok (.iload_n 3, 1) := by decide +kernel
theorem dX3_bestFrom_15 : decode cX3_bestFrom 15 = .ok (.iconst 1, 1) := by decide +kernel
theorem dX3_bestFrom_16 : decode cX3_bestFrom 16 = .ok (.bipush 16, 2) := by decide +kernel
theorem dX3_bestFrom_18 : decode cX3_bestFrom 18 = .ok (.invokestatic 32, 3) := by decide +kernel
theorem dX3_bestFrom_21 : decode cX3_bestFrom 21 = .ok (.ifCond .eq 11, 3) := by decide +kernel
theorem dX3_bestFrom_24 : decode cX3_bestFrom 24 = .ok (.iload 4, 2) := by decide +kernel
theorem dX3_bestFrom_26 : decode cX3_bestFrom 26 = .ok (.invokestatic 100, 3) := by decide +kernel
theorem dX3_bestFrom_29 : decode cX3_bestFrom 29 = .ok (.ifCond .ne 13, 3) := by decide +kernel
theorem dX3_bestFrom_32 : decode cX3_bestFrom 32 = .ok (.new 36, 3) := by decide +kernel
theorem dX3_bestFrom_35 : decode cX3_bestFrom 35 = .ok (.dup, 1) := by decide +kernel
theorem dX3_bestFrom_36 : decode cX3_bestFrom 36 = .ok (.ldc 104, 2) := by decide +kernel
theorem dX3_bestFrom_38 : decode cX3_bestFrom 38 = .ok (.invokespecial 40, 3) := by decide +kernel
theorem dX3_bestFrom_41 : decode cX3_bestFrom 41 = .ok (.athrow, 1) := by decide +kernel
theorem dX3_bestFrom_42 : decode cX3_bestFrom 42 = .ok (.iconst (-1), 1) := by decide +kernel
theorem dX3_bestFrom_43 : decode cX3_bestFrom 43 = .ok (.istore 7, 2) := by decide +kernel
theorem dX3_bestFrom_45 : decode cX3_bestFrom 45 = .ok (.iconst 0, 1) := by decide +kernel
theorem dX3_bestFrom_46 : decode cX3_bestFrom 46 = .ok (.istore 8, 2) := by decide +kernel
theorem dX3_bestFrom_48 : decode cX3_bestFrom 48 = .ok (.iconst 0, 1) := by decide +kernel
theorem dX3_bestFrom_49 : decode cX3_bestFrom 49 = .ok (.istore 9, 2) := by decide +kernel
theorem dX3_bestFrom_51 : decode cX3_bestFrom 51 = .ok (.iconst 0, 1) := by decide +kernel
theorem dX3_bestFrom_52 : decode cX3_bestFrom 52 = .ok (.istore 10, 2) := by decide +kernel
theorem dX3_bestFrom_54 : decode cX3_bestFrom 54 = .ok (.iload 10, 2) := by decide +kernel
theorem dX3_bestFrom_56 : decode cX3_bestFrom 56 = .ok (.iload_n 3, 1) := by decide +kernel
theorem dX3_bestFrom_57 : decode cX3_bestFrom 57 = .ok (.iadd, 1) := by decide +kernel
theorem dX3_bestFrom_58 : decode cX3_bestFrom 58 = .ok (.aload 6, 2) := by decide +kernel
theorem dX3_bestFrom_60 : decode cX3_bestFrom 60 = .ok (.getfield 154, 3) := by decide +kernel
theorem dX3_bestFrom_63 : decode cX3_bestFrom 63 = .ok (.if_icmp .gt 89, 3) := by decide +kernel
theorem dX3_bestFrom_66 : decode cX3_bestFrom 66 = .ok (.aload_n 0, 1) := by decide +kernel
theorem dX3_bestFrom_67 : decode cX3_bestFrom 67 = .ok (.aload 5, 2) := by decide +kernel
theorem dX3_bestFrom_69 : decode cX3_bestFrom 69 = .ok (.aload 6, 2) := by decide +kernel
theorem dX3_bestFrom_71 : decode cX3_bestFrom 71 = .ok (.iload 10, 2) := by decide +kernel
theorem dX3_bestFrom_73 : decode cX3_bestFrom 73 = .ok (.iload_n 3, 1) := by decide +kernel
theorem dX3_bestFrom_74 : decode cX3_bestFrom 74 = .ok (.iload 4, 2) := by decide +kernel
theorem dX3_bestFrom_76 : decode cX3_bestFrom 76 = .ok (.invokevirtual 331, 3) := by decide +kernel
theorem dX3_bestFrom_79 : decode cX3_bestFrom 79 = .ok (.istore 11, 2) := by decide +kernel
theorem dX3_bestFrom_81 : decode cX3_bestFrom 81 = .ok (.aload 5, 2) := by decide +kernel
theorem dX3_bestFrom_83 : decode cX3_bestFrom 83 = .ok (.aload 6, 2) := by decide +kernel
theorem dX3_bestFrom_85 : decode cX3_bestFrom 85 = .ok (.iload 10, 2) := by decide +kernel
theorem dX3_bestFrom_87 : decode cX3_bestFrom 87 = .ok (.iload_n 3, 1) := by decide +kernel
theorem dX3_bestFrom_88 : decode cX3_bestFrom 88 = .ok (.iload 4, 2) := by decide +kernel
theorem dX3_bestFrom_90 : decode cX3_bestFrom 90 = .ok (.invokestatic 334, 3) := by decide +kernel
theorem dX3_bestFrom_93 : decode cX3_bestFrom 93 = .ok (.istore 12, 2) := by decide +kernel
theorem dX3_bestFrom_95 : decode cX3_bestFrom 95 = .ok (.iload 11, 2) := by decide +kernel
theorem dX3_bestFrom_97 : decode cX3_bestFrom 97 = .ok (.iload 8, 2) := by decide +kernel
theorem dX3_bestFrom_99 : decode cX3_bestFrom 99 = .ok (.if_icmp .lt 17, 3) := by decide +kernel
theorem dX3_bestFrom_102 : decode cX3_bestFrom 102 = .ok (.iload 11, 2) := by decide +kernel
theorem dX3_bestFrom_104 : decode cX3_bestFrom 104 = .ok (.iload 8, 2) := by decide +kernel
theorem dX3_bestFrom_106 : decode cX3_bestFrom 106 = .ok (.if_icmp .ne 14, 3) := by decide +kernel
theorem dX3_bestFrom_109 : decode cX3_bestFrom 109 = .ok (.iload 12, 2) := by decide +kernel
theorem dX3_bestFrom_111 : decode cX3_bestFrom 111 = .ok (.iload 9, 2) := by decide +kernel
theorem dX3_bestFrom_113 : decode cX3_bestFrom 113 = .ok (.if_icmp .le 7, 3) := by decide +kernel
theorem dX3_bestFrom_116 : decode cX3_bestFrom 116 = .ok (.iconst 1, 1) := by decide +kernel
theorem dX3_bestFrom_117 : decode cX3_bestFrom 117 = .ok (.goto 4, 3) := by decide +kernel
theorem dX3_bestFrom_120 : decode cX3_bestFrom 120 = .ok (.iconst 0, 1) := by decide +kernel
theorem dX3_bestFrom_121 : decode cX3_bestFrom 121 = .ok (.istore 13, 2) := by decide +kernel
theorem dX3_bestFrom_123 : decode cX3_bestFrom 123 = .ok (.iload 7, 2) := by decide +kernel
theorem dX3_bestFrom_125 : decode cX3_bestFrom 125 = .ok (.iconst (-1), 1) := by decide +kernel
theorem dX3_bestFrom_126 : decode cX3_bestFrom 126 = .ok (.if_icmp .eq 8, 3) := by decide +kernel
theorem dX3_bestFrom_129 : decode cX3_bestFrom 129 = .ok (.iload 13, 2) := by decide +kernel
theorem dX3_bestFrom_131 : decode cX3_bestFrom 131 = .ok (.ifCond .eq 15, 3) := by decide +kernel
theorem dX3_bestFrom_134 : decode cX3_bestFrom 134 = .ok (.iload 10, 2) := by decide +kernel
theorem dX3_bestFrom_136 : decode cX3_bestFrom 136 = .ok (.istore 7, 2) := by decide +kernel
theorem dX3_bestFrom_138 : decode cX3_bestFrom 138 = .ok (.iload 11, 2) := by decide +kernel
theorem dX3_bestFrom_140 : decode cX3_bestFrom 140 = .ok (.istore 8, 2) := by decide +kernel
theorem dX3_bestFrom_142 : decode cX3_bestFrom 142 = .ok (.iload 12, 2) := by decide +kernel
theorem dX3_bestFrom_144 : decode cX3_bestFrom 144 = .ok (.istore 9, 2) := by decide +kernel
theorem dX3_bestFrom_146 : decode cX3_bestFrom 146 = .ok (.iinc 10 1, 3) := by decide +kernel
theorem dX3_bestFrom_149 : decode cX3_bestFrom 149 = .ok (.goto (-95), 3) := by decide +kernel
theorem dX3_bestFrom_152 : decode cX3_bestFrom 152 = .ok (.iload 7, 2) := by decide +kernel
theorem dX3_bestFrom_154 : decode cX3_bestFrom 154 = .ok (.ireturn, 1) := by decide +kernel
theorem dX3_wouldWrong_0 : decode cX3_wouldWrong 0 = .ok (.aload_n 0, 1) := by decide +kernel
theorem dX3_wouldWrong_1 : decode cX3_wouldWrong 1 = .ok (.iload_n 1, 1) := by decide +kernel
theorem dX3_wouldWrong_2 : decode cX3_wouldWrong 2 = .ok (.invokevirtual 92, 3) := by decide +kernel
theorem dX3_wouldWrong_5 : decode cX3_wouldWrong 5 = .ok (.astore 6, 2) := by decide +kernel
theorem dX3_wouldWrong_7 : decode cX3_wouldWrong 7 = .ok (.aload_n 0, 1) := by decide +kernel
theorem dX3_wouldWrong_8 : decode cX3_wouldWrong 8 = .ok (.iload_n 2, 1) := by decide +kernel
theorem dX3_wouldWrong_9 : decode cX3_wouldWrong 9 = .ok (.invokevirtual 68, 3) := by decide +kernel
theorem dX3_wouldWrong_12 : decode cX3_wouldWrong 12 = .ok (.astore 7, 2) := by decide +kernel
theorem dX3_wouldWrong_14 : decode cX3_wouldWrong 14 = .ok (.aload 7, 2) := by decide +kernel
theorem dX3_wouldWrong_16 : decode cX3_wouldWrong 16 = .ok (.iload_n 3, 1) := by decide +kernel
theorem dX3_wouldWrong_17 : decode cX3_wouldWrong 17 = .ok (.iload 4, 2) := by decide +kernel
theorem dX3_wouldWrong_19 : decode cX3_wouldWrong 19 = .ok (.invokevirtual 96, 3) := by decide +kernel
theorem dX3_wouldWrong_22 : decode cX3_wouldWrong 22 = .ok (.ifCond .eq 11, 3) := by decide +kernel
theorem dX3_wouldWrong_25 : decode cX3_wouldWrong 25 = .ok (.iload 5, 2) := by decide +kernel
theorem dX3_wouldWrong_27 : decode cX3_wouldWrong 27 = .ok (.invokestatic 100, 3) := by decide +kernel
theorem dX3_wouldWrong_30 : decode cX3_wouldWrong 30 = .ok (.ifCond .ne 13, 3) := by decide +kernel
theorem dX3_wouldWrong_33 : decode cX3_wouldWrong 33 = .ok (.new 36, 3) := by decide +kernel
theorem dX3_wouldWrong_36 : decode cX3_wouldWrong 36 = .ok (.dup, 1) := by decide +kernel
theorem dX3_wouldWrong_37 : decode cX3_wouldWrong 37 = .ok (.ldc 104, 2) := by decide +kernel
theorem dX3_wouldWrong_39 : decode cX3_wouldWrong 39 = .ok (.invokespecial 40, 3) := by decide +kernel
theorem dX3_wouldWrong_42 : decode cX3_wouldWrong 42 = .ok (.athrow, 1) := by decide +kernel
theorem dX3_wouldWrong_43 : decode cX3_wouldWrong 43 = .ok (.aload_n 0, 1) := by decide +kernel
theorem dX3_wouldWrong_44 : decode cX3_wouldWrong 44 = .ok (.aload 6, 2) := by decide +kernel
theorem dX3_wouldWrong_46 : decode cX3_wouldWrong 46 = .ok (.aload 7, 2) := by decide +kernel
theorem dX3_wouldWrong_48 : decode cX3_wouldWrong 48 = .ok (.iload_n 3, 1) := by decide +kernel
theorem dX3_wouldWrong_49 : decode cX3_wouldWrong 49 = .ok (.iload 4, 2) := by decide +kernel
theorem dX3_wouldWrong_51 : decode cX3_wouldWrong 51 = .ok (.iload 5, 2) := by decide +kernel
theorem dX3_wouldWrong_53 : decode cX3_wouldWrong 53 = .ok (.invokevirtual 331, 3) := by decide +kernel
theorem dX3_wouldWrong_56 : decode cX3_wouldWrong 56 = .ok (.ireturn, 1) := by decide +kernel
theorem dX3_nextBuff_0 : decode cX3_nextBuff 0 = .ok (.iconst (-1), 1) := by decide +kernel
theorem dX3_nextBuff_1 : decode cX3_nextBuff 1 = .ok (.istore_n 1, 1) := by decide +kernel
theorem dX3_nextBuff_2 : decode cX3_nextBuff 2 = .ok (.iconst 0, 1) := by decide +kernel
theorem dX3_nextBuff_3 : decode cX3_nextBuff 3 = .ok (.istore_n 2, 1) := by decide +kernel
theorem dX3_nextBuff_4 : decode cX3_nextBuff 4 = .ok (.iconst 0, 1) := by decide +kernel
theorem dX3_nextBuff_5 : decode cX3_nextBuff 5 = .ok (.istore_n 3, 1) := by decide +kernel
theorem dX3_nextBuff_6 : decode cX3_nextBuff 6 = .ok (.iload_n 3, 1) := by decide +kernel
theorem dX3_nextBuff_7 : decode cX3_nextBuff 7 = .ok (.aload_n 0, 1) := by decide +kernel
theorem dX3_nextBuff_8 : decode cX3_nextBuff 8 = .ok (.getfield 10, 3) := by decide +kernel
theorem dX3_nextBuff_11 : decode cX3_nextBuff 11 = .ok (.invokevirtual 43, 3) := by decide +kernel
theorem dX3_nextBuff_14 : decode cX3_nextBuff 14 = .ok (.if_icmp .ge 54, 3) := by decide +kernel
theorem dX3_nextBuff_17 : decode cX3_nextBuff 17 = .ok (.aload_n 0, 1) := by decide +kernel
theorem dX3_nextBuff_18 : decode cX3_nextBuff 18 = .ok (.getfield 10, 3) := by decide +kernel
theorem dX3_nextBuff_21 : decode cX3_nextBuff 21 = .ok (.iload_n 3, 1) := by decide +kernel
theorem dX3_nextBuff_22 : decode cX3_nextBuff 22 = .ok (.invokevirtual 327, 3) := by decide +kernel
theorem dX3_nextBuff_25 : decode cX3_nextBuff 25 = .ok (.checkcast 52, 3) := by decide +kernel
theorem dX3_nextBuff_28 : decode cX3_nextBuff 28 = .ok (.astore 4, 2) := by decide +kernel
theorem dX3_nextBuff_30 : decode cX3_nextBuff 30 = .ok (.aload_n 0, 1) := by decide +kernel
theorem dX3_nextBuff_31 : decode cX3_nextBuff 31 = .ok (.aload 4, 2) := by decide +kernel
theorem dX3_nextBuff_33 : decode cX3_nextBuff 33 = .ok (.invokevirtual 227, 3) := by decide +kernel
theorem dX3_nextBuff_36 : decode cX3_nextBuff 36 = .ok (.istore 5, 2) := by decide +kernel
theorem dX3_nextBuff_38 : decode cX3_nextBuff 38 = .ok (.aload_n 0, 1) := by decide +kernel
theorem dX3_nextBuff_39 : decode cX3_nextBuff 39 = .ok (.aload 4, 2) := by decide +kernel
theorem dX3_nextBuff_41 : decode cX3_nextBuff 41 = .ok (.invokevirtual 148, 3) := by decide +kernel
theorem dX3_nextBuff_44 : decode cX3_nextBuff 44 = .ok (.aload_n 0, 1) := by decide +kernel
theorem dX3_nextBuff_45 : decode cX3_nextBuff 45 = .ok (.getfield 26, 3) := by decide +kernel
theorem dX3_nextBuff_48 : decode cX3_nextBuff 48 = .ok (.if_icmp .gt 14, 3) := by decide +kernel
theorem dX3_nextBuff_51 : decode cX3_nextBuff 51 = .ok (.iload 5, 2) := by decide +kernel
theorem dX3_nextBuff_53 : decode cX3_nextBuff 53 = .ok (.iload_n 2, 1) := by decide +kernel
theorem dX3_nextBuff_54 : decode cX3_nextBuff 54 = .ok (.if_icmp .le 8, 3) := by decide +kernel
theorem dX3_nextBuff_57 : decode cX3_nextBuff 57 = .ok (.iload_n 3, 1) := by decide +kernel
theorem dX3_nextBuff_58 : decode cX3_nextBuff 58 = .ok (.istore_n 1, 1) := by decide +kernel
theorem dX3_nextBuff_59 : decode cX3_nextBuff 59 = .ok (.iload 5, 2) := by decide +kernel
theorem dX3_nextBuff_61 : decode cX3_nextBuff 61 = .ok (.istore_n 2, 1) := by decide +kernel
theorem dX3_nextBuff_62 : decode cX3_nextBuff 62 = .ok (.iinc 3 1, 3) := by decide +kernel
theorem dX3_nextBuff_65 : decode cX3_nextBuff 65 = .ok (.goto (-59), 3) := by decide +kernel
theorem dX3_nextBuff_68 : decode cX3_nextBuff 68 = .ok (.iload_n 1, 1) := by decide +kernel
theorem dX3_nextBuff_69 : decode cX3_nextBuff 69 = .ok (.ireturn, 1) := by decide +kernel
theorem dX3_wouldFame_0 : decode cX3_wouldFame 0 = .ok (.aload_n 0, 1) := by decide +kernel
theorem dX3_wouldFame_1 : decode cX3_wouldFame 1 = .ok (.iload_n 1, 1) := by decide +kernel
theorem dX3_wouldFame_2 : decode cX3_wouldFame 2 = .ok (.invokevirtual 92, 3) := by decide +kernel
theorem dX3_wouldFame_5 : decode cX3_wouldFame 5 = .ok (.astore_n 3, 1) := by decide +kernel
theorem dX3_wouldFame_6 : decode cX3_wouldFame 6 = .ok (.iload_n 2, 1) := by decide +kernel
theorem dX3_wouldFame_7 : decode cX3_wouldFame 7 = .ok (.iconst 0, 1) := by decide +kernel
theorem dX3_wouldFame_8 : decode cX3_wouldFame 8 = .ok (.bipush 30, 2) := by decide +kernel
theorem dX3_wouldFame_10 : decode cX3_wouldFame 10 = .ok (.invokestatic 32, 3) := by decide +kernel
theorem dX3_wouldFame_13 : decode cX3_wouldFame 13 = .ok (.ifCond .ne 14, 3) := by decide +kernel
theorem dX3_wouldFame_16 : decode cX3_wouldFame 16 = .ok (.new 36, 3) := by decide +kernel
theorem dX3_wouldFame_19 : decode cX3_wouldFame 19 = .ok (.dup, 1) := by decide +kernel
theorem dX3_wouldFame_20 : decode cX3_wouldFame 20 = .ok (.ldc_w 337, 3) := by decide +kernel
theorem dX3_wouldFame_23 : decode cX3_wouldFame 23 = .ok (.invokespecial 40, 3) := by decide +kernel
theorem dX3_wouldFame_26 : decode cX3_wouldFame 26 = .ok (.athrow, 1) := by decide +kernel
theorem dX3_wouldFame_27 : decode cX3_wouldFame 27 = .ok (.iconst 0, 1) := by decide +kernel
theorem dX3_wouldFame_28 : decode cX3_wouldFame 28 = .ok (.istore 4, 2) := by decide +kernel
theorem dX3_wouldFame_30 : decode cX3_wouldFame 30 = .ok (.iconst 0, 1) := by decide +kernel
theorem dX3_wouldFame_31 : decode cX3_wouldFame 31 = .ok (.istore 5, 2) := by decide +kernel
theorem dX3_wouldFame_33 : decode cX3_wouldFame 33 = .ok (.iload 5, 2) := by decide +kernel
theorem dX3_wouldFame_35 : decode cX3_wouldFame 35 = .ok (.aload_n 0, 1) := by decide +kernel
theorem dX3_wouldFame_36 : decode cX3_wouldFame 36 = .ok (.getfield 10, 3) := by decide +kernel
theorem dX3_wouldFame_39 : decode cX3_wouldFame 39 = .ok (.invokevirtual 43, 3) := by decide +kernel
theorem dX3_wouldFame_42 : decode cX3_wouldFame 42 = .ok (.if_icmp .ge 44, 3) := by decide +kernel
theorem dX3_wouldFame_45 : decode cX3_wouldFame 45 = .ok (.aload_n 0, 1) := by decide +kernel
theorem dX3_wouldFame_46 : decode cX3_wouldFame 46 = .ok (.getfield 10, 3) := by decide +kernel
theorem dX3_wouldFame_49 : decode cX3_wouldFame 49 = .ok (.iload 5, 2) := by decide +kernel
theorem dX3_wouldFame_51 : decode cX3_wouldFame 51 = .ok (.invokevirtual 327, 3) := by decide +kernel
theorem dX3_wouldFame_54 : decode cX3_wouldFame 54 = .ok (.checkcast 52, 3) := by decide +kernel
theorem dX3_wouldFame_57 : decode cX3_wouldFame 57 = .ok (.astore 6, 2) := by decide +kernel
theorem dX3_wouldFame_59 : decode cX3_wouldFame 59 = .ok (.aload_n 0, 1) := by decide +kernel
theorem dX3_wouldFame_60 : decode cX3_wouldFame 60 = .ok (.aload 6, 2) := by decide +kernel
theorem dX3_wouldFame_62 : decode cX3_wouldFame 62 = .ok (.iload_n 2, 1) := by decide +kernel
theorem dX3_wouldFame_63 : decode cX3_wouldFame 63 = .ok (.invokevirtual 339, 3) := by decide +kernel
theorem dX3_wouldFame_66 : decode cX3_wouldFame 66 = .ok (.ifCond .ne 14, 3) := by decide +kernel
theorem dX3_wouldFame_69 : decode cX3_wouldFame 69 = .ok (.iload 4, 2) := by decide +kernel
theorem dX3_wouldFame_71 : decode cX3_wouldFame 71 = .ok (.aload 6, 2) := by decide +kernel
theorem dX3_wouldFame_73 : decode cX3_wouldFame 73 = .ok (.aload_n 3, 1) := by decide +kernel
theorem dX3_wouldFame_74 : decode cX3_wouldFame 74 = .ok (.invokevirtual 342, 3) := by decide +kernel
theorem dX3_wouldFame_77 : decode cX3_wouldFame 77 = .ok (.iadd, 1) := by decide +kernel
theorem dX3_wouldFame_78 : decode cX3_wouldFame 78 = .ok (.istore 4, 2) := by decide +kernel
theorem dX3_wouldFame_80 : decode cX3_wouldFame 80 = .ok (.iinc 5 1, 3) := by decide +kernel
theorem dX3_wouldFame_83 : decode cX3_wouldFame 83 = .ok (.goto (-50), 3) := by decide +kernel
theorem dX3_wouldFame_86 : decode cX3_wouldFame 86 = .ok (.iload 4, 2) := by decide +kernel
theorem dX3_wouldFame_88 : decode cX3_wouldFame 88 = .ok (.ireturn, 1) := by decide +kernel
theorem dX3_digest_0 : decode cX3_digest 0 = .ok (.ldc2_w 343, 3) := by decide +kernel
theorem dX3_digest_3 : decode cX3_digest 3 = .ok (.lstore_n 1, 1) := by decide +kernel
theorem dX3_digest_4 : decode cX3_digest 4 = .ok (.iconst 0, 1) := by decide +kernel
theorem dX3_digest_5 : decode cX3_digest 5 = .ok (.istore_n 3, 1) := by decide +kernel
theorem dX3_digest_6 : decode cX3_digest 6 = .ok (.iload_n 3, 1) := by decide +kernel
theorem dX3_digest_7 : decode cX3_digest 7 = .ok (.bipush 11, 2) := by decide +kernel
theorem dX3_digest_9 : decode cX3_digest 9 = .ok (.if_icmp .gt 19, 3) := by decide +kernel
theorem dX3_digest_12 : decode cX3_digest 12 = .ok (.lload_n 1, 1) := by decide +kernel
theorem dX3_digest_13 : decode cX3_digest 13 = .ok (.aload_n 0, 1) := by decide +kernel
theorem dX3_digest_14 : decode cX3_digest 14 = .ok (.iload_n 3, 1) := by decide +kernel
theorem dX3_digest_15 : decode cX3_digest 15 = .ok (.invokevirtual 345, 3) := by decide +kernel
theorem dX3_digest_18 : decode cX3_digest 18 = .ok (.invokestatic 348, 3) := by decide +kernel
theorem dX3_digest_21 : decode cX3_digest 21 = .ok (.lstore_n 1, 1) := by decide +kernel
theorem dX3_digest_22 : decode cX3_digest 22 = .ok (.iinc 3 1, 3) := by decide +kernel
theorem dX3_digest_25 : decode cX3_digest 25 = .ok (.goto (-19), 3) := by decide +kernel
theorem dX3_digest_28 : decode cX3_digest 28 = .ok (.iconst 0, 1) := by decide +kernel
theorem dX3_digest_29 : decode cX3_digest 29 = .ok (.istore_n 3, 1) := by decide +kernel
theorem dX3_digest_30 : decode cX3_digest 30 = .ok (.iload_n 3, 1) := by decide +kernel
theorem dX3_digest_31 : decode cX3_digest 31 = .ok (.aload_n 0, 1) := by decide +kernel
theorem dX3_digest_32 : decode cX3_digest 32 = .ok (.getfield 10, 3) := by decide +kernel
theorem dX3_digest_35 : decode cX3_digest 35 = .ok (.invokevirtual 43, 3) := by decide +kernel
theorem dX3_digest_38 : decode cX3_digest 38 = .ok (.if_icmp .ge 16, 3) := by decide +kernel
theorem dX3_digest_41 : decode cX3_digest 41 = .ok (.aload_n 0, 1) := by decide +kernel
theorem dX3_digest_42 : decode cX3_digest 42 = .ok (.lload_n 1, 1) := by decide +kernel
theorem dX3_digest_43 : decode cX3_digest 43 = .ok (.iload_n 3, 1) := by decide +kernel
theorem dX3_digest_44 : decode cX3_digest 44 = .ok (.invokevirtual 352, 3) := by decide +kernel
theorem dX3_digest_47 : decode cX3_digest 47 = .ok (.lstore_n 1, 1) := by decide +kernel
theorem dX3_digest_48 : decode cX3_digest 48 = .ok (.iinc 3 1, 3) := by decide +kernel
theorem dX3_digest_51 : decode cX3_digest 51 = .ok (.goto (-21), 3) := by decide +kernel
theorem dX3_digest_54 : decode cX3_digest 54 = .ok (.iconst 0, 1) := by decide +kernel
theorem dX3_digest_55 : decode cX3_digest 55 = .ok (.istore_n 3, 1) := by decide +kernel
theorem dX3_digest_56 : decode cX3_digest 56 = .ok (.iload_n 3, 1) := by decide +kernel
theorem dX3_digest_57 : decode cX3_digest 57 = .ok (.aload_n 0, 1) := by decide +kernel
theorem dX3_digest_58 : decode cX3_digest 58 = .ok (.getfield 16, 3) := by decide +kernel
theorem dX3_digest_61 : decode cX3_digest 61 = .ok (.invokevirtual 43, 3) := by decide +kernel
theorem dX3_digest_64 : decode cX3_digest 64 = .ok (.if_icmp .ge 16, 3) := by decide +kernel
theorem dX3_digest_67 : decode cX3_digest 67 = .ok (.aload_n 0, 1) := by decide +kernel
theorem dX3_digest_68 : decode cX3_digest 68 = .ok (.lload_n 1, 1) := by decide +kernel
theorem dX3_digest_69 : decode cX3_digest 69 = .ok (.iload_n 3, 1) := by decide +kernel
theorem dX3_digest_70 : decode cX3_digest 70 = .ok (.invokevirtual 355, 3) := by decide +kernel
theorem dX3_digest_73 : decode cX3_digest 73 = .ok (.lstore_n 1, 1) := by decide +kernel
theorem dX3_digest_74 : decode cX3_digest 74 = .ok (.iinc 3 1, 3) := by decide +kernel
theorem dX3_digest_77 : decode cX3_digest 77 = .ok (.goto (-21), 3) := by decide +kernel
theorem dX3_digest_80 : decode cX3_digest 80 = .ok (.iconst 0, 1) := by decide +kernel
theorem dX3_digest_81 : decode cX3_digest 81 = .ok (.istore_n 3, 1) := by decide +kernel
theorem dX3_digest_82 : decode cX3_digest 82 = .ok (.iload_n 3, 1) := by decide +kernel
theorem dX3_digest_83 : decode cX3_digest 83 = .ok (.aload_n 0, 1) := by decide +kernel
theorem dX3_digest_84 : decode cX3_digest 84 = .ok (.getfield 19, 3) := by decide +kernel
theorem dX3_digest_87 : decode cX3_digest 87 = .ok (.invokevirtual 43, 3) := by decide +kernel
theorem dX3_digest_90 : decode cX3_digest 90 = .ok (.if_icmp .ge 37, 3) := by decide +kernel
theorem dX3_digest_93 : decode cX3_digest 93 = .ok (.iconst 0, 1) := by decide +kernel
theorem dX3_digest_94 : decode cX3_digest 94 = .ok (.istore 4, 2) := by decide +kernel
theorem dX3_digest_96 : decode cX3_digest 96 = .ok (.iload 4, 2) := by decide +kernel
theorem dX3_digest_98 : decode cX3_digest 98 = .ok (.bipush 13, 2) := by decide +kernel
theorem dX3_digest_100 : decode cX3_digest 100 = .ok (.if_icmp .gt 21, 3) := by decide +kernel
theorem dX3_digest_103 : decode cX3_digest 103 = .ok (.lload_n 1, 1) := by decide +kernel
theorem dX3_digest_104 : decode cX3_digest 104 = .ok (.aload_n 0, 1) := by decide +kernel
theorem dX3_digest_105 : decode cX3_digest 105 = .ok (.iload_n 3, 1) := by decide +kernel
theorem dX3_digest_106 : decode cX3_digest 106 = .ok (.iload 4, 2) := by decide +kernel
theorem dX3_digest_108 : decode cX3_digest 108 = .ok (.invokevirtual 358, 3) := by decide +kernel
theorem dX3_digest_111 : decode cX3_digest 111 = .ok (.invokestatic 348, 3) := by decide +kernel
theorem dX3_digest_114 : decode cX3_digest 114 = .ok (.lstore_n 1, 1) := by decide +kernel
theorem dX3_digest_115 : decode cX3_digest 115 = .ok (.iinc 4 1, 3) := by decide +kernel
theorem dX3_digest_118 : decode cX3_digest 118 = .ok (.goto (-22), 3) := by decide +kernel
theorem dX3_digest_121 : decode cX3_digest 121 = .ok (.iinc 3 1, 3) := by decide +kernel
theorem dX3_digest_124 : decode cX3_digest 124 = .ok (.goto (-42), 3) := by decide +kernel
theorem dX3_digest_127 : decode cX3_digest 127 = .ok (.lload_n 1, 1) := by decide +kernel
theorem dX3_digest_128 : decode cX3_digest 128 = .ok (.aload_n 0, 1) := by decide +kernel
theorem dX3_digest_129 : decode cX3_digest 129 = .ok (.invokevirtual 362, 3) := by decide +kernel
theorem dX3_digest_132 : decode cX3_digest 132 = .ok (.invokestatic 348, 3) := by decide +kernel
theorem dX3_digest_135 : decode cX3_digest 135 = .ok (.lstore_n 1, 1) := by decide +kernel
theorem dX3_digest_136 : decode cX3_digest 136 = .ok (.aload_n 0, 1) := by decide +kernel
theorem dX3_digest_137 : decode cX3_digest 137 = .ok (.getfield 16, 3) := by decide +kernel
theorem dX3_digest_140 : decode cX3_digest 140 = .ok (.invokevirtual 324, 3) := by decide +kernel
theorem dX3_digest_143 : decode cX3_digest 143 = .ok (.ifCond .ne 26, 3) := by decide +kernel
theorem dX3_digest_146 : decode cX3_digest 146 = .ok (.aload_n 0, 1) := by decide +kernel
theorem dX3_digest_147 : decode cX3_digest 147 = .ok (.getfield 10, 3) := by decide +kernel
theorem dX3_digest_150 : decode cX3_digest 150 = .ok (.invokevirtual 324, 3) := by decide +kernel
theorem dX3_digest_153 : decode cX3_digest 153 = .ok (.ifCond .ne 16, 3) := by decide +kernel
theorem dX3_digest_156 : decode cX3_digest 156 = .ok (.lload_n 1, 1) := by decide +kernel
theorem dX3_digest_157 : decode cX3_digest 157 = .ok (.aload_n 0, 1) := by decide +kernel
theorem dX3_digest_158 : decode cX3_digest 158 = .ok (.iconst 0, 1) := by decide +kernel
theorem dX3_digest_159 : decode cX3_digest 159 = .ok (.iconst 0, 1) := by decide +kernel
theorem dX3_digest_160 : decode cX3_digest 160 = .ok (.iconst 2, 1) := by decide +kernel
theorem dX3_digest_161 : decode cX3_digest 161 = .ok (.iconst 1, 1) := by decide +kernel
theorem dX3_digest_162 : decode cX3_digest 162 = .ok (.invokevirtual 365, 3) := by decide +kernel
theorem dX3_digest_165 : decode cX3_digest 165 = .ok (.invokestatic 348, 3) := by decide +kernel
theorem dX3_digest_168 : decode cX3_digest 168 = .ok (.lstore_n 1, 1) := by decide +kernel
theorem dX3_digest_169 : decode cX3_digest 169 = .ok (.lload_n 1, 1) := by decide +kernel
theorem dX3_digest_170 : decode cX3_digest 170 = .ok (.lreturn, 1) := by decide +kernel
theorem dX3_mixedWithWall_0 : decode cX3_mixedWithWall 0 = .ok (.lload_n 1, 1) := by decide +kernel
theorem dX3_mixedWithWall_1 : decode cX3_mixedWithWall 1 = .ok (.lstore 4, 2) := by decide +kernel
theorem dX3_mixedWithWall_3 : decode cX3_mixedWithWall 3 = .ok (.iconst 0, 1) := by decide +kernel
theorem dX3_mixedWithWall_4 : decode cX3_mixedWithWall 4 = .ok (.istore 6, 2) := by decide +kernel
theorem dX3_mixedWithWall_6 : decode cX3_mixedWithWall 6 = .ok (.iload 6, 2) := by decide +kernel
theorem dX3_mixedWithWall_8 : decode cX3_mixedWithWall 8 = .ok (.bipush 6, 2) := by decide +kernel
theorem dX3_mixedWithWall_10 : decode cX3_mixedWithWall 10 = .ok (.if_icmp .gt 23, 3) := by decide +kernel
theorem dX3_mixedWithWall_13 : decode cX3_mixedWithWall 13 = .ok (.lload 4, 2) := by decide +kernel
theorem dX3_mixedWithWall_15 : decode cX3_mixedWithWall 15 = .ok (.aload_n 0, 1) := by decide +kernel
theorem dX3_mixedWithWall_16 : decode cX3_mixedWithWall 16 = .ok (.iload_n 3, 1) := by decide +kernel
theorem dX3_mixedWithWall_17 : decode cX3_mixedWithWall 17 = .ok (.iload 6, 2) := by decide +kernel
theorem dX3_mixedWithWall_19 : decode cX3_mixedWithWall 19 = .ok (.invokevirtual 369, 3) := by decide +kernel
theorem dX3_mixedWithWall_22 : decode cX3_mixedWithWall 22 = .ok (.invokestatic 348, 3) := by decide +kernel
theorem dX3_mixedWithWall_25 : decode cX3_mixedWithWall 25 = .ok (.lstore 4, 2) := by decide +kernel
theorem dX3_mixedWithWall_27 : decode cX3_mixedWithWall 27 = .ok (.iinc 6 1, 3) := by decide +kernel
theorem dX3_mixedWithWall_30 : decode cX3_mixedWithWall 30 = .ok (.goto (-24), 3) := by decide +kernel
theorem dX3_mixedWithWall_33 : decode cX3_mixedWithWall 33 = .ok (.aload_n 0, 1) := by decide +kernel
theorem dX3_mixedWithWall_34 : decode cX3_mixedWithWall 34 = .ok (.iload_n 3, 1) := by decide +kernel
theorem dX3_mixedWithWall_35 : decode cX3_mixedWithWall 35 = .ok (.invokevirtual 68, 3) := by decide +kernel
theorem dX3_mixedWithWall_38 : decode cX3_mixedWithWall 38 = .ok (.getfield 154, 3) := by decide +kernel
theorem dX3_mixedWithWall_41 : decode cX3_mixedWithWall 41 = .ok (.istore 6, 2) := by decide +kernel
theorem dX3_mixedWithWall_43 : decode cX3_mixedWithWall 43 = .ok (.iconst 0, 1) := by decide +kernel
theorem dX3_mixedWithWall_44 : decode cX3_mixedWithWall 44 = .ok (.istore 7, 2) := by decide +kernel
theorem dX3_mixedWithWall_46 : decode cX3_mixedWithWall 46 = .ok (.iload 7, 2) := by decide +kernel
theorem dX3_mixedWithWall_48 : decode cX3_mixedWithWall 48 = .ok (.iload 6, 2) := by decide +kernel
theorem dX3_mixedWithWall_50 : decode cX3_mixedWithWall 50 = .ok (.if_icmp .ge 23, 3) := by decide +kernel
theorem dX3_mixedWithWall_53 : decode cX3_mixedWithWall 53 = .ok (.lload 4, 2) := by decide +kernel
theorem dX3_mixedWithWall_55 : decode cX3_mixedWithWall 55 = .ok (.aload_n 0, 1) := by decide +kernel
theorem dX3_mixedWithWall_56 : decode cX3_mixedWithWall 56 = .ok (.iload_n 3, 1) := by decide +kernel
theorem dX3_mixedWithWall_57 : decode cX3_mixedWithWall 57 = .ok (.iload 7, 2) := by decide +kernel
theorem dX3_mixedWithWall_59 : decode cX3_mixedWithWall 59 = .ok (.invokevirtual 372, 3) := by decide +kernel
theorem dX3_mixedWithWall_62 : decode cX3_mixedWithWall 62 = .ok (.invokestatic 348, 3) := by decide +kernel
theorem dX3_mixedWithWall_65 : decode cX3_mixedWithWall 65 = .ok (.lstore 4, 2) := by decide +kernel
theorem dX3_mixedWithWall_67 : decode cX3_mixedWithWall 67 = .ok (.iinc 7 1, 3) := by decide +kernel
theorem dX3_mixedWithWall_70 : decode cX3_mixedWithWall 70 = .ok (.goto (-24), 3) := by decide +kernel
theorem dX3_mixedWithWall_73 : decode cX3_mixedWithWall 73 = .ok (.lload 4, 2) := by decide +kernel
theorem dX3_mixedWithWall_75 : decode cX3_mixedWithWall 75 = .ok (.lreturn, 1) := by decide +kernel
theorem dX3_mixedWithHand_0 : decode cX3_mixedWithHand 0 = .ok (.lload_n 1, 1) := by decide +kernel
theorem dX3_mixedWithHand_1 : decode cX3_mixedWithHand 1 = .ok (.lstore 4, 2) := by decide +kernel
theorem dX3_mixedWithHand_3 : decode cX3_mixedWithHand 3 = .ok (.iconst 0, 1) := by decide +kernel
theorem dX3_mixedWithHand_4 : decode cX3_mixedWithHand 4 = .ok (.istore 6, 2) := by decide +kernel
theorem dX3_mixedWithHand_6 : decode cX3_mixedWithHand 6 = .ok (.iload 6, 2) := by decide +kernel
theorem dX3_mixedWithHand_8 : decode cX3_mixedWithHand 8 = .ok (.bipush 10, 2) := by decide +kernel
theorem dX3_mixedWithHand_10 : decode cX3_mixedWithHand 10 = .ok (.if_icmp .gt 23, 3) := by decide +kernel
theorem dX3_mixedWithHand_13 : decode cX3_mixedWithHand 13 = .ok (.lload 4, 2) := by decide +kernel
theorem dX3_mixedWithHand_15 : decode cX3_mixedWithHand 15 = .ok (.aload_n 0, 1) := by decide +kernel
theorem dX3_mixedWithHand_16 : decode cX3_mixedWithHand 16 = .ok (.iload_n 3, 1) := by decide +kernel
theorem dX3_mixedWithHand_17 : decode cX3_mixedWithHand 17 = .ok (.iload 6, 2) := by decide +kernel
theorem dX3_mixedWithHand_19 : decode cX3_mixedWithHand 19 = .ok (.invokevirtual 375, 3) := by decide +kernel
theorem dX3_mixedWithHand_22 : decode cX3_mixedWithHand 22 = .ok (.invokestatic 348, 3) := by decide +kernel
theorem dX3_mixedWithHand_25 : decode cX3_mixedWithHand 25 = .ok (.lstore 4, 2) := by decide +kernel
theorem dX3_mixedWithHand_27 : decode cX3_mixedWithHand 27 = .ok (.iinc 6 1, 3) := by decide +kernel
theorem dX3_mixedWithHand_30 : decode cX3_mixedWithHand 30 = .ok (.goto (-24), 3) := by decide +kernel
theorem dX3_mixedWithHand_33 : decode cX3_mixedWithHand 33 = .ok (.iconst 0, 1) := by decide +kernel
theorem dX3_mixedWithHand_34 : decode cX3_mixedWithHand 34 = .ok (.istore 6, 2) := by decide +kernel
theorem dX3_mixedWithHand_36 : decode cX3_mixedWithHand 36 = .ok (.iload 6, 2) := by decide +kernel
theorem dX3_mixedWithHand_38 : decode cX3_mixedWithHand 38 = .ok (.aload_n 0, 1) := by decide +kernel
theorem dX3_mixedWithHand_39 : decode cX3_mixedWithHand 39 = .ok (.getfield 16, 3) := by decide +kernel
theorem dX3_mixedWithHand_42 : decode cX3_mixedWithHand 42 = .ok (.invokevirtual 43, 3) := by decide +kernel
theorem dX3_mixedWithHand_45 : decode cX3_mixedWithHand 45 = .ok (.if_icmp .ge 23, 3) := by decide +kernel
theorem dX3_mixedWithHand_48 : decode cX3_mixedWithHand 48 = .ok (.lload 4, 2) := by decide +kernel
theorem dX3_mixedWithHand_50 : decode cX3_mixedWithHand 50 = .ok (.aload_n 0, 1) := by decide +kernel
theorem dX3_mixedWithHand_51 : decode cX3_mixedWithHand 51 = .ok (.iload_n 3, 1) := by decide +kernel
theorem dX3_mixedWithHand_52 : decode cX3_mixedWithHand 52 = .ok (.iload 6, 2) := by decide +kernel
theorem dX3_mixedWithHand_54 : decode cX3_mixedWithHand 54 = .ok (.invokevirtual 378, 3) := by decide +kernel
theorem dX3_mixedWithHand_57 : decode cX3_mixedWithHand 57 = .ok (.invokestatic 348, 3) := by decide +kernel
theorem dX3_mixedWithHand_60 : decode cX3_mixedWithHand 60 = .ok (.lstore 4, 2) := by decide +kernel
theorem dX3_mixedWithHand_62 : decode cX3_mixedWithHand 62 = .ok (.iinc 6 1, 3) := by decide +kernel
theorem dX3_mixedWithHand_65 : decode cX3_mixedWithHand 65 = .ok (.goto (-29), 3) := by decide +kernel
theorem dX3_mixedWithHand_68 : decode cX3_mixedWithHand 68 = .ok (.lload 4, 2) := by decide +kernel
theorem dX3_mixedWithHand_70 : decode cX3_mixedWithHand 70 = .ok (.aload_n 0, 1) := by decide +kernel
theorem dX3_mixedWithHand_71 : decode cX3_mixedWithHand 71 = .ok (.iload_n 3, 1) := by decide +kernel
theorem dX3_mixedWithHand_72 : decode cX3_mixedWithHand 72 = .ok (.bipush 7, 2) := by decide +kernel
theorem dX3_mixedWithHand_74 : decode cX3_mixedWithHand 74 = .ok (.invokevirtual 381, 3) := by decide +kernel
theorem dX3_mixedWithHand_77 : decode cX3_mixedWithHand 77 = .ok (.invokestatic 348, 3) := by decide +kernel
theorem dX3_mixedWithHand_80 : decode cX3_mixedWithHand 80 = .ok (.lreturn, 1) := by decide +kernel
theorem dX3_mixed_0 : decode cX3_mixed 0 = .ok (.lload_n 0, 1) := by decide +kernel
theorem dX3_mixed_1 : decode cX3_mixed 1 = .ok (.ldc2_w 384, 3) := by decide +kernel
theorem dX3_mixed_4 : decode cX3_mixed 4 = .ok (.lmul, 1) := by decide +kernel
theorem dX3_mixed_5 : decode cX3_mixed 5 = .ok (.iload_n 2, 1) := by decide +kernel
theorem dX3_mixed_6 : decode cX3_mixed 6 = .ok (.i2l, 1) := by decide +kernel
theorem dX3_mixed_7 : decode cX3_mixed 7 = .ok (.ladd, 1) := by decide +kernel
theorem dX3_mixed_8 : decode cX3_mixed 8 = .ok (.lreturn, 1) := by decide +kernel
theorem dX3_isWithin_0 : decode cX3_isWithin 0 = .ok (.iload_n 0, 1) := by decide +kernel
theorem dX3_isWithin_1 : decode cX3_isWithin 1 = .ok (.iload_n 1, 1) := by decide +kernel
theorem dX3_isWithin_2 : decode cX3_isWithin 2 = .ok (.if_icmp .lt 12, 3) := by decide +kernel
theorem dX3_isWithin_5 : decode cX3_isWithin 5 = .ok (.iload_n 0, 1) := by decide +kernel
theorem dX3_isWithin_6 : decode cX3_isWithin 6 = .ok (.iload_n 2, 1) := by decide +kernel
theorem dX3_isWithin_7 : decode cX3_isWithin 7 = .ok (.if_icmp .gt 7, 3) := by decide +kernel
theorem dX3_isWithin_10 : decode cX3_isWithin 10 = .ok (.iconst 1, 1) := by decide +kernel
theorem dX3_isWithin_11 : decode cX3_isWithin 11 = .ok (.goto 4, 3) := by decide +kernel
theorem dX3_isWithin_14 : decode cX3_isWithin 14 = .ok (.iconst 0, 1) := by decide +kernel
theorem dX3_isWithin_15 : decode cX3_isWithin 15 = .ok (.ireturn, 1) := by decide +kernel
theorem dX3_isKind_0 : decode cX3_isKind 0 = .ok (.iload_n 0, 1) := by decide +kernel
theorem dX3_isKind_1 : decode cX3_isKind 1 = .ok (.iconst 0, 1) := by decide +kernel
theorem dX3_isKind_2 : decode cX3_isKind 2 = .ok (.iconst 3, 1) := by decide +kernel
theorem dX3_isKind_3 : decode cX3_isKind 3 = .ok (.invokestatic 32, 3) := by decide +kernel
theorem dX3_isKind_6 : decode cX3_isKind 6 = .ok (.ireturn, 1) := by decide +kernel
theorem dX3_wallAt_0 : decode cX3_wallAt 0 = .ok (.iload_n 1, 1) := by decide +kernel
theorem dX3_wallAt_1 : decode cX3_wallAt 1 = .ok (.iconst 0, 1) := by decide +kernel
theorem dX3_wallAt_2 : decode cX3_wallAt 2 = .ok (.aload_n 0, 1) := by decide +kernel
theorem dX3_wallAt_3 : decode cX3_wallAt 3 = .ok (.getfield 10, 3) := by decide +kernel
theorem dX3_wallAt_6 : decode cX3_wallAt 6 = .ok (.invokevirtual 43, 3) := by decide +kernel
theorem dX3_wallAt_9 : decode cX3_wallAt 9 = .ok (.iconst 1, 1) := by decide +kernel
theorem dX3_wallAt_10 : decode cX3_wallAt 10 = .ok (.isub, 1) := by decide +kernel
theorem dX3_wallAt_11 : decode cX3_wallAt 11 = .ok (.invokestatic 32, 3) := by decide +kernel
theorem dX3_wallAt_14 : decode cX3_wallAt 14 = .ok (.ifCond .ne 14, 3) := by decide +kernel
theorem dX3_wallAt_17 : decode cX3_wallAt 17 = .ok (.new 235, 3) := by decide +kernel
theorem dX3_wallAt_20 : decode cX3_wallAt 20 = .ok (.dup, 1) := by decide +kernel
theorem dX3_wallAt_21 : decode cX3_wallAt 21 = .ok (.ldc_w 386, 3) := by decide +kernel
theorem dX3_wallAt_24 : decode cX3_wallAt 24 = .ok (.invokespecial 239, 3) := by decide +kernel
theorem dX3_wallAt_27 : decode cX3_wallAt 27 = .ok (.athrow, 1) := by decide +kernel
theorem dX3_wallAt_28 : decode cX3_wallAt 28 = .ok (.aload_n 0, 1) := by decide +kernel
theorem dX3_wallAt_29 : decode cX3_wallAt 29 = .ok (.getfield 10, 3) := by decide +kernel
theorem dX3_wallAt_32 : decode cX3_wallAt 32 = .ok (.iload_n 1, 1) := by decide +kernel
theorem dX3_wallAt_33 : decode cX3_wallAt 33 = .ok (.invokevirtual 327, 3) := by decide +kernel
theorem dX3_wallAt_36 : decode cX3_wallAt 36 = .ok (.checkcast 52, 3) := by decide +kernel
theorem dX3_wallAt_39 : decode cX3_wallAt 39 = .ok (.areturn, 1) := by decide +kernel
theorem dX3_handAt_0 : decode cX3_handAt 0 = .ok (.iload_n 1, 1) := by decide +kernel
theorem dX3_handAt_1 : decode cX3_handAt 1 = .ok (.iconst 0, 1) := by decide +kernel
theorem dX3_handAt_2 : decode cX3_handAt 2 = .ok (.aload_n 0, 1) := by decide +kernel
theorem dX3_handAt_3 : decode cX3_handAt 3 = .ok (.getfield 16, 3) := by decide +kernel
theorem dX3_handAt_6 : decode cX3_handAt 6 = .ok (.invokevirtual 43, 3) := by decide +kernel
theorem dX3_handAt_9 : decode cX3_handAt 9 = .ok (.iconst 1, 1) := by decide +kernel
theorem dX3_handAt_10 : decode cX3_handAt 10 = .ok (.isub, 1) := by decide +kernel
theorem dX3_handAt_11 : decode cX3_handAt 11 = .ok (.invokestatic 32, 3) := by decide +kernel
theorem dX3_handAt_14 : decode cX3_handAt 14 = .ok (.ifCond .ne 14, 3) := by decide +kernel
theorem dX3_handAt_17 : decode cX3_handAt 17 = .ok (.new 235, 3) := by decide +kernel
theorem dX3_handAt_20 : decode cX3_handAt 20 = .ok (.dup, 1) := by decide +kernel
theorem dX3_handAt_21 : decode cX3_handAt 21 = .ok (.ldc_w 388, 3) := by decide +kernel
theorem dX3_handAt_24 : decode cX3_handAt 24 = .ok (.invokespecial 239, 3) := by decide +kernel
theorem dX3_handAt_27 : decode cX3_handAt 27 = .ok (.athrow, 1) := by decide +kernel
theorem dX3_handAt_28 : decode cX3_handAt 28 = .ok (.aload_n 0, 1) := by decide +kernel
theorem dX3_handAt_29 : decode cX3_handAt 29 = .ok (.getfield 16, 3) := by decide +kernel
theorem dX3_handAt_32 : decode cX3_handAt 32 = .ok (.iload_n 1, 1) := by decide +kernel
theorem dX3_handAt_33 : decode cX3_handAt 33 = .ok (.invokevirtual 327, 3) := by decide +kernel
theorem dX3_handAt_36 : decode cX3_handAt 36 = .ok (.checkcast 65, 3) := by decide +kernel
theorem dX3_handAt_39 : decode cX3_handAt 39 = .ok (.areturn, 1) := by decide +kernel
theorem dX3_layerAt_0 : decode cX3_layerAt 0 = .ok (.iload_n 1, 1) := by decide +kernel
theorem dX3_layerAt_1 : decode cX3_layerAt 1 = .ok (.iconst 0, 1) := by decide +kernel
theorem dX3_layerAt_2 : decode cX3_layerAt 2 = .ok (.aload_n 0, 1) := by decide +kernel
theorem dX3_layerAt_3 : decode cX3_layerAt 3 = .ok (.getfield 19, 3) := by decide +kernel
theorem dX3_layerAt_6 : decode cX3_layerAt 6 = .ok (.invokevirtual 43, 3) := by decide +kernel
theorem dX3_layerAt_9 : decode cX3_layerAt 9 = .ok (.iconst 1, 1) := by decide +kernel
theorem dX3_layerAt_10 : decode cX3_layerAt 10 = .ok (.isub, 1) := by decide +kernel
theorem dX3_layerAt_11 : decode cX3_layerAt 11 = .ok (.invokestatic 32, 3) := by decide +kernel
theorem dX3_layerAt_14 : decode cX3_layerAt 14 = .ok (.ifCond .ne 14, 3) := by decide +kernel
theorem dX3_layerAt_17 : decode cX3_layerAt 17 = .ok (.new 235, 3) := by decide +kernel
theorem dX3_layerAt_20 : decode cX3_layerAt 20 = .ok (.dup, 1) := by decide +kernel
theorem dX3_layerAt_21 : decode cX3_layerAt 21 = .ok (.ldc_w 390, 3) := by decide +kernel
theorem dX3_layerAt_24 : decode cX3_layerAt 24 = .ok (.invokespecial 239, 3) := by decide +kernel
theorem dX3_layerAt_27 : decode cX3_layerAt 27 = .ok (.athrow, 1) := by decide +kernel
theorem dX3_layerAt_28 : decode cX3_layerAt 28 = .ok (.aload_n 0, 1) := by decide +kernel
theorem dX3_layerAt_29 : decode cX3_layerAt 29 = .ok (.getfield 19, 3) := by decide +kernel
theorem dX3_layerAt_32 : decode cX3_layerAt 32 = .ok (.iload_n 1, 1) := by decide +kernel
theorem dX3_layerAt_33 : decode cX3_layerAt 33 = .ok (.invokevirtual 327, 3) := by decide +kernel
theorem dX3_layerAt_36 : decode cX3_layerAt 36 = .ok (.checkcast 118, 3) := by decide +kernel
theorem dX3_layerAt_39 : decode cX3_layerAt 39 = .ok (.areturn, 1) := by decide +kernel
theorem dX3_isPermitted_0 : decode cX3_isPermitted 0 = .ok (.aload_n 2, 1) := by decide +kernel
theorem dX3_isPermitted_1 : decode cX3_isPermitted 1 = .ok (.aload_n 0, 1) := by decide +kernel
theorem dX3_isPermitted_2 : decode cX3_isPermitted 2 = .ok (.getfield 22, 3) := by decide +kernel
theorem dX3_isPermitted_5 : decode cX3_isPermitted 5 = .ok (.invokevirtual 74, 3) := by decide +kernel
theorem dX3_isPermitted_8 : decode cX3_isPermitted 8 = .ok (.aload_n 1, 1) := by decide +kernel
theorem dX3_isPermitted_9 : decode cX3_isPermitted 9 = .ok (.getfield 243, 3) := by decide +kernel
theorem dX3_isPermitted_12 : decode cX3_isPermitted 12 = .ok (.if_icmp .ne 7, 3) := by decide +kernel
theorem dX3_isPermitted_15 : decode cX3_isPermitted 15 = .ok (.iconst 1, 1) := by decide +kernel
theorem dX3_isPermitted_16 : decode cX3_isPermitted 16 = .ok (.goto 4, 3) := by decide +kernel
theorem dX3_isPermitted_19 : decode cX3_isPermitted 19 = .ok (.iconst 0, 1) := by decide +kernel
theorem dX3_isPermitted_20 : decode cX3_isPermitted 20 = .ok (.ireturn, 1) := by decide +kernel
theorem dX3_countWrongs_0 : decode cX3_countWrongs 0 = .ok (.iconst 0, 1) := by decide +kernel
theorem dX3_countWrongs_1 : decode cX3_countWrongs 1 = .ok (.istore 6, 2) := by decide +kernel
theorem dX3_countWrongs_3 : decode cX3_countWrongs 3 = .ok (.iload_n 3, 1) := by decide +kernel
theorem dX3_countWrongs_4 : decode cX3_countWrongs 4 = .ok (.istore 7, 2) := by decide +kernel
theorem dX3_countWrongs_6 : decode cX3_countWrongs 6 = .ok (.iload 7, 2) := by decide +kernel
theorem dX3_countWrongs_8 : decode cX3_countWrongs 8 = .ok (.iload_n 3, 1) := by decide +kernel
theorem dX3_countWrongs_9 : decode cX3_countWrongs 9 = .ok (.iload 4, 2) := by decide +kernel
theorem dX3_countWrongs_11 : decode cX3_countWrongs 11 = .ok (.iadd, 1) := by decide +kernel
theorem dX3_countWrongs_12 : decode cX3_countWrongs 12 = .ok (.if_icmp .ge 26, 3) := by decide +kernel
theorem dX3_countWrongs_15 : decode cX3_countWrongs 15 = .ok (.aload_n 0, 1) := by decide +kernel
theorem dX3_countWrongs_16 : decode cX3_countWrongs 16 = .ok (.aload_n 1, 1) := by decide +kernel
theorem dX3_countWrongs_17 : decode cX3_countWrongs 17 = .ok (.aload_n 2, 1) := by decide +kernel
theorem dX3_countWrongs_18 : decode cX3_countWrongs 18 = .ok (.iload_n 3, 1) := by decide +kernel
theorem dX3_countWrongs_19 : decode cX3_countWrongs 19 = .ok (.iload 7, 2) := by decide +kernel
theorem dX3_countWrongs_21 : decode cX3_countWrongs 21 = .ok (.iload 5, 2) := by decide +kernel
theorem dX3_countWrongs_23 : decode cX3_countWrongs 23 = .ok (.invokevirtual 392, 3) := by decide +kernel
theorem dX3_countWrongs_26 : decode cX3_countWrongs 26 = .ok (.ifnull 6, 3) := by decide +kernel
theorem dX3_countWrongs_29 : decode cX3_countWrongs 29 = .ok (.iinc 6 1, 3) := by decide +kernel
theorem dX3_countWrongs_32 : decode cX3_countWrongs 32 = .ok (.iinc 7 1, 3) := by decide +kernel
theorem dX3_countWrongs_35 : decode cX3_countWrongs 35 = .ok (.goto (-29), 3) := by decide +kernel
theorem dX3_countWrongs_38 : decode cX3_countWrongs 38 = .ok (.iload 6, 2) := by decide +kernel
theorem dX3_countWrongs_40 : decode cX3_countWrongs 40 = .ok (.ireturn, 1) := by decide +kernel
theorem dX3_doWrongs_0 : decode cX3_doWrongs 0 = .ok (.iconst 0, 1) := by decide +kernel
theorem dX3_doWrongs_1 : decode cX3_doWrongs 1 = .ok (.istore 6, 2) := by decide +kernel
theorem dX3_doWrongs_3 : decode cX3_doWrongs 3 = .ok (.iload_n 3, 1) := by decide +kernel
theorem dX3_doWrongs_4 : decode cX3_doWrongs 4 = .ok (.istore 7, 2) := by decide +kernel
theorem dX3_doWrongs_6 : decode cX3_doWrongs 6 = .ok (.iload 7, 2) := by decide +kernel
theorem dX3_doWrongs_8 : decode cX3_doWrongs 8 = .ok (.iload_n 3, 1) := by decide +kernel
theorem dX3_doWrongs_9 : decode cX3_doWrongs 9 = .ok (.iload 4, 2) := by decide +kernel
theorem dX3_doWrongs_11 : decode cX3_doWrongs 11 = .ok (.iadd, 1) := by decide +kernel
theorem dX3_doWrongs_12 : decode cX3_doWrongs 12 = .ok (.if_icmp .ge 44, 3) := by decide +kernel
theorem dX3_doWrongs_15 : decode cX3_doWrongs 15 = .ok (.aload_n 0, 1) := by decide +kernel
theorem dX3_doWrongs_16 : decode cX3_doWrongs 16 = .ok (.aload_n 1, 1) := by decide +kernel
theorem dX3_doWrongs_17 : decode cX3_doWrongs 17 = .ok (.aload_n 2, 1) := by decide +kernel
theorem dX3_doWrongs_18 : decode cX3_doWrongs 18 = .ok (.iload_n 3, 1) := by decide +kernel
theorem dX3_doWrongs_19 : decode cX3_doWrongs 19 = .ok (.iload 7, 2) := by decide +kernel
theorem dX3_doWrongs_21 : decode cX3_doWrongs 21 = .ok (.iload 5, 2) := by decide +kernel
theorem dX3_doWrongs_23 : decode cX3_doWrongs 23 = .ok (.invokevirtual 392, 3) := by decide +kernel
theorem dX3_doWrongs_26 : decode cX3_doWrongs 26 = .ok (.astore 8, 2) := by decide +kernel
theorem dX3_doWrongs_28 : decode cX3_doWrongs 28 = .ok (.aload 8, 2) := by decide +kernel
theorem dX3_doWrongs_30 : decode cX3_doWrongs 30 = .ok (.ifnull 20, 3) := by decide +kernel
theorem dX3_doWrongs_33 : decode cX3_doWrongs 33 = .ok (.aload_n 1, 1) := by decide +kernel
theorem dX3_doWrongs_34 : decode cX3_doWrongs 34 = .ok (.getfield 295, 3) := by decide +kernel
theorem dX3_doWrongs_37 : decode cX3_doWrongs 37 = .ok (.aload 8, 2) := by decide +kernel
theorem dX3_doWrongs_39 : decode cX3_doWrongs 39 = .ok (.getfield 270, 3) := by decide +kernel
theorem dX3_doWrongs_42 : decode cX3_doWrongs 42 = .ok (.dup2, 1) := by decide +kernel
theorem dX3_doWrongs_43 : decode cX3_doWrongs 43 = .ok (.iaload, 1) := by decide +kernel
theorem dX3_doWrongs_44 : decode cX3_doWrongs 44 = .ok (.iconst 1, 1) := by decide +kernel
theorem dX3_doWrongs_45 : decode cX3_doWrongs 45 = .ok (.iadd, 1) := by decide +kernel
theorem dX3_doWrongs_46 : decode cX3_doWrongs 46 = .ok (.iastore, 1) := by decide +kernel
theorem dX3_doWrongs_47 : decode cX3_doWrongs 47 = .ok (.iinc 6 1, 3) := by decide +kernel
theorem dX3_doWrongs_50 : decode cX3_doWrongs 50 = .ok (.iinc 7 1, 3) := by decide +kernel
theorem dX3_doWrongs_53 : decode cX3_doWrongs 53 = .ok (.goto (-47), 3) := by decide +kernel
theorem dX3_doWrongs_56 : decode cX3_doWrongs 56 = .ok (.iload 6, 2) := by decide +kernel
theorem dX3_doWrongs_58 : decode cX3_doWrongs 58 = .ok (.ireturn, 1) := by decide +kernel
theorem dX3_wrongedAt_0 : decode cX3_wrongedAt 0 = .ok (.aload_n 2, 1) := by decide +kernel
theorem dX3_wrongedAt_1 : decode cX3_wrongedAt 1 = .ok (.getfield 161, 3) := by decide +kernel
theorem dX3_wrongedAt_4 : decode cX3_wrongedAt 4 = .ok (.iload 4, 2) := by decide +kernel
theorem dX3_wrongedAt_6 : decode cX3_wrongedAt 6 = .ok (.aaload, 1) := by decide +kernel
theorem dX3_wrongedAt_7 : decode cX3_wrongedAt 7 = .ok (.astore 6, 2) := by decide +kernel
theorem dX3_wrongedAt_9 : decode cX3_wrongedAt 9 = .ok (.aload 6, 2) := by decide +kernel
theorem dX3_wrongedAt_11 : decode cX3_wrongedAt 11 = .ok (.ifnull 15, 3) := by decide +kernel
theorem dX3_wrongedAt_14 : decode cX3_wrongedAt 14 = .ok (.aload_n 2, 1) := by decide +kernel
theorem dX3_wrongedAt_15 : decode cX3_wrongedAt 15 = .ok (.aload 6, 2) := by decide +kernel
theorem dX3_wrongedAt_17 : decode cX3_wrongedAt 17 = .ok (.iload_n 3, 1) := by decide +kernel
theorem dX3_wrongedAt_18 : decode cX3_wrongedAt 18 = .ok (.iload 4, 2) := by decide +kernel
theorem dX3_wrongedAt_20 : decode cX3_wrongedAt 20 = .ok (.invokevirtual 396, 3) := by decide +kernel
theorem dX3_wrongedAt_23 : decode cX3_wrongedAt 23 = .ok (.ifCond .eq 5, 3) := by decide +kernel
theorem dX3_wrongedAt_26 : decode cX3_wrongedAt 26 = .ok (.aconst_null, 1) := by decide +kernel
theorem dX3_wrongedAt_27 : decode cX3_wrongedAt 27 = .ok (.areturn, 1) := by decide +kernel
theorem dX3_wrongedAt_28 : decode cX3_wrongedAt 28 = .ok (.aload_n 0, 1) := by decide +kernel
theorem dX3_wrongedAt_29 : decode cX3_wrongedAt 29 = .ok (.aload_n 1, 1) := by decide +kernel
theorem dX3_wrongedAt_30 : decode cX3_wrongedAt 30 = .ok (.aload_n 2, 1) := by decide +kernel
theorem dX3_wrongedAt_31 : decode cX3_wrongedAt 31 = .ok (.aload 6, 2) := by decide +kernel
theorem dX3_wrongedAt_33 : decode cX3_wrongedAt 33 = .ok (.iload 5, 2) := by decide +kernel
theorem dX3_wrongedAt_35 : decode cX3_wrongedAt 35 = .ok (.invokevirtual 400, 3) := by decide +kernel
theorem dX3_wrongedAt_38 : decode cX3_wrongedAt 38 = .ok (.ifCond .eq 11, 3) := by decide +kernel
theorem dX3_wrongedAt_41 : decode cX3_wrongedAt 41 = .ok (.aload 6, 2) := by decide +kernel
theorem dX3_wrongedAt_43 : decode cX3_wrongedAt 43 = .ok (.getfield 172, 3) := by decide +kernel
theorem dX3_wrongedAt_46 : decode cX3_wrongedAt 46 = .ok (.goto 4, 3) := by decide +kernel
theorem dX3_wrongedAt_49 : decode cX3_wrongedAt 49 = .ok (.aconst_null, 1) := by decide +kernel
theorem dX3_wrongedAt_50 : decode cX3_wrongedAt 50 = .ok (.areturn, 1) := by decide +kernel
theorem dX3_isWronged_0 : decode cX3_isWronged 0 = .ok (.aload_n 3, 1) := by decide +kernel
theorem dX3_isWronged_1 : decode cX3_isWronged 1 = .ok (.getfield 172, 3) := by decide +kernel
theorem dX3_isWronged_4 : decode cX3_isWronged 4 = .ok (.aload_n 1, 1) := by decide +kernel
theorem dX3_isWronged_5 : decode cX3_isWronged 5 = .ok (.if_acmp .ne 5, 3) := by decide +kernel
theorem dX3_isWronged_8 : decode cX3_isWronged 8 = .ok (.iconst 0, 1) := by decide +kernel
theorem dX3_isWronged_9 : decode cX3_isWronged 9 = .ok (.ireturn, 1) := by decide +kernel
theorem dX3_isWronged_10 : decode cX3_isWronged 10 = .ok (.aload_n 3, 1) := by decide +kernel
theorem dX3_isWronged_11 : decode cX3_isWronged 11 = .ok (.getfield 205, 3) := by decide +kernel
theorem dX3_isWronged_14 : decode cX3_isWronged 14 = .ok (.ifCond .eq 5, 3) := by decide +kernel
theorem dX3_isWronged_17 : decode cX3_isWronged 17 = .ok (.iconst 1, 1) := by decide +kernel
theorem dX3_isWronged_18 : decode cX3_isWronged 18 = .ok (.ireturn, 1) := by decide +kernel
theorem dX3_isWronged_19 : decode cX3_isWronged 19 = .ok (.aload_n 3, 1) := by decide +kernel
theorem dX3_isWronged_20 : decode cX3_isWronged 20 = .ok (.getfield 172, 3) := by decide +kernel
theorem dX3_isWronged_23 : decode cX3_isWronged 23 = .ok (.getfield 243, 3) := by decide +kernel
theorem dX3_isWronged_26 : decode cX3_isWronged 26 = .ok (.aload_n 1, 1) := by decide +kernel
theorem dX3_isWronged_27 : decode cX3_isWronged 27 = .ok (.getfield 243, 3) := by decide +kernel
theorem dX3_isWronged_30 : decode cX3_isWronged 30 = .ok (.if_icmp .eq 39, 3) := by decide +kernel
theorem dX3_isWronged_33 : decode cX3_isWronged 33 = .ok (.iload 4, 2) := by decide +kernel
theorem dX3_isWronged_35 : decode cX3_isWronged 35 = .ok (.aload_n 3, 1) := by decide +kernel
theorem dX3_isWronged_36 : decode cX3_isWronged 36 = .ok (.getfield 278, 3) := by decide +kernel
theorem dX3_isWronged_39 : decode cX3_isWronged 39 = .ok (.if_icmp .gt 30, 3) := by decide +kernel
theorem dX3_isWronged_42 : decode cX3_isWronged 42 = .ok (.aload_n 0, 1) := by decide +kernel
theorem dX3_isWronged_43 : decode cX3_isWronged 43 = .ok (.getfield 22, 3) := by decide +kernel
theorem dX3_isWronged_46 : decode cX3_isWronged 46 = .ok (.aload_n 3, 1) := by decide +kernel
theorem dX3_isWronged_47 : decode cX3_isWronged 47 = .ok (.getfield 123, 3) := by decide +kernel
theorem dX3_isWronged_50 : decode cX3_isWronged 50 = .ok (.isub, 1) := by decide +kernel
theorem dX3_isWronged_51 : decode cX3_isWronged 51 = .ok (.bipush 20, 2) := by decide +kernel
theorem dX3_isWronged_53 : decode cX3_isWronged 53 = .ok (.if_icmp .ge 16, 3) := by decide +kernel
theorem dX3_isWronged_56 : decode cX3_isWronged 56 = .ok (.aload_n 0, 1) := by decide +kernel
theorem dX3_isWronged_57 : decode cX3_isWronged 57 = .ok (.aload_n 1, 1) := by decide +kernel
theorem dX3_isWronged_58 : decode cX3_isWronged 58 = .ok (.aload_n 2, 1) := by decide +kernel
theorem dX3_isWronged_59 : decode cX3_isWronged 59 = .ok (.invokevirtual 126, 3) := by decide +kernel
theorem dX3_isWronged_62 : decode cX3_isWronged 62 = .ok (.ifCond .ne 7, 3) := by decide +kernel
theorem dX3_isWronged_65 : decode cX3_isWronged 65 = .ok (.iconst 1, 1) := by decide +kernel
theorem dX3_isWronged_66 : decode cX3_isWronged 66 = .ok (.goto 4, 3) := by decide +kernel
theorem dX3_isWronged_69 : decode cX3_isWronged 69 = .ok (.iconst 0, 1) := by decide +kernel
theorem dX3_isWronged_70 : decode cX3_isWronged 70 = .ok (.ireturn, 1) := by decide +kernel
theorem dX3_fameOf_0 : decode cX3_fameOf 0 = .ok (.iconst 0, 1) := by decide +kernel
theorem dX3_fameOf_1 : decode cX3_fameOf 1 = .ok (.istore_n 2, 1) := by decide +kernel
theorem dX3_fameOf_2 : decode cX3_fameOf 2 = .ok (.iconst 0, 1) := by decide +kernel
theorem dX3_fameOf_3 : decode cX3_fameOf 3 = .ok (.istore_n 3, 1) := by decide +kernel
theorem dX3_fameOf_4 : decode cX3_fameOf 4 = .ok (.iload_n 3, 1) := by decide +kernel
theorem dX3_fameOf_5 : decode cX3_fameOf 5 = .ok (.aload_n 0, 1) := by decide +kernel
theorem dX3_fameOf_6 : decode cX3_fameOf 6 = .ok (.getfield 10, 3) := by decide +kernel
theorem dX3_fameOf_9 : decode cX3_fameOf 9 = .ok (.invokevirtual 43, 3) := by decide +kernel
theorem dX3_fameOf_12 : decode cX3_fameOf 12 = .ok (.if_icmp .ge 27, 3) := by decide +kernel
theorem dX3_fameOf_15 : decode cX3_fameOf 15 = .ok (.iload_n 2, 1) := by decide +kernel
theorem dX3_fameOf_16 : decode cX3_fameOf 16 = .ok (.aload_n 0, 1) := by decide +kernel
theorem dX3_fameOf_17 : decode cX3_fameOf 17 = .ok (.getfield 10, 3) := by decide +kernel
theorem dX3_fameOf_20 : decode cX3_fameOf 20 = .ok (.iload_n 3, 1) := by decide +kernel
theorem dX3_fameOf_21 : decode cX3_fameOf 21 = .ok (.invokevirtual 327, 3) := by decide +kernel
theorem dX3_fameOf_24 : decode cX3_fameOf 24 = .ok (.checkcast 52, 3) := by decide +kernel
theorem dX3_fameOf_27 : decode cX3_fameOf 27 = .ok (.aload_n 1, 1) := by decide +kernel
theorem dX3_fameOf_28 : decode cX3_fameOf 28 = .ok (.invokevirtual 342, 3) := by decide +kernel
theorem dX3_fameOf_31 : decode cX3_fameOf 31 = .ok (.iadd, 1) := by decide +kernel
theorem dX3_fameOf_32 : decode cX3_fameOf 32 = .ok (.istore_n 2, 1) := by decide +kernel
theorem dX3_fameOf_33 : decode cX3_fameOf 33 = .ok (.iinc 3 1, 3) := by decide +kernel
theorem dX3_fameOf_36 : decode cX3_fameOf 36 = .ok (.goto (-32), 3) := by decide +kernel
theorem dX3_fameOf_39 : decode cX3_fameOf 39 = .ok (.iload_n 2, 1) := by decide +kernel
theorem dX3_fameOf_40 : decode cX3_fameOf 40 = .ok (.ireturn, 1) := by decide +kernel
theorem dX3_fameGain_0 : decode cX3_fameGain 0 = .ok (.iconst 0, 1) := by decide +kernel
theorem dX3_fameGain_1 : decode cX3_fameGain 1 = .ok (.istore 5, 2) := by decide +kernel
theorem dX3_fameGain_3 : decode cX3_fameGain 3 = .ok (.iload_n 2, 1) := by decide +kernel
theorem dX3_fameGain_4 : decode cX3_fameGain 4 = .ok (.istore 6, 2) := by decide +kernel
theorem dX3_fameGain_6 : decode cX3_fameGain 6 = .ok (.iload 6, 2) := by decide +kernel
theorem dX3_fameGain_8 : decode cX3_fameGain 8 = .ok (.iload_n 2, 1) := by decide +kernel
theorem dX3_fameGain_9 : decode cX3_fameGain 9 = .ok (.iload_n 3, 1) := by decide +kernel
theorem dX3_fameGain_10 : decode cX3_fameGain 10 = .ok (.iadd, 1) := by decide +kernel
theorem dX3_fameGain_11 : decode cX3_fameGain 11 = .ok (.if_icmp .ge 33, 3) := by decide +kernel
theorem dX3_fameGain_14 : decode cX3_fameGain 14 = .ok (.iload 5, 2) := by decide +kernel
theorem dX3_fameGain_16 : decode cX3_fameGain 16 = .ok (.aload_n 1, 1) := by decide +kernel
theorem dX3_fameGain_17 : decode cX3_fameGain 17 = .ok (.getfield 218, 3) := by decide +kernel
theorem dX3_fameGain_20 : decode cX3_fameGain 20 = .ok (.getstatic 404, 3) := by decide +kernel
theorem dX3_fameGain_23 : decode cX3_fameGain 23 = .ok (.iload 4, 2) := by decide +kernel
theorem dX3_fameGain_25 : decode cX3_fameGain 25 = .ok (.iaload, 1) := by decide +kernel
theorem dX3_fameGain_26 : decode cX3_fameGain 26 = .ok (.imul, 1) := by decide +kernel
theorem dX3_fameGain_27 : decode cX3_fameGain 27 = .ok (.aload_n 1, 1) := by decide +kernel
theorem dX3_fameGain_28 : decode cX3_fameGain 28 = .ok (.iload 6, 2) := by decide +kernel
theorem dX3_fameGain_30 : decode cX3_fameGain 30 = .ok (.aload_n 0, 1) := by decide +kernel
theorem dX3_fameGain_31 : decode cX3_fameGain 31 = .ok (.invokevirtual 407, 3) := by decide +kernel
theorem dX3_fameGain_34 : decode cX3_fameGain 34 = .ok (.isub, 1) := by decide +kernel
theorem dX3_fameGain_35 : decode cX3_fameGain 35 = .ok (.iadd, 1) := by decide +kernel
theorem dX3_fameGain_36 : decode cX3_fameGain 36 = .ok (.istore 5, 2) := by decide +kernel
theorem dX3_fameGain_38 : decode cX3_fameGain 38 = .ok (.iinc 6 1, 3) := by decide +kernel
theorem dX3_fameGain_41 : decode cX3_fameGain 41 = .ok (.goto (-35), 3) := by decide +kernel
theorem dX3_fameGain_44 : decode cX3_fameGain 44 = .ok (.iload 5, 2) := by decide +kernel
theorem dX3_fameGain_46 : decode cX3_fameGain 46 = .ok (.ireturn, 1) := by decide +kernel
theorem dX3_priceOf_0 : decode cX3_priceOf 0 = .ok (.aload_n 1, 1) := by decide +kernel
theorem dX3_priceOf_1 : decode cX3_priceOf 1 = .ok (.invokevirtual 169, 3) := by decide +kernel
theorem dX3_priceOf_4 : decode cX3_priceOf 4 = .ok (.aload_n 1, 1) := by decide +kernel
theorem dX3_priceOf_5 : decode cX3_priceOf 5 = .ok (.invokevirtual 281, 3) := by decide +kernel
theorem dX3_priceOf_8 : decode cX3_priceOf 8 = .ok (.imul, 1) := by decide +kernel
theorem dX3_priceOf_9 : decode cX3_priceOf 9 = .ok (.bipush 10, 2) := by decide +kernel
theorem dX3_priceOf_11 : decode cX3_priceOf 11 = .ok (.aload_n 0, 1) := by decide +kernel
theorem dX3_priceOf_12 : decode cX3_priceOf 12 = .ok (.aload_n 1, 1) := by decide +kernel
theorem dX3_priceOf_13 : decode cX3_priceOf 13 = .ok (.getfield 172, 3) := by decide +kernel
theorem dX3_priceOf_16 : decode cX3_priceOf 16 = .ok (.invokevirtual 249, 3) := by decide +kernel
theorem dX3_priceOf_19 : decode cX3_priceOf 19 = .ok (.bipush 10, 2) := by decide +kernel
theorem dX3_priceOf_21 : decode cX3_priceOf 21 = .ok (.idiv, 1) := by decide +kernel
theorem dX3_priceOf_22 : decode cX3_priceOf 22 = .ok (.iadd, 1) := by decide +kernel
theorem dX3_priceOf_23 : decode cX3_priceOf 23 = .ok (.imul, 1) := by decide +kernel
theorem dX3_priceOf_24 : decode cX3_priceOf 24 = .ok (.ireturn, 1) := by decide +kernel
theorem dX3_suspectOf_0 : decode cX3_suspectOf 0 = .ok (.iconst (-1), 1) := by decide +kernel
theorem dX3_suspectOf_1 : decode cX3_suspectOf 1 = .ok (.istore_n 2, 1) := by decide +kernel
theorem dX3_suspectOf_2 : decode cX3_suspectOf 2 = .ok (.iconst 0, 1) := by decide +kernel
theorem dX3_suspectOf_3 : decode cX3_suspectOf 3 = .ok (.istore_n 3, 1) := by decide +kernel
theorem dX3_suspectOf_4 : decode cX3_suspectOf 4 = .ok (.iconst 0, 1) := by decide +kernel
theorem dX3_suspectOf_5 : decode cX3_suspectOf 5 = .ok (.istore 4, 2) := by decide +kernel
theorem dX3_suspectOf_7 : decode cX3_suspectOf 7 = .ok (.iload 4, 2) := by decide +kernel
theorem dX3_suspectOf_9 : decode cX3_suspectOf 9 = .ok (.aload_n 0, 1) := by decide +kernel
theorem dX3_suspectOf_10 : decode cX3_suspectOf 10 = .ok (.getfield 16, 3) := by decide +kernel
theorem dX3_suspectOf_13 : decode cX3_suspectOf 13 = .ok (.invokevirtual 43, 3) := by decide +kernel
theorem dX3_suspectOf_16 : decode cX3_suspectOf 16 = .ok (.if_icmp .ge 77, 3) := by decide +kernel
theorem dX3_suspectOf_19 : decode cX3_suspectOf 19 = .ok (.aload_n 0, 1) := by decide +kernel
theorem dX3_suspectOf_20 : decode cX3_suspectOf 20 = .ok (.getfield 16, 3) := by decide +kernel
theorem dX3_suspectOf_23 : decode cX3_suspectOf 23 = .ok (.iload 4, 2) := by decide +kernel
theorem dX3_suspectOf_25 : decode cX3_suspectOf 25 = .ok (.invokevirtual 327, 3) := by decide +kernel
theorem dX3_suspectOf_28 : decode cX3_suspectOf 28 = .ok (.checkcast 65, 3) := by decide +kernel
theorem dX3_suspectOf_31 : decode cX3_suspectOf 31 = .ok (.astore 5, 2) := by decide +kernel
theorem dX3_suspectOf_33 : decode cX3_suspectOf 33 = .ok (.aload 5, 2) := by decide +kernel
theorem dX3_suspectOf_35 : decode cX3_suspectOf 35 = .ok (.getfield 411, 3) := by decide +kernel
theorem dX3_suspectOf_38 : decode cX3_suspectOf 38 = .ok (.aload_n 1, 1) := by decide +kernel
theorem dX3_suspectOf_39 : decode cX3_suspectOf 39 = .ok (.invokevirtual 284, 3) := by decide +kernel
theorem dX3_suspectOf_42 : decode cX3_suspectOf 42 = .ok (.isub, 1) := by decide +kernel
theorem dX3_suspectOf_43 : decode cX3_suspectOf 43 = .ok (.invokestatic 299, 3) := by decide +kernel
theorem dX3_suspectOf_46 : decode cX3_suspectOf 46 = .ok (.aload 5, 2) := by decide +kernel
theorem dX3_suspectOf_48 : decode cX3_suspectOf 48 = .ok (.getfield 414, 3) := by decide +kernel
theorem dX3_suspectOf_51 : decode cX3_suspectOf 51 = .ok (.aload_n 1, 1) := by decide +kernel
theorem dX3_suspectOf_52 : decode cX3_suspectOf 52 = .ok (.invokevirtual 287, 3) := by decide +kernel
theorem dX3_suspectOf_55 : decode cX3_suspectOf 55 = .ok (.isub, 1) := by decide +kernel
theorem dX3_suspectOf_56 : decode cX3_suspectOf 56 = .ok (.invokestatic 299, 3) := by decide +kernel
theorem dX3_suspectOf_59 : decode cX3_suspectOf 59 = .ok (.iadd, 1) := by decide +kernel
theorem dX3_suspectOf_60 : decode cX3_suspectOf 60 = .ok (.istore 6, 2) := by decide +kernel
theorem dX3_suspectOf_62 : decode cX3_suspectOf 62 = .ok (.aload 5, 2) := by decide +kernel
theorem dX3_suspectOf_64 : decode cX3_suspectOf 64 = .ok (.getfield 246, 3) := by decide +kernel
theorem dX3_suspectOf_67 : decode cX3_suspectOf 67 = .ok (.ifCond .eq 20, 3) := by decide +kernel
theorem dX3_suspectOf_70 : decode cX3_suspectOf 70 = .ok (.iload_n 2, 1) := by decide +kernel
theorem dX3_suspectOf_71 : decode cX3_suspectOf 71 = .ok (.iconst (-1), 1) := by decide +kernel
theorem dX3_suspectOf_72 : decode cX3_suspectOf 72 = .ok (.if_icmp .eq 9, 3) := by decide +kernel
theorem dX3_suspectOf_75 : decode cX3_suspectOf 75 = .ok (.iload 6, 2) := by decide +kernel
theorem dX3_suspectOf_77 : decode cX3_suspectOf 77 = .ok (.iload_n 3, 1) := by decide +kernel
theorem dX3_suspectOf_78 : decode cX3_suspectOf 78 = .ok (.if_icmp .ge 9, 3) := by decide +kernel
theorem dX3_suspectOf_81 : decode cX3_suspectOf 81 = .ok (.iload 4, 2) := by decide +kernel
theorem dX3_suspectOf_83 : decode cX3_suspectOf 83 = .ok (.istore_n 2, 1) := by decide +kernel
theorem dX3_suspectOf_84 : decode cX3_suspectOf 84 = .ok (.iload 6, 2) := by decide +kernel
theorem dX3_suspectOf_86 : decode cX3_suspectOf 86 = .ok (.istore_n 3, 1) := by decide +kernel
theorem dX3_suspectOf_87 : decode cX3_suspectOf 87 = .ok (.iinc 4 1, 3) := by decide +kernel
theorem dX3_suspectOf_90 : decode cX3_suspectOf 90 = .ok (.goto (-83), 3) := by decide +kernel
theorem dX3_suspectOf_93 : decode cX3_suspectOf 93 = .ok (.iload_n 2, 1) := by decide +kernel
theorem dX3_suspectOf_94 : decode cX3_suspectOf 94 = .ok (.ireturn, 1) := by decide +kernel
theorem dX3_isToBuff_0 : decode cX3_isToBuff 0 = .ok (.aload_n 1, 1) := by decide +kernel
theorem dX3_isToBuff_1 : decode cX3_isToBuff 1 = .ok (.getfield 161, 3) := by decide +kernel
theorem dX3_isToBuff_4 : decode cX3_isToBuff 4 = .ok (.iload_n 2, 1) := by decide +kernel
theorem dX3_isToBuff_5 : decode cX3_isToBuff 5 = .ok (.aaload, 1) := by decide +kernel
theorem dX3_isToBuff_6 : decode cX3_isToBuff 6 = .ok (.astore_n 3, 1) := by decide +kernel
theorem dX3_isToBuff_7 : decode cX3_isToBuff 7 = .ok (.aload_n 3, 1) := by decide +kernel
theorem dX3_isToBuff_8 : decode cX3_isToBuff 8 = .ok (.ifnull 26, 3) := by decide +kernel
theorem dX3_isToBuff_11 : decode cX3_isToBuff 11 = .ok (.aload_n 3, 1) := by decide +kernel
theorem dX3_isToBuff_12 : decode cX3_isToBuff 12 = .ok (.getfield 130, 3) := by decide +kernel
theorem dX3_isToBuff_15 : decode cX3_isToBuff 15 = .ok (.ifCond .eq 15, 3) := by decide +kernel
theorem dX3_isToBuff_18 : decode cX3_isToBuff 18 = .ok (.aload_n 0, 1) := by decide +kernel
theorem dX3_isToBuff_19 : decode cX3_isToBuff 19 = .ok (.aload_n 3, 1) := by decide +kernel
theorem dX3_isToBuff_20 : decode cX3_isToBuff 20 = .ok (.getfield 172, 3) := by decide +kernel
theorem dX3_isToBuff_23 : decode cX3_isToBuff 23 = .ok (.aload_n 1, 1) := by decide +kernel
theorem dX3_isToBuff_24 : decode cX3_isToBuff 24 = .ok (.invokevirtual 126, 3) := by decide +kernel
theorem dX3_isToBuff_27 : decode cX3_isToBuff 27 = .ok (.ifCond .ne 7, 3) := by decide +kernel
theorem dX3_isToBuff_30 : decode cX3_isToBuff 30 = .ok (.iconst 1, 1) := by decide +kernel
theorem dX3_isToBuff_31 : decode cX3_isToBuff 31 = .ok (.goto 4, 3) := by decide +kernel
theorem dX3_isToBuff_34 : decode cX3_isToBuff 34 = .ok (.iconst 0, 1) := by decide +kernel
theorem dX3_isToBuff_35 : decode cX3_isToBuff 35 = .ok (.ireturn, 1) := by decide +kernel
theorem dX3_cellsToBuff_0 : decode cX3_cellsToBuff 0 = .ok (.iconst 0, 1) := by decide +kernel
theorem dX3_cellsToBuff_1 : decode cX3_cellsToBuff 1 = .ok (.istore_n 2, 1) := by decide +kernel
theorem dX3_cellsToBuff_2 : decode cX3_cellsToBuff 2 = .ok (.iconst 0, 1) := by decide +kernel
theorem dX3_cellsToBuff_3 : decode cX3_cellsToBuff 3 = .ok (.istore_n 3, 1) := by decide +kernel
theorem dX3_cellsToBuff_4 : decode cX3_cellsToBuff 4 = .ok (.iload_n 3, 1) := by decide +kernel
theorem dX3_cellsToBuff_5 : decode cX3_cellsToBuff 5 = .ok (.aload_n 1, 1) := by decide +kernel
theorem dX3_cellsToBuff_6 : decode cX3_cellsToBuff 6 = .ok (.getfield 154, 3) := by decide +kernel
theorem dX3_cellsToBuff_9 : decode cX3_cellsToBuff 9 = .ok (.if_icmp .ge 21, 3) := by decide +kernel
theorem dX3_cellsToBuff_12 : decode cX3_cellsToBuff 12 = .ok (.aload_n 0, 1) := by decide +kernel
theorem dX3_cellsToBuff_13 : decode cX3_cellsToBuff 13 = .ok (.aload_n 1, 1) := by decide +kernel
theorem dX3_cellsToBuff_14 : decode cX3_cellsToBuff 14 = .ok (.iload_n 3, 1) := by decide +kernel
theorem dX3_cellsToBuff_15 : decode cX3_cellsToBuff 15 = .ok (.invokevirtual 157, 3) := by decide +kernel
theorem dX3_cellsToBuff_18 : decode cX3_cellsToBuff 18 = .ok (.ifCond .eq 6, 3) := by decide +kernel
theorem dX3_cellsToBuff_21 : decode cX3_cellsToBuff 21 = .ok (.iinc 2 1, 3) := by decide +kernel
theorem dX3_cellsToBuff_24 : decode cX3_cellsToBuff 24 = .ok (.iinc 3 1, 3) := by decide +kernel
theorem dX3_cellsToBuff_27 : decode cX3_cellsToBuff 27 = .ok (.goto (-23), 3) := by decide +kernel
theorem dX3_cellsToBuff_30 : decode cX3_cellsToBuff 30 = .ok (.iload_n 2, 1) := by decide +kernel
theorem dX3_cellsToBuff_31 : decode cX3_cellsToBuff 31 = .ok (.ireturn, 1) := by decide +kernel
theorem dX3_eyesoreOf_0 : decode cX3_eyesoreOf 0 = .ok (.aload_n 1, 1) := by decide +kernel
theorem dX3_eyesoreOf_1 : decode cX3_eyesoreOf 1 = .ok (.getfield 218, 3) := by decide +kernel
theorem dX3_eyesoreOf_4 : decode cX3_eyesoreOf 4 = .ok (.aload_n 0, 1) := by decide +kernel
theorem dX3_eyesoreOf_5 : decode cX3_eyesoreOf 5 = .ok (.aload_n 1, 1) := by decide +kernel
theorem dX3_eyesoreOf_6 : decode cX3_eyesoreOf 6 = .ok (.invokevirtual 148, 3) := by decide +kernel
theorem dX3_eyesoreOf_9 : decode cX3_eyesoreOf 9 = .ok (.imul, 1) := by decide +kernel
theorem dX3_eyesoreOf_10 : decode cX3_eyesoreOf 10 = .ok (.ireturn, 1) := by decide +kernel
theorem dX3_goOneNightOn_0 : decode cX3_goOneNightOn 0 = .ok (.aload_n 0, 1) := by decide +kernel
theorem dX3_goOneNightOn_1 : decode cX3_goOneNightOn 1 = .ok (.dup, 1) := by decide +kernel
theorem dX3_goOneNightOn_2 : decode cX3_goOneNightOn 2 = .ok (.getfield 22, 3) := by decide +kernel
theorem dX3_goOneNightOn_5 : decode cX3_goOneNightOn 5 = .ok (.iconst 1, 1) := by decide +kernel
theorem dX3_goOneNightOn_6 : decode cX3_goOneNightOn 6 = .ok (.iadd, 1) := by decide +kernel
theorem dX3_goOneNightOn_7 : decode cX3_goOneNightOn 7 = .ok (.putfield 22, 3) := by decide +kernel
theorem dX3_goOneNightOn_10 : decode cX3_goOneNightOn 10 = .ok (.aload_n 0, 1) := by decide +kernel
theorem dX3_goOneNightOn_11 : decode cX3_goOneNightOn 11 = .ok (.dup, 1) := by decide +kernel
theorem dX3_goOneNightOn_12 : decode cX3_goOneNightOn 12 = .ok (.getfield 26, 3) := by decide +kernel
theorem dX3_goOneNightOn_15 : decode cX3_goOneNightOn 15 = .ok (.iconst 5, 1) := by decide +kernel
theorem dX3_goOneNightOn_16 : decode cX3_goOneNightOn 16 = .ok (.iadd, 1) := by decide +kernel
theorem dX3_goOneNightOn_17 : decode cX3_goOneNightOn 17 = .ok (.putfield 26, 3) := by decide +kernel
theorem dX3_goOneNightOn_20 : decode cX3_goOneNightOn 20 = .ok (.iconst 0, 1) := by decide +kernel
theorem dX3_goOneNightOn_21 : decode cX3_goOneNightOn 21 = .ok (.istore_n 1, 1) := by decide +kernel
theorem dX3_goOneNightOn_22 : decode cX3_goOneNightOn 22 = .ok (.iload_n 1, 1) := by decide +kernel
theorem dX3_goOneNightOn_23 : decode cX3_goOneNightOn 23 = .ok (.aload_n 0, 1) := by decide +kernel
theorem dX3_goOneNightOn_24 : decode cX3_goOneNightOn 24 = .ok (.getfield 16, 3) := by decide +kernel
theorem dX3_goOneNightOn_27 : decode cX3_goOneNightOn 27 = .ok (.invokevirtual 43, 3) := by decide +kernel
theorem dX3_goOneNightOn_30 : decode cX3_goOneNightOn 30 = .ok (.if_icmp .ge 24, 3) := by decide +kernel
theorem dX3_goOneNightOn_33 : decode cX3_goOneNightOn 33 = .ok (.aload_n 0, 1) := by decide +kernel
theorem dX3_goOneNightOn_34 : decode cX3_goOneNightOn 34 = .ok (.getfield 16, 3) := by decide +kernel
theorem dX3_goOneNightOn_37 : decode cX3_goOneNightOn 37 = .ok (.iload_n 1, 1) := by decide +kernel
theorem dX3_goOneNightOn_38 : decode cX3_goOneNightOn 38 = .ok (.invokevirtual 327, 3) := by decide +kernel
theorem dX3_goOneNightOn_41 : decode cX3_goOneNightOn 41 = .ok (.checkcast 65, 3) := by decide +kernel
theorem dX3_goOneNightOn_44 : decode cX3_goOneNightOn 44 = .ok (.iconst 0, 1) := by decide +kernel
theorem dX3_goOneNightOn_45 : decode cX3_goOneNightOn 45 = .ok (.putfield 134, 3) := by decide +kernel
theorem dX3_goOneNightOn_48 : decode cX3_goOneNightOn 48 = .ok (.iinc 1 1, 3) := by decide +kernel
theorem dX3_goOneNightOn_51 : decode cX3_goOneNightOn 51 = .ok (.goto (-29), 3) := by decide +kernel
theorem dX3_goOneNightOn_54 : decode cX3_goOneNightOn 54 = .ok (.iconst 0, 1) := by decide +kernel
theorem dX3_goOneNightOn_55 : decode cX3_goOneNightOn 55 = .ok (.istore_n 1, 1) := by decide +kernel
theorem dX3_goOneNightOn_56 : decode cX3_goOneNightOn 56 = .ok (.iconst 0, 1) := by decide +kernel
theorem dX3_goOneNightOn_57 : decode cX3_goOneNightOn 57 = .ok (.istore_n 2, 1) := by decide +kernel
theorem dX3_goOneNightOn_58 : decode cX3_goOneNightOn 58 = .ok (.iload_n 2, 1) := by decide +kernel
theorem dX3_goOneNightOn_59 : decode cX3_goOneNightOn 59 = .ok (.aload_n 0, 1) := by decide +kernel
theorem dX3_goOneNightOn_60 : decode cX3_goOneNightOn 60 = .ok (.getfield 10, 3) := by decide +kernel
theorem dX3_goOneNightOn_63 : decode cX3_goOneNightOn 63 = .ok (.invokevirtual 43, 3) := by decide +kernel
theorem dX3_goOneNightOn_66 : decode cX3_goOneNightOn 66 = .ok (.if_icmp .ge 43, 3) := by decide +kernel
theorem dX3_goOneNightOn_69 : decode cX3_goOneNightOn 69 = .ok (.aload_n 0, 1) := by decide +kernel
theorem dX3_goOneNightOn_70 : decode cX3_goOneNightOn 70 = .ok (.getfield 10, 3) := by decide +kernel
theorem dX3_goOneNightOn_73 : decode cX3_goOneNightOn 73 = .ok (.iload_n 2, 1) := by decide +kernel
theorem dX3_goOneNightOn_74 : decode cX3_goOneNightOn 74 = .ok (.invokevirtual 327, 3) := by decide +kernel
theorem dX3_goOneNightOn_77 : decode cX3_goOneNightOn 77 = .ok (.checkcast 52, 3) := by decide +kernel
theorem dX3_goOneNightOn_80 : decode cX3_goOneNightOn 80 = .ok (.astore_n 3, 1) := by decide +kernel
theorem dX3_goOneNightOn_81 : decode cX3_goOneNightOn 81 = .ok (.aload_n 3, 1) := by decide +kernel
theorem dX3_goOneNightOn_82 : decode cX3_goOneNightOn 82 = .ok (.aload_n 0, 1) := by decide +kernel
theorem dX3_goOneNightOn_83 : decode cX3_goOneNightOn 83 = .ok (.getfield 22, 3) := by decide +kernel
theorem dX3_goOneNightOn_86 : decode cX3_goOneNightOn 86 = .ok (.invokevirtual 417, 3) := by decide +kernel
theorem dX3_goOneNightOn_89 : decode cX3_goOneNightOn 89 = .ok (.ifCond .eq 14, 3) := by decide +kernel
theorem dX3_goOneNightOn_92 : decode cX3_goOneNightOn 92 = .ok (.iload_n 1, 1) := by decide +kernel
theorem dX3_goOneNightOn_93 : decode cX3_goOneNightOn 93 = .ok (.aload_n 3, 1) := by decide +kernel
theorem dX3_goOneNightOn_94 : decode cX3_goOneNightOn 94 = .ok (.invokevirtual 224, 3) := by decide +kernel
theorem dX3_goOneNightOn_97 : decode cX3_goOneNightOn 97 = .ok (.iadd, 1) := by decide +kernel
theorem dX3_goOneNightOn_98 : decode cX3_goOneNightOn 98 = .ok (.istore_n 1, 1) := by decide +kernel
theorem dX3_goOneNightOn_99 : decode cX3_goOneNightOn 99 = .ok (.aload_n 3, 1) := by decide +kernel
theorem dX3_goOneNightOn_100 : decode cX3_goOneNightOn 100 = .ok (.invokevirtual 179, 3) := by decide +kernel
theorem dX3_goOneNightOn_103 : decode cX3_goOneNightOn 103 = .ok (.iinc 2 1, 3) := by decide +kernel
theorem dX3_goOneNightOn_106 : decode cX3_goOneNightOn 106 = .ok (.goto (-48), 3) := by decide +kernel
theorem dX3_goOneNightOn_109 : decode cX3_goOneNightOn 109 = .ok (.iload_n 1, 1) := by decide +kernel
theorem dX3_goOneNightOn_110 : decode cX3_goOneNightOn 110 = .ok (.ireturn, 1) := by decide +kernel
theorem dX3_willBeCleaned_0 : decode cX3_willBeCleaned 0 = .ok (.iconst 1, 1) := by decide +kernel
theorem dX3_willBeCleaned_1 : decode cX3_willBeCleaned 1 = .ok (.istore_n 3, 1) := by decide +kernel
theorem dX3_willBeCleaned_2 : decode cX3_willBeCleaned 2 = .ok (.iload_n 3, 1) := by decide +kernel
theorem dX3_willBeCleaned_3 : decode cX3_willBeCleaned 3 = .ok (.iload_n 2, 1) := by decide +kernel
theorem dX3_willBeCleaned_4 : decode cX3_willBeCleaned 4 = .ok (.if_icmp .gt 24, 3) := by decide +kernel
theorem dX3_willBeCleaned_7 : decode cX3_willBeCleaned 7 = .ok (.aload_n 1, 1) := by decide +kernel
theorem dX3_willBeCleaned_8 : decode cX3_willBeCleaned 8 = .ok (.aload_n 0, 1) := by decide +kernel
theorem dX3_willBeCleaned_9 : decode cX3_willBeCleaned 9 = .ok (.getfield 22, 3) := by decide +kernel
theorem dX3_willBeCleaned_12 : decode cX3_willBeCleaned 12 = .ok (.iload_n 3, 1) := by decide +kernel
theorem dX3_willBeCleaned_13 : decode cX3_willBeCleaned 13 = .ok (.iadd, 1) := by decide +kernel
theorem dX3_willBeCleaned_14 : decode cX3_willBeCleaned 14 = .ok (.invokevirtual 417, 3) := by decide +kernel
theorem dX3_willBeCleaned_17 : decode cX3_willBeCleaned 17 = .ok (.ifCond .eq 5, 3) := by decide +kernel
theorem dX3_willBeCleaned_20 : decode cX3_willBeCleaned 20 = .ok (.iconst 1, 1) := by decide +kernel
theorem dX3_willBeCleaned_21 : decode cX3_willBeCleaned 21 = .ok (.ireturn, 1) := by decide +kernel
theorem dX3_willBeCleaned_22 : decode cX3_willBeCleaned 22 = .ok (.iinc 3 1, 3) := by decide +kernel
theorem dX3_willBeCleaned_25 : decode cX3_willBeCleaned 25 = .ok (.goto (-23), 3) := by decide +kernel
theorem dX3_willBeCleaned_28 : decode cX3_willBeCleaned 28 = .ok (.iconst 0, 1) := by decide +kernel
theorem dX3_willBeCleaned_29 : decode cX3_willBeCleaned 29 = .ok (.ireturn, 1) := by decide +kernel
theorem dX3_layersSeenOn_0 : decode cX3_layersSeenOn 0 = .ok (.iconst 0, 1) := by decide +kernel
theorem dX3_layersSeenOn_1 : decode cX3_layersSeenOn 1 = .ok (.istore_n 2, 1) := by decide +kernel
theorem dX3_layersSeenOn_2 : decode cX3_layersSeenOn 2 = .ok (.iconst 0, 1) := by decide +kernel
theorem dX3_layersSeenOn_3 : decode cX3_layersSeenOn 3 = .ok (.istore_n 3, 1) := by decide +kernel
theorem dX3_layersSeenOn_4 : decode cX3_layersSeenOn 4 = .ok (.iload_n 3, 1) := by decide +kernel
theorem dX3_layersSeenOn_5 : decode cX3_layersSeenOn 5 = .ok (.aload_n 0, 1) := by decide +kernel
theorem dX3_layersSeenOn_6 : decode cX3_layersSeenOn 6 = .ok (.getfield 19, 3) := by decide +kernel
theorem dX3_layersSeenOn_9 : decode cX3_layersSeenOn 9 = .ok (.invokevirtual 43, 3) := by decide +kernel
theorem dX3_layersSeenOn_12 : decode cX3_layersSeenOn 12 = .ok (.if_icmp .ge 42, 3) := by decide +kernel
theorem dX3_layersSeenOn_15 : decode cX3_layersSeenOn 15 = .ok (.aload_n 0, 1) := by decide +kernel
theorem dX3_layersSeenOn_16 : decode cX3_layersSeenOn 16 = .ok (.getfield 19, 3) := by decide +kernel
theorem dX3_layersSeenOn_19 : decode cX3_layersSeenOn 19 = .ok (.iload_n 3, 1) := by decide +kernel
theorem dX3_layersSeenOn_20 : decode cX3_layersSeenOn 20 = .ok (.invokevirtual 327, 3) := by decide +kernel
theorem dX3_layersSeenOn_23 : decode cX3_layersSeenOn 23 = .ok (.checkcast 118, 3) := by decide +kernel
theorem dX3_layersSeenOn_26 : decode cX3_layersSeenOn 26 = .ok (.astore 4, 2) := by decide +kernel
theorem dX3_layersSeenOn_28 : decode cX3_layersSeenOn 28 = .ok (.aload 4, 2) := by decide +kernel
theorem dX3_layersSeenOn_30 : decode cX3_layersSeenOn 30 = .ok (.getfield 195, 3) := by decide +kernel
theorem dX3_layersSeenOn_33 : decode cX3_layersSeenOn 33 = .ok (.aload_n 1, 1) := by decide +kernel
theorem dX3_layersSeenOn_34 : decode cX3_layersSeenOn 34 = .ok (.if_acmp .ne 14, 3) := by decide +kernel
theorem dX3_layersSeenOn_37 : decode cX3_layersSeenOn 37 = .ok (.aload 4, 2) := by decide +kernel
theorem dX3_layersSeenOn_39 : decode cX3_layersSeenOn 39 = .ok (.invokevirtual 186, 3) := by decide +kernel
theorem dX3_layersSeenOn_42 : decode cX3_layersSeenOn 42 = .ok (.ifCond .eq 6, 3) := by decide +kernel
theorem dX3_layersSeenOn_45 : decode cX3_layersSeenOn 45 = .ok (.iinc 2 1, 3) := by decide +kernel
theorem dX3_layersSeenOn_48 : decode cX3_layersSeenOn 48 = .ok (.iinc 3 1, 3) := by decide +kernel
theorem dX3_layersSeenOn_51 : decode cX3_layersSeenOn 51 = .ok (.goto (-47), 3) := by decide +kernel
theorem dX3_layersSeenOn_54 : decode cX3_layersSeenOn 54 = .ok (.iload_n 2, 1) := by decide +kernel
theorem dX3_layersSeenOn_55 : decode cX3_layersSeenOn 55 = .ok (.ireturn, 1) := by decide +kernel
theorem dX3_layersOf_0 : decode cX3_layersOf 0 = .ok (.iconst 0, 1) := by decide +kernel
theorem dX3_layersOf_1 : decode cX3_layersOf 1 = .ok (.istore_n 2, 1) := by decide +kernel
theorem dX3_layersOf_2 : decode cX3_layersOf 2 = .ok (.iconst 0, 1) := by decide +kernel
theorem dX3_layersOf_3 : decode cX3_layersOf 3 = .ok (.istore_n 3, 1) := by decide +kernel
theorem dX3_layersOf_4 : decode cX3_layersOf 4 = .ok (.iload_n 3, 1) := by decide +kernel
theorem dX3_layersOf_5 : decode cX3_layersOf 5 = .ok (.aload_n 0, 1) := by decide +kernel
theorem dX3_layersOf_6 : decode cX3_layersOf 6 = .ok (.getfield 19, 3) := by decide +kernel
theorem dX3_layersOf_9 : decode cX3_layersOf 9 = .ok (.invokevirtual 43, 3) := by decide +kernel
theorem dX3_layersOf_12 : decode cX3_layersOf 12 = .ok (.if_icmp .ge 30, 3) := by decide +kernel
theorem dX3_layersOf_15 : decode cX3_layersOf 15 = .ok (.aload_n 0, 1) := by decide +kernel
theorem dX3_layersOf_16 : decode cX3_layersOf 16 = .ok (.getfield 19, 3) := by decide +kernel
theorem dX3_layersOf_19 : decode cX3_layersOf 19 = .ok (.iload_n 3, 1) := by decide +kernel
theorem dX3_layersOf_20 : decode cX3_layersOf 20 = .ok (.invokevirtual 327, 3) := by decide +kernel
theorem dX3_layersOf_23 : decode cX3_layersOf 23 = .ok (.checkcast 118, 3) := by decide +kernel
theorem dX3_layersOf_26 : decode cX3_layersOf 26 = .ok (.getfield 172, 3) := by decide +kernel
theorem dX3_layersOf_29 : decode cX3_layersOf 29 = .ok (.aload_n 1, 1) := by decide +kernel
theorem dX3_layersOf_30 : decode cX3_layersOf 30 = .ok (.if_acmp .ne 6, 3) := by decide +kernel
theorem dX3_layersOf_33 : decode cX3_layersOf 33 = .ok (.iinc 2 1, 3) := by decide +kernel
theorem dX3_layersOf_36 : decode cX3_layersOf 36 = .ok (.iinc 3 1, 3) := by decide +kernel
theorem dX3_layersOf_39 : decode cX3_layersOf 39 = .ok (.goto (-35), 3) := by decide +kernel
theorem dX3_layersOf_42 : decode cX3_layersOf 42 = .ok (.iload_n 2, 1) := by decide +kernel
theorem dX3_layersOf_43 : decode cX3_layersOf 43 = .ok (.ireturn, 1) := by decide +kernel
theorem dX3_layersSeenOf_0 : decode cX3_layersSeenOf 0 = .ok (.iconst 0, 1) := by decide +kernel
theorem dX3_layersSeenOf_1 : decode cX3_layersSeenOf 1 = .ok (.istore_n 2, 1) := by decide +kernel
theorem dX3_layersSeenOf_2 : decode cX3_layersSeenOf 2 = .ok (.iconst 0, 1) := by decide +kernel
theorem dX3_layersSeenOf_3 : decode cX3_layersSeenOf 3 = .ok (.istore_n 3, 1) := by decide +kernel
theorem dX3_layersSeenOf_4 : decode cX3_layersSeenOf 4 = .ok (.iload_n 3, 1) := by decide +kernel
theorem dX3_layersSeenOf_5 : decode cX3_layersSeenOf 5 = .ok (.aload_n 0, 1) := by decide +kernel
theorem dX3_layersSeenOf_6 : decode cX3_layersSeenOf 6 = .ok (.getfield 19, 3) := by decide +kernel
theorem dX3_layersSeenOf_9 : decode cX3_layersSeenOf 9 = .ok (.invokevirtual 43, 3) := by decide +kernel
theorem dX3_layersSeenOf_12 : decode cX3_layersSeenOf 12 = .ok (.if_icmp .ge 42, 3) := by decide +kernel
theorem dX3_layersSeenOf_15 : decode cX3_layersSeenOf 15 = .ok (.aload_n 0, 1) := by decide +kernel
theorem dX3_layersSeenOf_16 : decode cX3_layersSeenOf 16 = .ok (.getfield 19, 3) := by decide +kernel
theorem dX3_layersSeenOf_19 : decode cX3_layersSeenOf 19 = .ok (.iload_n 3, 1) := by decide +kernel
theorem dX3_layersSeenOf_20 : decode cX3_layersSeenOf 20 = .ok (.invokevirtual 327, 3) := by decide +kernel
theorem dX3_layersSeenOf_23 : decode cX3_layersSeenOf 23 = .ok (.checkcast 118, 3) := by decide +kernel
theorem dX3_layersSeenOf_26 : decode cX3_layersSeenOf 26 = .ok (.astore 4, 2) := by decide +kernel
theorem dX3_layersSeenOf_28 : decode cX3_layersSeenOf 28 = .ok (.aload 4, 2) := by decide +kernel
theorem dX3_layersSeenOf_30 : decode cX3_layersSeenOf 30 = .ok (.getfield 172, 3) := by decide +kernel
theorem dX3_layersSeenOf_33 : decode cX3_layersSeenOf 33 = .ok (.aload_n 1, 1) := by decide +kernel
theorem dX3_layersSeenOf_34 : decode cX3_layersSeenOf 34 = .ok (.if_acmp .ne 14, 3) := by decide +kernel
theorem dX3_layersSeenOf_37 : decode cX3_layersSeenOf 37 = .ok (.aload 4, 2) := by decide +kernel
theorem dX3_layersSeenOf_39 : decode cX3_layersSeenOf 39 = .ok (.invokevirtual 186, 3) := by decide +kernel
theorem dX3_layersSeenOf_42 : decode cX3_layersSeenOf 42 = .ok (.ifCond .eq 6, 3) := by decide +kernel
theorem dX3_layersSeenOf_45 : decode cX3_layersSeenOf 45 = .ok (.iinc 2 1, 3) := by decide +kernel
theorem dX3_layersSeenOf_48 : decode cX3_layersSeenOf 48 = .ok (.iinc 3 1, 3) := by decide +kernel
theorem dX3_layersSeenOf_51 : decode cX3_layersSeenOf 51 = .ok (.goto (-47), 3) := by decide +kernel
theorem dX3_layersSeenOf_54 : decode cX3_layersSeenOf 54 = .ok (.iload_n 2, 1) := by decide +kernel
theorem dX3_layersSeenOf_55 : decode cX3_layersSeenOf 55 = .ok (.ireturn, 1) := by decide +kernel
theorem dX3_layersSeen_0 : decode cX3_layersSeen 0 = .ok (.iconst 0, 1) := by decide +kernel
theorem dX3_layersSeen_1 : decode cX3_layersSeen 1 = .ok (.istore_n 1, 1) := by decide +kernel
theorem dX3_layersSeen_2 : decode cX3_layersSeen 2 = .ok (.iconst 0, 1) := by decide +kernel
theorem dX3_layersSeen_3 : decode cX3_layersSeen 3 = .ok (.istore_n 2, 1) := by decide +kernel
theorem dX3_layersSeen_4 : decode cX3_layersSeen 4 = .ok (.iload_n 2, 1) := by decide +kernel
theorem dX3_layersSeen_5 : decode cX3_layersSeen 5 = .ok (.aload_n 0, 1) := by decide +kernel
theorem dX3_layersSeen_6 : decode cX3_layersSeen 6 = .ok (.getfield 19, 3) := by decide +kernel
theorem dX3_layersSeen_9 : decode cX3_layersSeen 9 = .ok (.invokevirtual 43, 3) := by decide +kernel
theorem dX3_layersSeen_12 : decode cX3_layersSeen 12 = .ok (.if_icmp .ge 29, 3) := by decide +kernel
theorem dX3_layersSeen_15 : decode cX3_layersSeen 15 = .ok (.aload_n 0, 1) := by decide +kernel
theorem dX3_layersSeen_16 : decode cX3_layersSeen 16 = .ok (.getfield 19, 3) := by decide +kernel
theorem dX3_layersSeen_19 : decode cX3_layersSeen 19 = .ok (.iload_n 2, 1) := by decide +kernel
theorem dX3_layersSeen_20 : decode cX3_layersSeen 20 = .ok (.invokevirtual 327, 3) := by decide +kernel
theorem dX3_layersSeen_23 : decode cX3_layersSeen 23 = .ok (.checkcast 118, 3) := by decide +kernel
theorem dX3_layersSeen_26 : decode cX3_layersSeen 26 = .ok (.invokevirtual 186, 3) := by decide +kernel
theorem dX3_layersSeen_29 : decode cX3_layersSeen 29 = .ok (.ifCond .eq 6, 3) := by decide +kernel
theorem dX3_layersSeen_32 : decode cX3_layersSeen 32 = .ok (.iinc 1 1, 3) := by decide +kernel
theorem dX3_layersSeen_35 : decode cX3_layersSeen 35 = .ok (.iinc 2 1, 3) := by decide +kernel
theorem dX3_layersSeen_38 : decode cX3_layersSeen 38 = .ok (.goto (-34), 3) := by decide +kernel
theorem dX3_layersSeen_41 : decode cX3_layersSeen 41 = .ok (.iload_n 1, 1) := by decide +kernel
theorem dX3_layersSeen_42 : decode cX3_layersSeen 42 = .ok (.ireturn, 1) := by decide +kernel
theorem dX3_layersWithWrongSuspect_0 : decode cX3_layersWithWrongSuspect 0 = .ok (.iconst 0, 1) := by decide +kernel
theorem dX3_layersWithWrongSuspect_1 : decode cX3_layersWithWrongSuspect 1 = .ok (.istore_n 1, 1) := by decide +kernel
theorem dX3_layersWithWrongSuspect_2 : decode cX3_layersWithWrongSuspect 2 = .ok (.iconst 0, 1) := by decide +kernel
theorem dX3_layersWithWrongSuspect_3 : decode cX3_layersWithWrongSuspect 3 = .ok (.istore_n 2, 1) := by decide +kernel
theorem dX3_layersWithWrongSuspect_4 : decode cX3_layersWithWrongSuspect 4 = .ok (.iload_n 2, 1) := by decide +kernel
theorem dX3_layersWithWrongSuspect_5 : decode cX3_layersWithWrongSuspect 5 = .ok (.aload_n 0, 1) := by decide +kernel
theorem dX3_layersWithWrongSuspect_6 : decode cX3_layersWithWrongSuspect 6 = .ok (.getfield 19, 3) := by decide +kernel
theorem dX3_layersWithWrongSuspect_9 : decode cX3_layersWithWrongSuspect 9 = .ok (.invokevirtual 43, 3) := by decide +kernel
theorem dX3_layersWithWrongSuspect_12 : decode cX3_layersWithWrongSuspect 12 = .ok (.if_icmp .ge 56, 3) := by decide +kernel
theorem dX3_layersWithWrongSuspect_15 : decode cX3_layersWithWrongSuspect 15 = .ok (.aload_n 0, 1) := by decide +kernel
theorem dX3_layersWithWrongSuspect_16 : decode cX3_layersWithWrongSuspect 16 = .ok (.getfield 19, 3) := by decide +kernel
theorem dX3_layersWithWrongSuspect_19 : decode cX3_layersWithWrongSuspect 19 = .ok (.iload_n 2, 1) := by decide +kernel
theorem dX3_layersWithWrongSuspect_20 : decode cX3_layersWithWrongSuspect 20 = .ok (.invokevirtual 327, 3) := by decide +kernel
theorem dX3_layersWithWrongSuspect_23 : decode cX3_layersWithWrongSuspect 23 = .ok (.checkcast 118, 3) := by decide +kernel
theorem dX3_layersWithWrongSuspect_26 : decode cX3_layersWithWrongSuspect 26 = .ok (.astore_n 3, 1) := by decide +kernel
theorem dX3_layersWithWrongSuspect_27 : decode cX3_layersWithWrongSuspect 27 = .ok (.aload_n 0, 1) := by decide +kernel
theorem dX3_layersWithWrongSuspect_28 : decode cX3_layersWithWrongSuspect 28 = .ok (.aload_n 3, 1) := by decide +kernel
theorem dX3_layersWithWrongSuspect_29 : decode cX3_layersWithWrongSuspect 29 = .ok (.invokevirtual 290, 3) := by decide +kernel
theorem dX3_layersWithWrongSuspect_32 : decode cX3_layersWithWrongSuspect 32 = .ok (.istore 4, 2) := by decide +kernel
theorem dX3_layersWithWrongSuspect_34 : decode cX3_layersWithWrongSuspect 34 = .ok (.aload_n 3, 1) := by decide +kernel
theorem dX3_layersWithWrongSuspect_35 : decode cX3_layersWithWrongSuspect 35 = .ok (.invokevirtual 186, 3) := by decide +kernel
theorem dX3_layersWithWrongSuspect_38 : decode cX3_layersWithWrongSuspect 38 = .ok (.ifCond .eq 24, 3) := by decide +kernel
theorem dX3_layersWithWrongSuspect_41 : decode cX3_layersWithWrongSuspect 41 = .ok (.iload 4, 2) := by decide +kernel
theorem dX3_layersWithWrongSuspect_43 : decode cX3_layersWithWrongSuspect 43 = .ok (.iconst (-1), 1) := by decide +kernel
theorem dX3_layersWithWrongSuspect_44 : decode cX3_layersWithWrongSuspect 44 = .ok (.if_icmp .eq 18, 3) := by decide +kernel
theorem dX3_layersWithWrongSuspect_47 : decode cX3_layersWithWrongSuspect 47 = .ok (.iload 4, 2) := by decide +kernel
theorem dX3_layersWithWrongSuspect_49 : decode cX3_layersWithWrongSuspect 49 = .ok (.aload_n 3, 1) := by decide +kernel
theorem dX3_layersWithWrongSuspect_50 : decode cX3_layersWithWrongSuspect 50 = .ok (.getfield 172, 3) := by decide +kernel
theorem dX3_layersWithWrongSuspect_53 : decode cX3_layersWithWrongSuspect 53 = .ok (.getfield 270, 3) := by decide +kernel
theorem dX3_layersWithWrongSuspect_56 : decode cX3_layersWithWrongSuspect 56 = .ok (.if_icmp .eq 6, 3) := by decide +kernel
theorem dX3_layersWithWrongSuspect_59 : decode cX3_layersWithWrongSuspect 59 = .ok (.iinc 1 1, 3) := by decide +kernel
theorem dX3_layersWithWrongSuspect_62 : decode cX3_layersWithWrongSuspect 62 = .ok (.iinc 2 1, 3) := by decide +kernel
theorem dX3_layersWithWrongSuspect_65 : decode cX3_layersWithWrongSuspect 65 = .ok (.goto (-61), 3) := by decide +kernel
theorem dX3_layersWithWrongSuspect_68 : decode cX3_layersWithWrongSuspect 68 = .ok (.iload_n 1, 1) := by decide +kernel
theorem dX3_layersWithWrongSuspect_69 : decode cX3_layersWithWrongSuspect 69 = .ok (.ireturn, 1) := by decide +kernel
theorem dX3_wrongsSufferedBy_0 : decode cX3_wrongsSufferedBy 0 = .ok (.iconst 0, 1) := by decide +kernel
theorem dX3_wrongsSufferedBy_1 : decode cX3_wrongsSufferedBy 1 = .ok (.istore_n 2, 1) := by decide +kernel
theorem dX3_wrongsSufferedBy_2 : decode cX3_wrongsSufferedBy 2 = .ok (.iconst 0, 1) := by decide +kernel
theorem dX3_wrongsSufferedBy_3 : decode cX3_wrongsSufferedBy 3 = .ok (.istore_n 3, 1) := by decide +kernel
theorem dX3_wrongsSufferedBy_4 : decode cX3_wrongsSufferedBy 4 = .ok (.iload_n 3, 1) := by decide +kernel
theorem dX3_wrongsSufferedBy_5 : decode cX3_wrongsSufferedBy 5 = .ok (.aload_n 0, 1) := by decide +kernel
theorem dX3_wrongsSufferedBy_6 : decode cX3_wrongsSufferedBy 6 = .ok (.getfield 16, 3) := by decide +kernel
theorem dX3_wrongsSufferedBy_9 : decode cX3_wrongsSufferedBy 9 = .ok (.invokevirtual 43, 3) := by decide +kernel
theorem dX3_wrongsSufferedBy_12 : decode cX3_wrongsSufferedBy 12 = .ok (.if_icmp .ge 31, 3) := by decide +kernel
theorem dX3_wrongsSufferedBy_15 : decode cX3_wrongsSufferedBy 15 = .ok (.iload_n 2, 1) := by decide +kernel
theorem dX3_wrongsSufferedBy_16 : decode cX3_wrongsSufferedBy 16 = .ok (.aload_n 0, 1) := by decide +kernel
theorem dX3_wrongsSufferedBy_17 : decode cX3_wrongsSufferedBy 17 = .ok (.getfield 16, 3) := by decide +kernel
theorem dX3_wrongsSufferedBy_20 : decode cX3_wrongsSufferedBy 20 = .ok (.iload_n 3, 1) := by decide +kernel
theorem dX3_wrongsSufferedBy_21 : decode cX3_wrongsSufferedBy 21 = .ok (.invokevirtual 327, 3) := by decide +kernel
theorem dX3_wrongsSufferedBy_24 : decode cX3_wrongsSufferedBy 24 = .ok (.checkcast 65, 3) := by decide +kernel
theorem dX3_wrongsSufferedBy_27 : decode cX3_wrongsSufferedBy 27 = .ok (.getfield 295, 3) := by decide +kernel
theorem dX3_wrongsSufferedBy_30 : decode cX3_wrongsSufferedBy 30 = .ok (.aload_n 1, 1) := by decide +kernel
theorem dX3_wrongsSufferedBy_31 : decode cX3_wrongsSufferedBy 31 = .ok (.getfield 270, 3) := by decide +kernel
theorem dX3_wrongsSufferedBy_34 : decode cX3_wrongsSufferedBy 34 = .ok (.iaload, 1) := by decide +kernel
theorem dX3_wrongsSufferedBy_35 : decode cX3_wrongsSufferedBy 35 = .ok (.iadd, 1) := by decide +kernel
theorem dX3_wrongsSufferedBy_36 : decode cX3_wrongsSufferedBy 36 = .ok (.istore_n 2, 1) := by decide +kernel
theorem dX3_wrongsSufferedBy_37 : decode cX3_wrongsSufferedBy 37 = .ok (.iinc 3 1, 3) := by decide +kernel
theorem dX3_wrongsSufferedBy_40 : decode cX3_wrongsSufferedBy 40 = .ok (.goto (-36), 3) := by decide +kernel
theorem dX3_wrongsSufferedBy_43 : decode cX3_wrongsSufferedBy 43 = .ok (.iload_n 2, 1) := by decide +kernel
theorem dX3_wrongsSufferedBy_44 : decode cX3_wrongsSufferedBy 44 = .ok (.ireturn, 1) := by decide +kernel
theorem dX3_allWrongs_0 : decode cX3_allWrongs 0 = .ok (.iconst 0, 1) := by decide +kernel
theorem dX3_allWrongs_1 : decode cX3_allWrongs 1 = .ok (.istore_n 1, 1) := by decide +kernel
theorem dX3_allWrongs_2 : decode cX3_allWrongs 2 = .ok (.iconst 0, 1) := by decide +kernel
theorem dX3_allWrongs_3 : decode cX3_allWrongs 3 = .ok (.istore_n 2, 1) := by decide +kernel
theorem dX3_allWrongs_4 : decode cX3_allWrongs 4 = .ok (.iload_n 2, 1) := by decide +kernel
theorem dX3_allWrongs_5 : decode cX3_allWrongs 5 = .ok (.aload_n 0, 1) := by decide +kernel
theorem dX3_allWrongs_6 : decode cX3_allWrongs 6 = .ok (.getfield 16, 3) := by decide +kernel
theorem dX3_allWrongs_9 : decode cX3_allWrongs 9 = .ok (.invokevirtual 43, 3) := by decide +kernel
theorem dX3_allWrongs_12 : decode cX3_allWrongs 12 = .ok (.if_icmp .ge 26, 3) := by decide +kernel
theorem dX3_allWrongs_15 : decode cX3_allWrongs 15 = .ok (.iload_n 1, 1) := by decide +kernel
theorem dX3_allWrongs_16 : decode cX3_allWrongs 16 = .ok (.aload_n 0, 1) := by decide +kernel
theorem dX3_allWrongs_17 : decode cX3_allWrongs 17 = .ok (.getfield 16, 3) := by decide +kernel
theorem dX3_allWrongs_20 : decode cX3_allWrongs 20 = .ok (.iload_n 2, 1) := by decide +kernel
theorem dX3_allWrongs_21 : decode cX3_allWrongs 21 = .ok (.invokevirtual 327, 3) := by decide +kernel
theorem dX3_allWrongs_24 : decode cX3_allWrongs 24 = .ok (.checkcast 65, 3) := by decide +kernel
theorem dX3_allWrongs_27 : decode cX3_allWrongs 27 = .ok (.invokevirtual 259, 3) := by decide +kernel
theorem dX3_allWrongs_30 : decode cX3_allWrongs 30 = .ok (.iadd, 1) := by decide +kernel
theorem dX3_allWrongs_31 : decode cX3_allWrongs 31 = .ok (.istore_n 1, 1) := by decide +kernel
theorem dX3_allWrongs_32 : decode cX3_allWrongs 32 = .ok (.iinc 2 1, 3) := by decide +kernel
theorem dX3_allWrongs_35 : decode cX3_allWrongs 35 = .ok (.goto (-31), 3) := by decide +kernel
theorem dX3_allWrongs_38 : decode cX3_allWrongs 38 = .ok (.iload_n 1, 1) := by decide +kernel
theorem dX3_allWrongs_39 : decode cX3_allWrongs 39 = .ok (.ireturn, 1) := by decide +kernel
theorem dX3_knownHands_0 : decode cX3_knownHands 0 = .ok (.iconst 0, 1) := by decide +kernel
theorem dX3_knownHands_1 : decode cX3_knownHands 1 = .ok (.istore_n 1, 1) := by decide +kernel
theorem dX3_knownHands_2 : decode cX3_knownHands 2 = .ok (.iconst 0, 1) := by decide +kernel
theorem dX3_knownHands_3 : decode cX3_knownHands 3 = .ok (.istore_n 2, 1) := by decide +kernel
theorem dX3_knownHands_4 : decode cX3_knownHands 4 = .ok (.iload_n 2, 1) := by decide +kernel
theorem dX3_knownHands_5 : decode cX3_knownHands 5 = .ok (.aload_n 0, 1) := by decide +kernel
theorem dX3_knownHands_6 : decode cX3_knownHands 6 = .ok (.getfield 16, 3) := by decide +kernel
theorem dX3_knownHands_9 : decode cX3_knownHands 9 = .ok (.invokevirtual 43, 3) := by decide +kernel
theorem dX3_knownHands_12 : decode cX3_knownHands 12 = .ok (.if_icmp .ge 29, 3) := by decide +kernel
theorem dX3_knownHands_15 : decode cX3_knownHands 15 = .ok (.aload_n 0, 1) := by decide +kernel
theorem dX3_knownHands_16 : decode cX3_knownHands 16 = .ok (.getfield 16, 3) := by decide +kernel
theorem dX3_knownHands_19 : decode cX3_knownHands 19 = .ok (.iload_n 2, 1) := by decide +kernel
theorem dX3_knownHands_20 : decode cX3_knownHands 20 = .ok (.invokevirtual 327, 3) := by decide +kernel
theorem dX3_knownHands_23 : decode cX3_knownHands 23 = .ok (.checkcast 65, 3) := by decide +kernel
theorem dX3_knownHands_26 : decode cX3_knownHands 26 = .ok (.getfield 246, 3) := by decide +kernel
theorem dX3_knownHands_29 : decode cX3_knownHands 29 = .ok (.ifCond .eq 6, 3) := by decide +kernel
theorem dX3_knownHands_32 : decode cX3_knownHands 32 = .ok (.iinc 1 1, 3) := by decide +kernel
theorem dX3_knownHands_35 : decode cX3_knownHands 35 = .ok (.iinc 2 1, 3) := by decide +kernel
theorem dX3_knownHands_38 : decode cX3_knownHands 38 = .ok (.goto (-34), 3) := by decide +kernel
theorem dX3_knownHands_41 : decode cX3_knownHands 41 = .ok (.iload_n 1, 1) := by decide +kernel
theorem dX3_knownHands_42 : decode cX3_knownHands 42 = .ok (.ireturn, 1) := by decide +kernel
theorem dX3_allFines_0 : decode cX3_allFines 0 = .ok (.iconst 0, 1) := by decide +kernel
theorem dX3_allFines_1 : decode cX3_allFines 1 = .ok (.istore_n 1, 1) := by decide +kernel
theorem dX3_allFines_2 : decode cX3_allFines 2 = .ok (.iconst 0, 1) := by decide +kernel
theorem dX3_allFines_3 : decode cX3_allFines 3 = .ok (.istore_n 2, 1) := by decide +kernel
theorem dX3_allFines_4 : decode cX3_allFines 4 = .ok (.iload_n 2, 1) := by decide +kernel
theorem dX3_allFines_5 : decode cX3_allFines 5 = .ok (.aload_n 0, 1) := by decide +kernel
theorem dX3_allFines_6 : decode cX3_allFines 6 = .ok (.getfield 16, 3) := by decide +kernel
theorem dX3_allFines_9 : decode cX3_allFines 9 = .ok (.invokevirtual 43, 3) := by decide +kernel
theorem dX3_allFines_12 : decode cX3_allFines 12 = .ok (.if_icmp .ge 26, 3) := by decide +kernel
theorem dX3_allFines_15 : decode cX3_allFines 15 = .ok (.iload_n 1, 1) := by decide +kernel
theorem dX3_allFines_16 : decode cX3_allFines 16 = .ok (.aload_n 0, 1) := by decide +kernel
theorem dX3_allFines_17 : decode cX3_allFines 17 = .ok (.getfield 16, 3) := by decide +kernel
theorem dX3_allFines_20 : decode cX3_allFines 20 = .ok (.iload_n 2, 1) := by decide +kernel
theorem dX3_allFines_21 : decode cX3_allFines 21 = .ok (.invokevirtual 327, 3) := by decide +kernel
theorem dX3_allFines_24 : decode cX3_allFines 24 = .ok (.checkcast 65, 3) := by decide +kernel
theorem dX3_allFines_27 : decode cX3_allFines 27 = .ok (.getfield 208, 3) := by decide +kernel
theorem dX3_allFines_30 : decode cX3_allFines 30 = .ok (.iadd, 1) := by decide +kernel
theorem dX3_allFines_31 : decode cX3_allFines 31 = .ok (.istore_n 1, 1) := by decide +kernel
theorem dX3_allFines_32 : decode cX3_allFines 32 = .ok (.iinc 2 1, 3) := by decide +kernel
theorem dX3_allFines_35 : decode cX3_allFines 35 = .ok (.goto (-31), 3) := by decide +kernel
theorem dX3_allFines_38 : decode cX3_allFines 38 = .ok (.iload_n 1, 1) := by decide +kernel
theorem dX3_allFines_39 : decode cX3_allFines 39 = .ok (.ireturn, 1) := by decide +kernel
theorem dX3_allOwed_0 : decode cX3_allOwed 0 = .ok (.iconst 0, 1) := by decide +kernel
theorem dX3_allOwed_1 : decode cX3_allOwed 1 = .ok (.istore_n 1, 1) := by decide +kernel
theorem dX3_allOwed_2 : decode cX3_allOwed 2 = .ok (.iconst 0, 1) := by decide +kernel
theorem dX3_allOwed_3 : decode cX3_allOwed 3 = .ok (.istore_n 2, 1) := by decide +kernel
theorem dX3_allOwed_4 : decode cX3_allOwed 4 = .ok (.iload_n 2, 1) := by decide +kernel
theorem dX3_allOwed_5 : decode cX3_allOwed 5 = .ok (.aload_n 0, 1) := by decide +kernel
theorem dX3_allOwed_6 : decode cX3_allOwed 6 = .ok (.getfield 16, 3) := by decide +kernel
theorem dX3_allOwed_9 : decode cX3_allOwed 9 = .ok (.invokevirtual 43, 3) := by decide +kernel
theorem dX3_allOwed_12 : decode cX3_allOwed 12 = .ok (.if_icmp .ge 26, 3) := by decide +kernel
theorem dX3_allOwed_15 : decode cX3_allOwed 15 = .ok (.iload_n 1, 1) := by decide +kernel
theorem dX3_allOwed_16 : decode cX3_allOwed 16 = .ok (.aload_n 0, 1) := by decide +kernel
theorem dX3_allOwed_17 : decode cX3_allOwed 17 = .ok (.getfield 16, 3) := by decide +kernel
theorem dX3_allOwed_20 : decode cX3_allOwed 20 = .ok (.iload_n 2, 1) := by decide +kernel
theorem dX3_allOwed_21 : decode cX3_allOwed 21 = .ok (.invokevirtual 327, 3) := by decide +kernel
theorem dX3_allOwed_24 : decode cX3_allOwed 24 = .ok (.checkcast 65, 3) := by decide +kernel
theorem dX3_allOwed_27 : decode cX3_allOwed 27 = .ok (.getfield 176, 3) := by decide +kernel
theorem dX3_allOwed_30 : decode cX3_allOwed 30 = .ok (.iadd, 1) := by decide +kernel
theorem dX3_allOwed_31 : decode cX3_allOwed 31 = .ok (.istore_n 1, 1) := by decide +kernel
theorem dX3_allOwed_32 : decode cX3_allOwed 32 = .ok (.iinc 2 1, 3) := by decide +kernel
theorem dX3_allOwed_35 : decode cX3_allOwed 35 = .ok (.goto (-31), 3) := by decide +kernel
theorem dX3_allOwed_38 : decode cX3_allOwed 38 = .ok (.iload_n 1, 1) := by decide +kernel
theorem dX3_allOwed_39 : decode cX3_allOwed 39 = .ok (.ireturn, 1) := by decide +kernel
theorem dJ9_abs_0f7a4_0 : decode cJ9_abs_0f7a4 0 = .ok (.iload_n 0, 1) := by decide +kernel
theorem dJ9_abs_0f7a4_1 : decode cJ9_abs_0f7a4 1 = .ok (.ifCond .ge 8, 3) := by decide +kernel
theorem dJ9_abs_0f7a4_4 : decode cJ9_abs_0f7a4 4 = .ok (.iload_n 0, 1) := by decide +kernel
theorem dJ9_abs_0f7a4_5 : decode cJ9_abs_0f7a4 5 = .ok (.ineg, 1) := by decide +kernel
theorem dJ9_abs_0f7a4_6 : decode cJ9_abs_0f7a4 6 = .ok (.goto 4, 3) := by decide +kernel
theorem dJ9_abs_0f7a4_9 : decode cJ9_abs_0f7a4 9 = .ok (.iload_n 0, 1) := by decide +kernel
theorem dJ9_abs_0f7a4_10 : decode cJ9_abs_0f7a4 10 = .ok (.ireturn, 1) := by decide +kernel
theorem dJ9_max_7cf53_0 : decode cJ9_max_7cf53 0 = .ok (.iload_n 0, 1) := by decide +kernel
theorem dJ9_max_7cf53_1 : decode cJ9_max_7cf53 1 = .ok (.iload_n 1, 1) := by decide +kernel
theorem dJ9_max_7cf53_2 : decode cJ9_max_7cf53 2 = .ok (.if_icmp .lt 7, 3) := by decide +kernel
theorem dJ9_max_7cf53_5 : decode cJ9_max_7cf53 5 = .ok (.iload_n 0, 1) := by decide +kernel
theorem dJ9_max_7cf53_6 : decode cJ9_max_7cf53 6 = .ok (.goto 4, 3) := by decide +kernel
theorem dJ9_max_7cf53_9 : decode cJ9_max_7cf53 9 = .ok (.iload_n 1, 1) := by decide +kernel
theorem dJ9_max_7cf53_10 : decode cJ9_max_7cf53 10 = .ok (.ireturn, 1) := by decide +kernel
theorem dJ9_min_7cf53_0 : decode cJ9_min_7cf53 0 = .ok (.iload_n 0, 1) := by decide +kernel
theorem dJ9_min_7cf53_1 : decode cJ9_min_7cf53 1 = .ok (.iload_n 1, 1) := by decide +kernel
theorem dJ9_min_7cf53_2 : decode cJ9_min_7cf53 2 = .ok (.if_icmp .gt 7, 3) := by decide +kernel
theorem dJ9_min_7cf53_5 : decode cJ9_min_7cf53 5 = .ok (.iload_n 0, 1) := by decide +kernel
theorem dJ9_min_7cf53_6 : decode cJ9_min_7cf53 6 = .ok (.goto 4, 3) := by decide +kernel
theorem dJ9_min_7cf53_9 : decode cJ9_min_7cf53 9 = .ok (.iload_n 1, 1) := by decide +kernel
theorem dJ9_min_7cf53_10 : decode cJ9_min_7cf53 10 = .ok (.ireturn, 1) := by decide +kernel
theorem dJxa1e45_init_da8c8_0 : decode cJxa1e45_init_da8c8 0 = .ok (.aload_n 0, 1) := by decide +kernel
theorem dJxa1e45_init_da8c8_1 : decode cJxa1e45_init_da8c8 1 = .ok (.invokespecial 1, 3) := by decide +kernel
theorem dJxa1e45_init_da8c8_4 : decode cJxa1e45_init_da8c8 4 = .ok (.return_, 1) := by decide +kernel
theorem dJxc12de_init_da8c8_0 : decode cJxc12de_init_da8c8 0 = .ok (.aload_n 0, 1) := by decide +kernel
theorem dJxc12de_init_da8c8_1 : decode cJxc12de_init_da8c8 1 = .ok (.invokespecial 1, 3) := by decide +kernel
theorem dJxc12de_init_da8c8_4 : decode cJxc12de_init_da8c8 4 = .ok (.aload_n 0, 1) := by decide +kernel
theorem dJxc12de_init_da8c8_5 : decode cJxc12de_init_da8c8 5 = .ok (.iconst 0, 1) := by decide +kernel
theorem dJxc12de_init_da8c8_6 : decode cJxc12de_init_da8c8 6 = .ok (.putfield 7, 3) := by decide +kernel
theorem dJxc12de_init_da8c8_9 : decode cJxc12de_init_da8c8 9 = .ok (.return_, 1) := by decide +kernel
theorem dJx4a65c_init_da8c8_0 : decode cJx4a65c_init_da8c8 0 = .ok (.aload_n 0, 1) := by decide +kernel
theorem dJx4a65c_init_da8c8_1 : decode cJx4a65c_init_da8c8 1 = .ok (.invokespecial 1, 3) := by decide +kernel
theorem dJx4a65c_init_da8c8_4 : decode cJx4a65c_init_da8c8 4 = .ok (.aload_n 0, 1) := by decide +kernel
theorem dJx4a65c_init_da8c8_5 : decode cJx4a65c_init_da8c8 5 = .ok (.getstatic 39, 3) := by decide +kernel
theorem dJx4a65c_init_da8c8_8 : decode cJx4a65c_init_da8c8 8 = .ok (.putfield 9, 3) := by decide +kernel
theorem dJx4a65c_init_da8c8_11 : decode cJx4a65c_init_da8c8 11 = .ok (.return_, 1) := by decide +kernel
theorem dJx4a65c_grow_92f84_0 : decode cJx4a65c_grow_92f84 0 = .ok (.aload_n 0, 1) := by decide +kernel
theorem dJx4a65c_grow_92f84_1 : decode cJx4a65c_grow_92f84 1 = .ok (.getfield 9, 3) := by decide +kernel
theorem dJx4a65c_grow_92f84_4 : decode cJx4a65c_grow_92f84 4 = .ok (.arraylength, 1) := by decide +kernel
theorem dJx4a65c_grow_92f84_5 : decode cJx4a65c_grow_92f84 5 = .ok (.istore_n 2, 1) := by decide +kernel
theorem dJx4a65c_grow_92f84_6 : decode cJx4a65c_grow_92f84 6 = .ok (.iload_n 2, 1) := by decide +kernel
theorem dJx4a65c_grow_92f84_7 : decode cJx4a65c_grow_92f84 7 = .ok (.ifCond .gt 13, 3) := by decide +kernel
theorem dJx4a65c_grow_92f84_10 : decode cJx4a65c_grow_92f84 10 = .ok (.aload_n 0, 1) := by decide +kernel
theorem dJx4a65c_grow_92f84_11 : decode cJx4a65c_grow_92f84 11 = .ok (.getfield 9, 3) := by decide +kernel
theorem dJx4a65c_grow_92f84_14 : decode cJx4a65c_grow_92f84 14 = .ok (.getstatic 39, 3) := by decide +kernel
theorem dJx4a65c_grow_92f84_17 : decode cJx4a65c_grow_92f84 17 = .ok (.if_acmp .eq 28, 3) := by decide +kernel
theorem dJx4a65c_grow_92f84_20 : decode cJx4a65c_grow_92f84 20 = .ok (.iload_n 2, 1) := by decide +kernel
theorem dJx4a65c_grow_92f84_21 : decode cJx4a65c_grow_92f84 21 = .ok (.iload_n 1, 1) := by decide +kernel
theorem dJx4a65c_grow_92f84_22 : decode cJx4a65c_grow_92f84 22 = .ok (.iload_n 2, 1) := by decide +kernel
theorem dJx4a65c_grow_92f84_23 : decode cJx4a65c_grow_92f84 23 = .ok (.isub, 1) := by decide +kernel
theorem dJx4a65c_grow_92f84_24 : decode cJx4a65c_grow_92f84 24 = .ok (.iload_n 2, 1) := by decide +kernel
theorem dJx4a65c_grow_92f84_25 : decode cJx4a65c_grow_92f84 25 = .ok (.iconst 1, 1) := by decide +kernel
theorem dJx4a65c_grow_92f84_26 : decode cJx4a65c_grow_92f84 26 = .ok (.ishr, 1) := by decide +kernel
theorem dJx4a65c_grow_92f84_27 : decode cJx4a65c_grow_92f84 27 = .ok (.invokestatic 73, 3) := by decide +kernel
theorem dJx4a65c_grow_92f84_30 : decode cJx4a65c_grow_92f84 30 = .ok (.istore_n 3, 1) := by decide +kernel
theorem dJx4a65c_grow_92f84_31 : decode cJx4a65c_grow_92f84 31 = .ok (.aload_n 0, 1) := by decide +kernel
theorem dJx4a65c_grow_92f84_32 : decode cJx4a65c_grow_92f84 32 = .ok (.aload_n 0, 1) := by decide +kernel
theorem dJx4a65c_grow_92f84_33 : decode cJx4a65c_grow_92f84 33 = .ok (.getfield 9, 3) := by decide +kernel
theorem dJx4a65c_grow_92f84_36 : decode cJx4a65c_grow_92f84 36 = .ok (.iload_n 3, 1) := by decide +kernel
theorem dJx4a65c_grow_92f84_37 : decode cJx4a65c_grow_92f84 37 = .ok (.invokestatic 66, 3) := by decide +kernel
theorem dJx4a65c_grow_92f84_40 : decode cJx4a65c_grow_92f84 40 = .ok (.dup_x1, 1) := by decide +kernel
theorem dJx4a65c_grow_92f84_41 : decode cJx4a65c_grow_92f84 41 = .ok (.putfield 9, 3) := by decide +kernel
theorem dJx4a65c_grow_92f84_44 : decode cJx4a65c_grow_92f84 44 = .ok (.areturn, 1) := by decide +kernel
theorem dJx4a65c_grow_92f84_45 : decode cJx4a65c_grow_92f84 45 = .ok (.aload_n 0, 1) := by decide +kernel
theorem dJx4a65c_grow_92f84_46 : decode cJx4a65c_grow_92f84 46 = .ok (.bipush 10, 2) := by decide +kernel
theorem dJx4a65c_grow_92f84_48 : decode cJx4a65c_grow_92f84 48 = .ok (.iload_n 1, 1) := by decide +kernel
theorem dJx4a65c_grow_92f84_49 : decode cJx4a65c_grow_92f84 49 = .ok (.invokestatic 79, 3) := by decide +kernel
theorem dJx4a65c_grow_92f84_52 : decode cJx4a65c_grow_92f84 52 = .ok (.anewarray 7, 3) := by decide +kernel
theorem dJx4a65c_grow_92f84_55 : decode cJx4a65c_grow_92f84 55 = .ok (.dup_x1, 1) := by decide +kernel
theorem dJx4a65c_grow_92f84_56 : decode cJx4a65c_grow_92f84 56 = .ok (.putfield 9, 3) := by decide +kernel
theorem dJx4a65c_grow_92f84_59 : decode cJx4a65c_grow_92f84 59 = .ok (.areturn, 1) := by decide +kernel
theorem dJx4a65c_grow_d5877_0 : decode cJx4a65c_grow_d5877 0 = .ok (.aload_n 0, 1) := by decide +kernel
theorem dJx4a65c_grow_d5877_1 : decode cJx4a65c_grow_d5877 1 = .ok (.aload_n 0, 1) := by decide +kernel
theorem dJx4a65c_grow_d5877_2 : decode cJx4a65c_grow_d5877 2 = .ok (.getfield 48, 3) := by decide +kernel
theorem dJx4a65c_grow_d5877_5 : decode cJx4a65c_grow_d5877 5 = .ok (.iconst 1, 1) := by decide +kernel
theorem dJx4a65c_grow_d5877_6 : decode cJx4a65c_grow_d5877 6 = .ok (.iadd, 1) := by decide +kernel
theorem dJx4a65c_grow_d5877_7 : decode cJx4a65c_grow_d5877 7 = .ok (.invokevirtual 69, 3) := by decide +kernel
theorem dJx4a65c_grow_d5877_10 : decode cJx4a65c_grow_d5877 10 = .ok (.areturn, 1) := by decide +kernel
theorem dJx4a65c_size_8abf5_0 : decode cJx4a65c_size_8abf5 0 = .ok (.aload_n 0, 1) := by decide +kernel
theorem dJx4a65c_size_8abf5_1 : decode cJx4a65c_size_8abf5 1 = .ok (.getfield 48, 3) := by decide +kernel
theorem dJx4a65c_size_8abf5_4 : decode cJx4a65c_size_8abf5 4 = .ok (.ireturn, 1) := by decide +kernel
theorem dJx4a65c_isEmpty_aae02_0 : decode cJx4a65c_isEmpty_aae02 0 = .ok (.aload_n 0, 1) := by decide +kernel
theorem dJx4a65c_isEmpty_aae02_1 : decode cJx4a65c_isEmpty_aae02 1 = .ok (.getfield 48, 3) := by decide +kernel
theorem dJx4a65c_isEmpty_aae02_4 : decode cJx4a65c_isEmpty_aae02 4 = .ok (.ifCond .ne 7, 3) := by decide +kernel
theorem dJx4a65c_isEmpty_aae02_7 : decode cJx4a65c_isEmpty_aae02 7 = .ok (.iconst 1, 1) := by decide +kernel
theorem dJx4a65c_isEmpty_aae02_8 : decode cJx4a65c_isEmpty_aae02 8 = .ok (.goto 4, 3) := by decide +kernel
theorem dJx4a65c_isEmpty_aae02_11 : decode cJx4a65c_isEmpty_aae02 11 = .ok (.iconst 0, 1) := by decide +kernel
theorem dJx4a65c_isEmpty_aae02_12 : decode cJx4a65c_isEmpty_aae02 12 = .ok (.ireturn, 1) := by decide +kernel
theorem dJx4a65c_elementData_915e3_0 : decode cJx4a65c_elementData_915e3 0 = .ok (.aload_n 0, 1) := by decide +kernel
theorem dJx4a65c_elementData_915e3_1 : decode cJx4a65c_elementData_915e3 1 = .ok (.getfield 9, 3) := by decide +kernel
theorem dJx4a65c_elementData_915e3_4 : decode cJx4a65c_elementData_915e3 4 = .ok (.iload_n 1, 1) := by decide +kernel
theorem dJx4a65c_elementData_915e3_5 : decode cJx4a65c_elementData_915e3 5 = .ok (.aaload, 1) := by decide +kernel
theorem dJx4a65c_elementData_915e3_6 : decode cJx4a65c_elementData_915e3 6 = .ok (.areturn, 1) := by decide +kernel
theorem dJx4a65c_get_915e3_0 : decode cJx4a65c_get_915e3 0 = .ok (.iload_n 1, 1) := by decide +kernel
theorem dJx4a65c_get_915e3_1 : decode cJx4a65c_get_915e3 1 = .ok (.aload_n 0, 1) := by decide +kernel
theorem dJx4a65c_get_915e3_2 : decode cJx4a65c_get_915e3 2 = .ok (.getfield 48, 3) := by decide +kernel
theorem dJx4a65c_get_915e3_5 : decode cJx4a65c_get_915e3 5 = .ok (.invokestatic 118, 3) := by decide +kernel
theorem dJx4a65c_get_915e3_8 : decode cJx4a65c_get_915e3 8 = .ok (.pop, 1) := by decide +kernel
theorem dJx4a65c_get_915e3_9 : decode cJx4a65c_get_915e3 9 = .ok (.aload_n 0, 1) := by decide +kernel
theorem dJx4a65c_get_915e3_10 : decode cJx4a65c_get_915e3 10 = .ok (.iload_n 1, 1) := by decide +kernel
theorem dJx4a65c_get_915e3_11 : decode cJx4a65c_get_915e3 11 = .ok (.invokevirtual 123, 3) := by decide +kernel
theorem dJx4a65c_get_915e3_14 : decode cJx4a65c_get_915e3 14 = .ok (.areturn, 1) := by decide +kernel
theorem dJx4a65c_add_72be8_0 : decode cJx4a65c_add_72be8 0 = .ok (.iload_n 3, 1) := by decide +kernel
theorem dJx4a65c_add_72be8_1 : decode cJx4a65c_add_72be8 1 = .ok (.aload_n 2, 1) := by decide +kernel
theorem dJx4a65c_add_72be8_2 : decode cJx4a65c_add_72be8 2 = .ok (.arraylength, 1) := by decide +kernel
theorem dJx4a65c_add_72be8_3 : decode cJx4a65c_add_72be8 3 = .ok (.if_icmp .ne 8, 3) := by decide +kernel
theorem dJx4a65c_add_72be8_6 : decode cJx4a65c_add_72be8 6 = .ok (.aload_n 0, 1) := by decide +kernel
theorem dJx4a65c_add_72be8_7 : decode cJx4a65c_add_72be8 7 = .ok (.invokevirtual 129, 3) := by decide +kernel
theorem dJx4a65c_add_72be8_10 : decode cJx4a65c_add_72be8 10 = .ok (.astore_n 2, 1) := by decide +kernel
theorem dJx4a65c_add_72be8_11 : decode cJx4a65c_add_72be8 11 = .ok (.aload_n 2, 1) := by decide +kernel
theorem dJx4a65c_add_72be8_12 : decode cJx4a65c_add_72be8 12 = .ok (.iload_n 3, 1) := by decide +kernel
theorem dJx4a65c_add_72be8_13 : decode cJx4a65c_add_72be8 13 = .ok (.aload_n 1, 1) := by decide +kernel
theorem dJx4a65c_add_72be8_14 : decode cJx4a65c_add_72be8 14 = .ok (.aastore, 1) := by decide +kernel
theorem dJx4a65c_add_72be8_15 : decode cJx4a65c_add_72be8 15 = .ok (.aload_n 0, 1) := by decide +kernel
theorem dJx4a65c_add_72be8_16 : decode cJx4a65c_add_72be8 16 = .ok (.iload_n 3, 1) := by decide +kernel
theorem dJx4a65c_add_72be8_17 : decode cJx4a65c_add_72be8 17 = .ok (.iconst 1, 1) := by decide +kernel
theorem dJx4a65c_add_72be8_18 : decode cJx4a65c_add_72be8 18 = .ok (.iadd, 1) := by decide +kernel
theorem dJx4a65c_add_72be8_19 : decode cJx4a65c_add_72be8 19 = .ok (.putfield 48, 3) := by decide +kernel
theorem dJx4a65c_add_72be8_22 : decode cJx4a65c_add_72be8 22 = .ok (.return_, 1) := by decide +kernel
theorem dJx4a65c_add_9ea2d_0 : decode cJx4a65c_add_9ea2d 0 = .ok (.aload_n 0, 1) := by decide +kernel
theorem dJx4a65c_add_9ea2d_1 : decode cJx4a65c_add_9ea2d 1 = .ok (.dup, 1) := by decide +kernel
theorem dJx4a65c_add_9ea2d_2 : decode cJx4a65c_add_9ea2d 2 = .ok (.getfield 63, 3) := by decide +kernel
theorem dJx4a65c_add_9ea2d_5 : decode cJx4a65c_add_9ea2d 5 = .ok (.iconst 1, 1) := by decide +kernel
theorem dJx4a65c_add_9ea2d_6 : decode cJx4a65c_add_9ea2d 6 = .ok (.iadd, 1) := by decide +kernel
theorem dJx4a65c_add_9ea2d_7 : decode cJx4a65c_add_9ea2d 7 = .ok (.putfield 63, 3) := by decide +kernel
theorem dJx4a65c_add_9ea2d_10 : decode cJx4a65c_add_9ea2d 10 = .ok (.aload_n 0, 1) := by decide +kernel
theorem dJx4a65c_add_9ea2d_11 : decode cJx4a65c_add_9ea2d 11 = .ok (.aload_n 1, 1) := by decide +kernel
theorem dJx4a65c_add_9ea2d_12 : decode cJx4a65c_add_9ea2d 12 = .ok (.aload_n 0, 1) := by decide +kernel
theorem dJx4a65c_add_9ea2d_13 : decode cJx4a65c_add_9ea2d 13 = .ok (.getfield 9, 3) := by decide +kernel
theorem dJx4a65c_add_9ea2d_16 : decode cJx4a65c_add_9ea2d 16 = .ok (.aload_n 0, 1) := by decide +kernel
theorem dJx4a65c_add_9ea2d_17 : decode cJx4a65c_add_9ea2d 17 = .ok (.getfield 48, 3) := by decide +kernel
theorem dJx4a65c_add_9ea2d_20 : decode cJx4a65c_add_9ea2d 20 = .ok (.invokevirtual 131, 3) := by decide +kernel
theorem dJx4a65c_add_9ea2d_23 : decode cJx4a65c_add_9ea2d 23 = .ok (.iconst 1, 1) := by decide +kernel
theorem dJx4a65c_add_9ea2d_24 : decode cJx4a65c_add_9ea2d 24 = .ok (.ireturn, 1) := by decide +kernel
theorem dJ7_copyOf_1904c_0 : decode cJ7_copyOf_1904c 0 = .ok (.aload_n 0, 1) := by decide +kernel
theorem dJ7_copyOf_1904c_1 : decode cJ7_copyOf_1904c 1 = .ok (.iload_n 1, 1) := by decide +kernel
theorem dJ7_copyOf_1904c_2 : decode cJ7_copyOf_1904c 2 = .ok (.aload_n 0, 1) := by decide +kernel
theorem dJ7_copyOf_1904c_3 : decode cJ7_copyOf_1904c 3 = .ok (.invokevirtual 86, 3) := by decide +kernel
theorem dJ7_copyOf_1904c_6 : decode cJ7_copyOf_1904c 6 = .ok (.invokestatic 300, 3) := by decide +kernel
theorem dJ7_copyOf_1904c_9 : decode cJ7_copyOf_1904c 9 = .ok (.areturn, 1) := by decide +kernel
theorem dJ7_copyOf_6403c_0 : decode cJ7_copyOf_6403c 0 = .ok (.aload_n 2, 1) := by decide +kernel
theorem dJ7_copyOf_6403c_1 : decode cJ7_copyOf_6403c 1 = .ok (.ldc 110, 2) := by decide +kernel
theorem dJ7_copyOf_6403c_3 : decode cJ7_copyOf_6403c 3 = .ok (.if_acmp .ne 10, 3) := by decide +kernel
theorem dJ7_copyOf_6403c_6 : decode cJ7_copyOf_6403c 6 = .ok (.iload_n 1, 1) := by decide +kernel
theorem dJ7_copyOf_6403c_7 : decode cJ7_copyOf_6403c 7 = .ok (.anewarray 2, 3) := by decide +kernel
theorem dJ7_copyOf_6403c_10 : decode cJ7_copyOf_6403c 10 = .ok (.goto 14, 3) := by decide +kernel
theorem dJ7_copyOf_6403c_13 : decode cJ7_copyOf_6403c 13 = .ok (.aload_n 2, 1) := by decide +kernel
theorem dJ7_copyOf_6403c_14 : decode cJ7_copyOf_6403c 14 = .ok (.invokevirtual 90, 3) := by decide +kernel
theorem dJ7_copyOf_6403c_17 : decode cJ7_copyOf_6403c 17 = .ok (.iload_n 1, 1) := by decide +kernel
theorem dJ7_copyOf_6403c_18 : decode cJ7_copyOf_6403c 18 = .ok (.invokestatic 95, 3) := by decide +kernel
theorem dJ7_copyOf_6403c_21 : decode cJ7_copyOf_6403c 21 = .ok (.checkcast 110, 3) := by decide +kernel
theorem dJ7_copyOf_6403c_24 : decode cJ7_copyOf_6403c 24 = .ok (.astore_n 3, 1) := by decide +kernel
theorem dJ7_copyOf_6403c_25 : decode cJ7_copyOf_6403c 25 = .ok (.aload_n 0, 1) := by decide +kernel
theorem dJ7_copyOf_6403c_26 : decode cJ7_copyOf_6403c 26 = .ok (.iconst 0, 1) := by decide +kernel
theorem dJ7_copyOf_6403c_27 : decode cJ7_copyOf_6403c 27 = .ok (.aload_n 3, 1) := by decide +kernel
theorem dJ7_copyOf_6403c_28 : decode cJ7_copyOf_6403c 28 = .ok (.iconst 0, 1) := by decide +kernel
theorem dJ7_copyOf_6403c_29 : decode cJ7_copyOf_6403c 29 = .ok (.aload_n 0, 1) := by decide +kernel
theorem dJ7_copyOf_6403c_30 : decode cJ7_copyOf_6403c 30 = .ok (.arraylength, 1) := by decide +kernel
theorem dJ7_copyOf_6403c_31 : decode cJ7_copyOf_6403c 31 = .ok (.iload_n 1, 1) := by decide +kernel
theorem dJ7_copyOf_6403c_32 : decode cJ7_copyOf_6403c 32 = .ok (.invokestatic 304, 3) := by decide +kernel
theorem dJ7_copyOf_6403c_35 : decode cJ7_copyOf_6403c 35 = .ok (.invokestatic 150, 3) := by decide +kernel
theorem dJ7_copyOf_6403c_38 : decode cJ7_copyOf_6403c 38 = .ok (.aload_n 3, 1) := by decide +kernel
theorem dJ7_copyOf_6403c_39 : decode cJ7_copyOf_6403c 39 = .ok (.areturn, 1) := by decide +kernel
theorem dJ15_checkIndex_7cf53_0 : decode cJ15_checkIndex_7cf53 0 = .ok (.iload_n 0, 1) := by decide +kernel
theorem dJ15_checkIndex_7cf53_1 : decode cJ15_checkIndex_7cf53 1 = .ok (.iload_n 1, 1) := by decide +kernel
theorem dJ15_checkIndex_7cf53_2 : decode cJ15_checkIndex_7cf53 2 = .ok (.aconst_null, 1) := by decide +kernel
theorem dJ15_checkIndex_7cf53_3 : decode cJ15_checkIndex_7cf53 3 = .ok (.invokestatic 105, 3) := by decide +kernel
theorem dJ15_checkIndex_7cf53_6 : decode cJ15_checkIndex_7cf53 6 = .ok (.ireturn, 1) := by decide +kernel
theorem dJ8_newLength_cabcc_0 : decode cJ8_newLength_cabcc 0 = .ok (.iload_n 0, 1) := by decide +kernel
theorem dJ8_newLength_cabcc_1 : decode cJ8_newLength_cabcc 1 = .ok (.iload_n 1, 1) := by decide +kernel
theorem dJ8_newLength_cabcc_2 : decode cJ8_newLength_cabcc 2 = .ok (.iload_n 2, 1) := by decide +kernel
theorem dJ8_newLength_cabcc_3 : decode cJ8_newLength_cabcc 3 = .ok (.invokestatic 194, 3) := by decide +kernel
theorem dJ8_newLength_cabcc_6 : decode cJ8_newLength_cabcc 6 = .ok (.iadd, 1) := by decide +kernel
theorem dJ8_newLength_cabcc_7 : decode cJ8_newLength_cabcc 7 = .ok (.istore_n 3, 1) := by decide +kernel
theorem dJ8_newLength_cabcc_8 : decode cJ8_newLength_cabcc 8 = .ok (.iconst 0, 1) := by decide +kernel
theorem dJ8_newLength_cabcc_9 : decode cJ8_newLength_cabcc 9 = .ok (.iload_n 3, 1) := by decide +kernel
theorem dJ8_newLength_cabcc_10 : decode cJ8_newLength_cabcc 10 = .ok (.if_icmp .ge 11, 3) := by decide +kernel
theorem dJ8_newLength_cabcc_13 : decode cJ8_newLength_cabcc 13 = .ok (.iload_n 3, 1) := by decide +kernel
theorem dJ8_newLength_cabcc_14 : decode cJ8_newLength_cabcc 14 = .ok (.ldc 200, 2) := by decide +kernel
theorem dJ8_newLength_cabcc_16 : decode cJ8_newLength_cabcc 16 = .ok (.if_icmp .gt 5, 3) := by decide +kernel
theorem dJ8_newLength_cabcc_19 : decode cJ8_newLength_cabcc 19 = .ok (.iload_n 3, 1) := by decide +kernel
theorem dJ8_newLength_cabcc_20 : decode cJ8_newLength_cabcc 20 = .ok (.ireturn, 1) := by decide +kernel
theorem dJ8_newLength_cabcc_21 : decode cJ8_newLength_cabcc 21 = .ok (.iload_n 0, 1) := by decide +kernel
theorem dJ8_newLength_cabcc_22 : decode cJ8_newLength_cabcc 22 = .ok (.iload_n 1, 1) := by decide +kernel
theorem dJ8_newLength_cabcc_23 : decode cJ8_newLength_cabcc 23 = .ok (.invokestatic 201, 3) := by decide +kernel
theorem dJ8_newLength_cabcc_26 : decode cJ8_newLength_cabcc 26 = .ok (.ireturn, 1) := by decide +kernel
theorem dJ8_hugeLength_7cf53_0 : decode cJ8_hugeLength_7cf53 0 = .ok (.iload_n 0, 1) := by decide +kernel
theorem dJ8_hugeLength_7cf53_1 : decode cJ8_hugeLength_7cf53 1 = .ok (.iload_n 1, 1) := by decide +kernel
theorem dJ8_hugeLength_7cf53_2 : decode cJ8_hugeLength_7cf53 2 = .ok (.iadd, 1) := by decide +kernel
theorem dJ8_hugeLength_7cf53_3 : decode cJ8_hugeLength_7cf53 3 = .ok (.istore_n 2, 1) := by decide +kernel
theorem dJ8_hugeLength_7cf53_4 : decode cJ8_hugeLength_7cf53 4 = .ok (.iload_n 2, 1) := by decide +kernel
theorem dJ8_hugeLength_7cf53_5 : decode cJ8_hugeLength_7cf53 5 = .ok (.ifCond .ge 44, 3) := by decide +kernel
theorem dJ8_hugeLength_7cf53_8 : decode cJ8_hugeLength_7cf53 8 = .ok (.new 204, 3) := by decide +kernel
theorem dJ8_hugeLength_7cf53_11 : decode cJ8_hugeLength_7cf53 11 = .ok (.dup, 1) := by decide +kernel
theorem dJ8_hugeLength_7cf53_12 : decode cJ8_hugeLength_7cf53 12 = .ok (.new 89, 3) := by decide +kernel
theorem dJ8_hugeLength_7cf53_15 : decode cJ8_hugeLength_7cf53 15 = .ok (.dup, 1) := by decide +kernel
theorem dJ8_hugeLength_7cf53_16 : decode cJ8_hugeLength_7cf53 16 = .ok (.invokespecial 91, 3) := by decide +kernel
theorem dJ8_hugeLength_7cf53_19 : decode cJ8_hugeLength_7cf53 19 = .ok (.ldc 206, 2) := by decide +kernel
theorem dJ8_hugeLength_7cf53_21 : decode cJ8_hugeLength_7cf53 21 = .ok (.invokevirtual 94, 3) := by decide +kernel
theorem dJ8_hugeLength_7cf53_24 : decode cJ8_hugeLength_7cf53 24 = .ok (.iload_n 0, 1) := by decide +kernel
theorem dJ8_hugeLength_7cf53_25 : decode cJ8_hugeLength_7cf53 25 = .ok (.invokevirtual 98, 3) := by decide +kernel
theorem dJ8_hugeLength_7cf53_28 : decode cJ8_hugeLength_7cf53 28 = .ok (.ldc 208, 2) := by decide +kernel
theorem dJ8_hugeLength_7cf53_30 : decode cJ8_hugeLength_7cf53 30 = .ok (.invokevirtual 94, 3) := by decide +kernel
theorem dJ8_hugeLength_7cf53_33 : decode cJ8_hugeLength_7cf53 33 = .ok (.iload_n 1, 1) := by decide +kernel
theorem dJ8_hugeLength_7cf53_34 : decode cJ8_hugeLength_7cf53 34 = .ok (.invokevirtual 98, 3) := by decide +kernel
theorem dJ8_hugeLength_7cf53_37 : decode cJ8_hugeLength_7cf53 37 = .ok (.ldc 210, 2) := by decide +kernel
theorem dJ8_hugeLength_7cf53_39 : decode cJ8_hugeLength_7cf53 39 = .ok (.invokevirtual 94, 3) := by decide +kernel
theorem dJ8_hugeLength_7cf53_42 : decode cJ8_hugeLength_7cf53 42 = .ok (.invokevirtual 101, 3) := by decide +kernel
theorem dJ8_hugeLength_7cf53_45 : decode cJ8_hugeLength_7cf53 45 = .ok (.invokespecial 212, 3) := by decide +kernel
theorem dJ8_hugeLength_7cf53_48 : decode cJ8_hugeLength_7cf53 48 = .ok (.athrow, 1) := by decide +kernel
theorem dJ8_hugeLength_7cf53_49 : decode cJ8_hugeLength_7cf53 49 = .ok (.iload_n 2, 1) := by decide +kernel
theorem dJ8_hugeLength_7cf53_50 : decode cJ8_hugeLength_7cf53 50 = .ok (.ldc 200, 2) := by decide +kernel
theorem dJ8_hugeLength_7cf53_52 : decode cJ8_hugeLength_7cf53 52 = .ok (.if_icmp .gt 6, 3) := by decide +kernel
theorem dJ8_hugeLength_7cf53_55 : decode cJ8_hugeLength_7cf53 55 = .ok (.ldc 200, 2) := by decide +kernel
theorem dJ8_hugeLength_7cf53_57 : decode cJ8_hugeLength_7cf53 57 = .ok (.ireturn, 1) := by decide +kernel
theorem dJ8_hugeLength_7cf53_58 : decode cJ8_hugeLength_7cf53 58 = .ok (.iload_n 2, 1) := by decide +kernel
theorem dJ8_hugeLength_7cf53_59 : decode cJ8_hugeLength_7cf53 59 = .ok (.ireturn, 1) := by decide +kernel
theorem dJ3_checkIndex_8e157_0 : decode cJ3_checkIndex_8e157 0 = .ok (.iload_n 0, 1) := by decide +kernel
theorem dJ3_checkIndex_8e157_1 : decode cJ3_checkIndex_8e157 1 = .ok (.ifCond .lt 8, 3) := by decide +kernel
theorem dJ3_checkIndex_8e157_4 : decode cJ3_checkIndex_8e157 4 = .ok (.iload_n 0, 1) := by decide +kernel
theorem dJ3_checkIndex_8e157_5 : decode cJ3_checkIndex_8e157 5 = .ok (.iload_n 1, 1) := by decide +kernel
theorem dJ3_checkIndex_8e157_6 : decode cJ3_checkIndex_8e157 6 = .ok (.if_icmp .lt 10, 3) := by decide +kernel
theorem dJ3_checkIndex_8e157_9 : decode cJ3_checkIndex_8e157 9 = .ok (.aload_n 2, 1) := by decide +kernel
theorem dJ3_checkIndex_8e157_10 : decode cJ3_checkIndex_8e157 10 = .ok (.iload_n 0, 1) := by decide +kernel
theorem dJ3_checkIndex_8e157_11 : decode cJ3_checkIndex_8e157 11 = .ok (.iload_n 1, 1) := by decide +kernel
theorem dJ3_checkIndex_8e157_12 : decode cJ3_checkIndex_8e157 12 = .ok (.invokestatic 95, 3) := by decide +kernel
theorem dJ3_checkIndex_8e157_15 : decode cJ3_checkIndex_8e157 15 = .ok (.athrow, 1) := by decide +kernel
theorem dJ3_checkIndex_8e157_16 : decode cJ3_checkIndex_8e157 16 = .ok (.iload_n 0, 1) := by decide +kernel
theorem dJ3_checkIndex_8e157_17 : decode cJ3_checkIndex_8e157 17 = .ok (.ireturn, 1) := by decide +kernel
theorem dL_below_0 : decode cL_below 0 = .ok (.iload_n 0, 1) := by decide +kernel
theorem dL_below_1 : decode cL_below 1 = .ok (.ldc 7, 2) := by decide +kernel
theorem dL_below_3 : decode cL_below 3 = .ok (.iand, 1) := by decide +kernel
theorem dL_below_4 : decode cL_below 4 = .ok (.iload_n 1, 1) := by decide +kernel
theorem dL_below_5 : decode cL_below 5 = .ok (.irem, 1) := by decide +kernel
theorem dL_below_6 : decode cL_below 6 = .ok (.ireturn, 1) := by decide +kernel
theorem dL_cell_0 : decode cL_cell 0 = .ok (.iload_n 1, 1) := by decide +kernel
theorem dL_cell_1 : decode cL_cell 1 = .ok (.aload_n 0, 1) := by decide +kernel
theorem dL_cell_2 : decode cL_cell 2 = .ok (.arraylength, 1) := by decide +kernel
theorem dL_cell_3 : decode cL_cell 3 = .ok (.if_icmp .ge 9, 3) := by decide +kernel
theorem dL_cell_6 : decode cL_cell 6 = .ok (.aload_n 0, 1) := by decide +kernel
theorem dL_cell_7 : decode cL_cell 7 = .ok (.iload_n 1, 1) := by decide +kernel
theorem dL_cell_8 : decode cL_cell 8 = .ok (.iaload, 1) := by decide +kernel
theorem dL_cell_9 : decode cL_cell 9 = .ok (.goto 9, 3) := by decide +kernel
theorem dL_cell_12 : decode cL_cell 12 = .ok (.ldc 8, 2) := by decide +kernel
theorem dL_cell_14 : decode cL_cell 14 = .ok (.iload_n 1, 1) := by decide +kernel
theorem dL_cell_15 : decode cL_cell 15 = .ok (.iconst 3, 1) := by decide +kernel
theorem dL_cell_16 : decode cL_cell 16 = .ok (.iadd, 1) := by decide +kernel
theorem dL_cell_17 : decode cL_cell 17 = .ok (.imul, 1) := by decide +kernel
theorem dL_cell_18 : decode cL_cell 18 = .ok (.ireturn, 1) := by decide +kernel
theorem dL_law_0 : decode cL_law 0 = .ok (.new 9, 3) := by decide +kernel
theorem dL_law_3 : decode cL_law 3 = .ok (.dup, 1) := by decide +kernel
theorem dL_law_4 : decode cL_law 4 = .ok (.invokespecial 11, 3) := by decide +kernel
theorem dL_law_7 : decode cL_law 7 = .ok (.astore_n 1, 1) := by decide +kernel
theorem dL_law_8 : decode cL_law 8 = .ok (.iconst 3, 1) := by decide +kernel
theorem dL_law_9 : decode cL_law 9 = .ok (.newarray .int, 2) := by decide +kernel
theorem dL_law_11 : decode cL_law 11 = .ok (.astore_n 2, 1) := by decide +kernel
theorem dL_law_12 : decode cL_law 12 = .ok (.iconst 0, 1) := by decide +kernel
theorem dL_law_13 : decode cL_law 13 = .ok (.istore_n 3, 1) := by decide +kernel
theorem dL_law_14 : decode cL_law 14 = .ok (.iload_n 3, 1) := by decide +kernel
theorem dL_law_15 : decode cL_law 15 = .ok (.iconst 3, 1) := by decide +kernel
theorem dL_law_16 : decode cL_law 16 = .ok (.if_icmp .ge 82, 3) := by decide +kernel
theorem dL_law_19 : decode cL_law 19 = .ok (.aload_n 0, 1) := by decide +kernel
theorem dL_law_20 : decode cL_law 20 = .ok (.iload_n 3, 1) := by decide +kernel
theorem dL_law_21 : decode cL_law 21 = .ok (.invokestatic 12, 3) := by decide +kernel
theorem dL_law_24 : decode cL_law 24 = .ok (.istore 4, 2) := by decide +kernel
theorem dL_law_26 : decode cL_law 26 = .ok (.aload_n 2, 1) := by decide +kernel
theorem dL_law_27 : decode cL_law 27 = .ok (.iload_n 3, 1) := by decide +kernel
theorem dL_law_28 : decode cL_law 28 = .ok (.iconst 4, 1) := by decide +kernel
theorem dL_law_29 : decode cL_law 29 = .ok (.iload 4, 2) := by decide +kernel
theorem dL_law_31 : decode cL_law 31 = .ok (.bipush 13, 2) := by decide +kernel
theorem dL_law_33 : decode cL_law 33 = .ok (.invokestatic 18, 3) := by decide +kernel
theorem dL_law_36 : decode cL_law 36 = .ok (.iadd, 1) := by decide +kernel
theorem dL_law_37 : decode cL_law 37 = .ok (.iastore, 1) := by decide +kernel
theorem dL_law_38 : decode cL_law 38 = .ok (.aload_n 1, 1) := by decide +kernel
theorem dL_law_39 : decode cL_law 39 = .ok (.aload_n 2, 1) := by decide +kernel
theorem dL_law_40 : decode cL_law 40 = .ok (.iload_n 3, 1) := by decide +kernel
theorem dL_law_41 : decode cL_law 41 = .ok (.iaload, 1) := by decide +kernel
theorem dL_law_42 : decode cL_law 42 = .ok (.iconst 1, 1) := by decide +kernel
theorem dL_law_43 : decode cL_law 43 = .ok (.iload 4, 2) := by decide +kernel
theorem dL_law_45 : decode cL_law 45 = .ok (.iconst 2, 1) := by decide +kernel
theorem dL_law_46 : decode cL_law 46 = .ok (.ishr, 1) := by decide +kernel
theorem dL_law_47 : decode cL_law 47 = .ok (.bipush 9, 2) := by decide +kernel
theorem dL_law_49 : decode cL_law 49 = .ok (.invokestatic 18, 3) := by decide +kernel
theorem dL_law_52 : decode cL_law 52 = .ok (.iadd, 1) := by decide +kernel
theorem dL_law_53 : decode cL_law 53 = .ok (.iload 4, 2) := by decide +kernel
theorem dL_law_55 : decode cL_law 55 = .ok (.iconst 4, 1) := by decide +kernel
theorem dL_law_56 : decode cL_law 56 = .ok (.invokestatic 18, 3) := by decide +kernel
theorem dL_law_59 : decode cL_law 59 = .ok (.iload 4, 2) := by decide +kernel
theorem dL_law_61 : decode cL_law 61 = .ok (.iconst 3, 1) := by decide +kernel
theorem dL_law_62 : decode cL_law 62 = .ok (.ishr, 1) := by decide +kernel
theorem dL_law_63 : decode cL_law 63 = .ok (.iconst 3, 1) := by decide +kernel
theorem dL_law_64 : decode cL_law 64 = .ok (.invokestatic 18, 3) := by decide +kernel
theorem dL_law_67 : decode cL_law 67 = .ok (.ifCond .ne 15, 3) := by decide +kernel
theorem dL_law_70 : decode cL_law 70 = .ok (.iconst 3, 1) := by decide +kernel
theorem dL_law_71 : decode cL_law 71 = .ok (.iload 4, 2) := by decide +kernel
theorem dL_law_73 : decode cL_law 73 = .ok (.bipush 9, 2) := by decide +kernel
theorem dL_law_75 : decode cL_law 75 = .ok (.invokestatic 18, 3) := by decide +kernel
theorem dL_law_78 : decode cL_law 78 = .ok (.iadd, 1) := by decide +kernel
theorem dL_law_79 : decode cL_law 79 = .ok (.goto 4, 3) := by decide +kernel
theorem dL_law_82 : decode cL_law 82 = .ok (.iconst 0, 1) := by decide +kernel
theorem dL_law_83 : decode cL_law 83 = .ok (.invokevirtual 22, 3) := by decide +kernel
theorem dL_law_86 : decode cL_law 86 = .ok (.iload_n 3, 1) := by decide +kernel
theorem dL_law_87 : decode cL_law 87 = .ok (.if_icmp .eq 5, 3) := by decide +kernel
theorem dL_law_90 : decode cL_law 90 = .ok (.iconst 0, 1) := by decide +kernel
theorem dL_law_91 : decode cL_law 91 = .ok (.ireturn, 1) := by decide +kernel
theorem dL_law_92 : decode cL_law 92 = .ok (.iinc 3 1, 3) := by decide +kernel
theorem dL_law_95 : decode cL_law 95 = .ok (.goto (-81), 3) := by decide +kernel
theorem dL_law_98 : decode cL_law 98 = .ok (.iconst 3, 1) := by decide +kernel
theorem dL_law_99 : decode cL_law 99 = .ok (.aload_n 0, 1) := by decide +kernel
theorem dL_law_100 : decode cL_law 100 = .ok (.iconst 3, 1) := by decide +kernel
theorem dL_law_101 : decode cL_law 101 = .ok (.invokestatic 12, 3) := by decide +kernel
theorem dL_law_104 : decode cL_law 104 = .ok (.bipush 6, 2) := by decide +kernel
theorem dL_law_106 : decode cL_law 106 = .ok (.invokestatic 18, 3) := by decide +kernel
theorem dL_law_109 : decode cL_law 109 = .ok (.iadd, 1) := by decide +kernel
theorem dL_law_110 : decode cL_law 110 = .ok (.istore_n 3, 1) := by decide +kernel
theorem dL_law_111 : decode cL_law 111 = .ok (.iconst 0, 1) := by decide +kernel
theorem dL_law_112 : decode cL_law 112 = .ok (.istore 4, 2) := by decide +kernel
theorem dL_law_114 : decode cL_law 114 = .ok (.iload 4, 2) := by decide +kernel
theorem dL_law_116 : decode cL_law 116 = .ok (.iload_n 3, 1) := by decide +kernel
theorem dL_law_117 : decode cL_law 117 = .ok (.if_icmp .ge 75, 3) := by decide +kernel
theorem dL_law_120 : decode cL_law 120 = .ok (.aload_n 1, 1) := by decide +kernel
theorem dL_law_121 : decode cL_law 121 = .ok (.aload_n 0, 1) := by decide +kernel
theorem dL_law_122 : decode cL_law 122 = .ok (.iload 4, 2) := by decide +kernel
theorem dL_law_124 : decode cL_law 124 = .ok (.invokestatic 12, 3) := by decide +kernel
theorem dL_law_127 : decode cL_law 127 = .ok (.iconst 4, 1) := by decide +kernel
theorem dL_law_128 : decode cL_law 128 = .ok (.invokestatic 18, 3) := by decide +kernel
theorem dL_law_131 : decode cL_law 131 = .ok (.iconst 1, 1) := by decide +kernel
theorem dL_law_132 : decode cL_law 132 = .ok (.aload_n 0, 1) := by decide +kernel
theorem dL_law_133 : decode cL_law 133 = .ok (.iload 4, 2) := by decide +kernel
theorem dL_law_135 : decode cL_law 135 = .ok (.iconst 1, 1) := by decide +kernel
theorem dL_law_136 : decode cL_law 136 = .ok (.iadd, 1) := by decide +kernel
theorem dL_law_137 : decode cL_law 137 = .ok (.invokestatic 12, 3) := by decide +kernel
theorem dL_law_140 : decode cL_law 140 = .ok (.iconst 2, 1) := by decide +kernel
theorem dL_law_141 : decode cL_law 141 = .ok (.ishr, 1) := by decide +kernel
theorem dL_law_142 : decode cL_law 142 = .ok (.bipush 9, 2) := by decide +kernel
theorem dL_law_144 : decode cL_law 144 = .ok (.invokestatic 18, 3) := by decide +kernel
theorem dL_law_147 : decode cL_law 147 = .ok (.iadd, 1) := by decide +kernel
theorem dL_law_148 : decode cL_law 148 = .ok (.aload_n 0, 1) := by decide +kernel
theorem dL_law_149 : decode cL_law 149 = .ok (.iload 4, 2) := by decide +kernel
theorem dL_law_151 : decode cL_law 151 = .ok (.iconst 2, 1) := by decide +kernel
theorem dL_law_152 : decode cL_law 152 = .ok (.iadd, 1) := by decide +kernel
theorem dL_law_153 : decode cL_law 153 = .ok (.invokestatic 12, 3) := by decide +kernel
theorem dL_law_156 : decode cL_law 156 = .ok (.bipush 10, 2) := by decide +kernel
theorem dL_law_158 : decode cL_law 158 = .ok (.invokestatic 18, 3) := by decide +kernel
theorem dL_law_161 : decode cL_law 161 = .ok (.aload_n 0, 1) := by decide +kernel
theorem dL_law_162 : decode cL_law 162 = .ok (.iload 4, 2) := by decide +kernel
theorem dL_law_164 : decode cL_law 164 = .ok (.iconst 3, 1) := by decide +kernel
theorem dL_law_165 : decode cL_law 165 = .ok (.iadd, 1) := by decide +kernel
theorem dL_law_166 : decode cL_law 166 = .ok (.invokestatic 12, 3) := by decide +kernel
theorem dL_law_169 : decode cL_law 169 = .ok (.iconst 1, 1) := by decide +kernel
theorem dL_law_170 : decode cL_law 170 = .ok (.ishr, 1) := by decide +kernel
theorem dL_law_171 : decode cL_law 171 = .ok (.bipush 10, 2) := by decide +kernel
theorem dL_law_173 : decode cL_law 173 = .ok (.invokestatic 18, 3) := by decide +kernel
theorem dL_law_176 : decode cL_law 176 = .ok (.invokevirtual 26, 3) := by decide +kernel
theorem dL_law_179 : decode cL_law 179 = .ok (.iload 4, 2) := by decide +kernel
theorem dL_law_181 : decode cL_law 181 = .ok (.if_icmp .eq 5, 3) := by decide +kernel
theorem dL_law_184 : decode cL_law 184 = .ok (.iconst 0, 1) := by decide +kernel
theorem dL_law_185 : decode cL_law 185 = .ok (.ireturn, 1) := by decide +kernel
theorem dL_law_186 : decode cL_law 186 = .ok (.iinc 4 1, 3) := by decide +kernel
theorem dL_law_189 : decode cL_law 189 = .ok (.goto (-75), 3) := by decide +kernel
theorem dL_law_192 : decode cL_law 192 = .ok (.iload_n 3, 1) := by decide +kernel
theorem dL_law_193 : decode cL_law 193 = .ok (.newarray .int, 2) := by decide +kernel
theorem dL_law_195 : decode cL_law 195 = .ok (.astore 4, 2) := by decide +kernel
theorem dL_law_197 : decode cL_law 197 = .ok (.iconst 0, 1) := by decide +kernel
theorem dL_law_198 : decode cL_law 198 = .ok (.istore 5, 2) := by decide +kernel
theorem dL_law_200 : decode cL_law 200 = .ok (.iload 5, 2) := by decide +kernel
theorem dL_law_202 : decode cL_law 202 = .ok (.bipush 58, 2) := by decide +kernel
theorem dL_law_204 : decode cL_law 204 = .ok (.if_icmp .ge 697, 3) := by decide +kernel
theorem dL_law_207 : decode cL_law 207 = .ok (.aload_n 0, 1) := by decide +kernel
theorem dL_law_208 : decode cL_law 208 = .ok (.iload 5, 2) := by decide +kernel
theorem dL_law_210 : decode cL_law 210 = .ok (.bipush 16, 2) := by decide +kernel
theorem dL_law_212 : decode cL_law 212 = .ok (.irem, 1) := by decide +kernel
theorem dL_law_213 : decode cL_law 213 = .ok (.invokestatic 12, 3) := by decide +kernel
theorem dL_law_216 : decode cL_law 216 = .ok (.bipush 31, 2) := by decide +kernel
theorem dL_law_218 : decode cL_law 218 = .ok (.iload 5, 2) := by decide +kernel
theorem dL_law_220 : decode cL_law 220 = .ok (.imul, 1) := by decide +kernel
theorem dL_law_221 : decode cL_law 221 = .ok (.iadd, 1) := by decide +kernel
theorem dL_law_222 : decode cL_law 222 = .ok (.istore 6, 2) := by decide +kernel
theorem dL_law_224 : decode cL_law 224 = .ok (.aload_n 0, 1) := by decide +kernel
theorem dL_law_225 : decode cL_law 225 = .ok (.bipush 7, 2) := by decide +kernel
theorem dL_law_227 : decode cL_law 227 = .ok (.iload 5, 2) := by decide +kernel
theorem dL_law_229 : decode cL_law 229 = .ok (.imul, 1) := by decide +kernel
theorem dL_law_230 : decode cL_law 230 = .ok (.iconst 3, 1) := by decide +kernel
theorem dL_law_231 : decode cL_law 231 = .ok (.iadd, 1) := by decide +kernel
theorem dL_law_232 : decode cL_law 232 = .ok (.bipush 16, 2) := by decide +kernel
theorem dL_law_234 : decode cL_law 234 = .ok (.irem, 1) := by decide +kernel
theorem dL_law_235 : decode cL_law 235 = .ok (.invokestatic 12, 3) := by decide +kernel
theorem dL_law_238 : decode cL_law 238 = .ok (.iconst 5, 1) := by decide +kernel
theorem dL_law_239 : decode cL_law 239 = .ok (.iload 5, 2) := by decide +kernel
theorem dL_law_241 : decode cL_law 241 = .ok (.imul, 1) := by decide +kernel
theorem dL_law_242 : decode cL_law 242 = .ok (.iadd, 1) := by decide +kernel
theorem dL_law_243 : decode cL_law 243 = .ok (.istore 7, 2) := by decide +kernel
theorem dL_law_245 : decode cL_law 245 = .ok (.iload 7, 2) := by decide +kernel
theorem dL_law_247 : decode cL_law 247 = .ok (.iload_n 3, 1) := by decide +kernel
theorem dL_law_248 : decode cL_law 248 = .ok (.invokestatic 18, 3) := by decide +kernel
theorem dL_law_251 : decode cL_law 251 = .ok (.istore 8, 2) := by decide +kernel
theorem dL_law_253 : decode cL_law 253 = .ok (.iload 7, 2) := by decide +kernel
theorem dL_law_255 : decode cL_law 255 = .ok (.iconst 2, 1) := by decide +kernel
theorem dL_law_256 : decode cL_law 256 = .ok (.ishr, 1) := by decide +kernel
theorem dL_law_257 : decode cL_law 257 = .ok (.iconst 3, 1) := by decide +kernel
theorem dL_law_258 : decode cL_law 258 = .ok (.invokestatic 18, 3) := by decide +kernel
theorem dL_law_261 : decode cL_law 261 = .ok (.istore 9, 2) := by decide +kernel
theorem dL_law_263 : decode cL_law 263 = .ok (.aload_n 1, 1) := by decide +kernel
theorem dL_law_264 : decode cL_law 264 = .ok (.iconst 3, 1) := by decide +kernel
theorem dL_law_265 : decode cL_law 265 = .ok (.invokevirtual 29, 3) := by decide +kernel
theorem dL_law_268 : decode cL_law 268 = .ok (.istore 10, 2) := by decide +kernel
theorem dL_law_270 : decode cL_law 270 = .ok (.aload_n 1, 1) := by decide +kernel
theorem dL_law_271 : decode cL_law 271 = .ok (.iconst 5, 1) := by decide +kernel
theorem dL_law_272 : decode cL_law 272 = .ok (.invokevirtual 29, 3) := by decide +kernel
theorem dL_law_275 : decode cL_law 275 = .ok (.istore 11, 2) := by decide +kernel
theorem dL_law_277 : decode cL_law 277 = .ok (.iload 6, 2) := by decide +kernel
theorem dL_law_279 : decode cL_law 279 = .ok (.bipush 17, 2) := by decide +kernel
theorem dL_law_281 : decode cL_law 281 = .ok (.invokestatic 18, 3) := by decide +kernel
theorem dL_law_284 : decode cL_law 284 = .ok (.tableswitch 543 0 8 #[52, 112, 146, 161, 233, 366, 408, 443, 443], 52) := by decide +kernel
theorem dL_law_336 : decode cL_law 336 = .ok (.aload_n 1, 1) := by decide +kernel
theorem dL_law_337 : decode cL_law 337 = .ok (.iload 9, 2) := by decide +kernel
theorem dL_law_339 : decode cL_law 339 = .ok (.iload 6, 2) := by decide +kernel
theorem dL_law_341 : decode cL_law 341 = .ok (.iconst 4, 1) := by decide +kernel
theorem dL_law_342 : decode cL_law 342 = .ok (.ishr, 1) := by decide +kernel
theorem dL_law_343 : decode cL_law 343 = .ok (.iconst 4, 1) := by decide +kernel
theorem dL_law_344 : decode cL_law 344 = .ok (.invokestatic 18, 3) := by decide +kernel
theorem dL_law_347 : decode cL_law 347 = .ok (.sipush 400, 3) := by decide +kernel
theorem dL_law_350 : decode cL_law 350 = .ok (.aload_n 1, 1) := by decide +kernel
theorem dL_law_351 : decode cL_law 351 = .ok (.iconst 0, 1) := by decide +kernel
theorem dL_law_352 : decode cL_law 352 = .ok (.invokevirtual 29, 3) := by decide +kernel
theorem dL_law_355 : decode cL_law 355 = .ok (.iload 6, 2) := by decide +kernel
theorem dL_law_357 : decode cL_law 357 = .ok (.bipush 6, 2) := by decide +kernel
theorem dL_law_359 : decode cL_law 359 = .ok (.ishr, 1) := by decide +kernel
theorem dL_law_360 : decode cL_law 360 = .ok (.bipush 9, 2) := by decide +kernel
theorem dL_law_362 : decode cL_law 362 = .ok (.invokestatic 18, 3) := by decide +kernel
theorem dL_law_365 : decode cL_law 365 = .ok (.iadd, 1) := by decide +kernel
theorem dL_law_366 : decode cL_law 366 = .ok (.invokestatic 33, 3) := by decide +kernel
theorem dL_law_369 : decode cL_law 369 = .ok (.invokevirtual 38, 3) := by decide +kernel
theorem dL_law_372 : decode cL_law 372 = .ok (.iconst (-1), 1) := by decide +kernel
theorem dL_law_373 : decode cL_law 373 = .ok (.if_icmp .lt 21, 3) := by decide +kernel
theorem dL_law_376 : decode cL_law 376 = .ok (.aload_n 1, 1) := by decide +kernel
theorem dL_law_377 : decode cL_law 377 = .ok (.iload 9, 2) := by decide +kernel
theorem dL_law_379 : decode cL_law 379 = .ok (.iconst 3, 1) := by decide +kernel
theorem dL_law_380 : decode cL_law 380 = .ok (.invokevirtual 42, 3) := by decide +kernel
theorem dL_law_383 : decode cL_law 383 = .ok (.iload 6, 2) := by decide +kernel
theorem dL_law_385 : decode cL_law 385 = .ok (.iconst 4, 1) := by decide +kernel
theorem dL_law_386 : decode cL_law 386 = .ok (.ishr, 1) := by decide +kernel
theorem dL_law_387 : decode cL_law 387 = .ok (.iconst 4, 1) := by decide +kernel
theorem dL_law_388 : decode cL_law 388 = .ok (.invokestatic 18, 3) := by decide +kernel
theorem dL_law_391 : decode cL_law 391 = .ok (.if_icmp .eq 491, 3) := by decide +kernel
theorem dL_law_394 : decode cL_law 394 = .ok (.iconst 0, 1) := by decide +kernel
theorem dL_law_395 : decode cL_law 395 = .ok (.ireturn, 1) := by decide +kernel
theorem dL_law_396 : decode cL_law 396 = .ok (.aload_n 1, 1) := by decide +kernel
theorem dL_law_397 : decode cL_law 397 = .ok (.iload 9, 2) := by decide +kernel
theorem dL_law_399 : decode cL_law 399 = .ok (.iload 6, 2) := by decide +kernel
theorem dL_law_401 : decode cL_law 401 = .ok (.iconst 2, 1) := by decide +kernel
theorem dL_law_402 : decode cL_law 402 = .ok (.ishr, 1) := by decide +kernel
theorem dL_law_403 : decode cL_law 403 = .ok (.sipush 200, 3) := by decide +kernel
theorem dL_law_406 : decode cL_law 406 = .ok (.invokestatic 18, 3) := by decide +kernel
theorem dL_law_409 : decode cL_law 409 = .ok (.sipush 200, 3) := by decide +kernel
theorem dL_law_412 : decode cL_law 412 = .ok (.iload 7, 2) := by decide +kernel
theorem dL_law_414 : decode cL_law 414 = .ok (.sipush 160, 3) := by decide +kernel
theorem dL_law_417 : decode cL_law 417 = .ok (.invokestatic 18, 3) := by decide +kernel
theorem dL_law_420 : decode cL_law 420 = .ok (.iadd, 1) := by decide +kernel
theorem dL_law_421 : decode cL_law 421 = .ok (.invokevirtual 45, 3) := by decide +kernel
theorem dL_law_424 : decode cL_law 424 = .ok (.iconst 1, 1) := by decide +kernel
theorem dL_law_425 : decode cL_law 425 = .ok (.if_icmp .ge 457, 3) := by decide +kernel
theorem dL_law_428 : decode cL_law 428 = .ok (.iconst 0, 1) := by decide +kernel
theorem dL_law_429 : decode cL_law 429 = .ok (.ireturn, 1) := by decide +kernel
theorem dL_law_430 : decode cL_law 430 = .ok (.aload_n 1, 1) := by decide +kernel
theorem dL_law_431 : decode cL_law 431 = .ok (.iload 9, 2) := by decide +kernel
theorem dL_law_433 : decode cL_law 433 = .ok (.aload_n 2, 1) := by decide +kernel
theorem dL_law_434 : decode cL_law 434 = .ok (.iload 9, 2) := by decide +kernel
theorem dL_law_436 : decode cL_law 436 = .ok (.iaload, 1) := by decide +kernel
theorem dL_law_437 : decode cL_law 437 = .ok (.invokestatic 48, 3) := by decide +kernel
theorem dL_law_440 : decode cL_law 440 = .ok (.ifCond .ne 442, 3) := by decide +kernel
theorem dL_law_443 : decode cL_law 443 = .ok (.iconst 0, 1) := by decide +kernel
theorem dL_law_444 : decode cL_law 444 = .ok (.ireturn, 1) := by decide +kernel
theorem dL_law_445 : decode cL_law 445 = .ok (.aload_n 1, 1) := by decide +kernel
theorem dL_law_446 : decode cL_law 446 = .ok (.bipush 9, 2) := by decide +kernel
theorem dL_law_448 : decode cL_law 448 = .ok (.invokevirtual 29, 3) := by decide +kernel
theorem dL_law_451 : decode cL_law 451 = .ok (.istore 12, 2) := by decide +kernel
theorem dL_law_453 : decode cL_law 453 = .ok (.iload 7, 2) := by decide +kernel
theorem dL_law_455 : decode cL_law 455 = .ok (.iconst 5, 1) := by decide +kernel
theorem dL_law_456 : decode cL_law 456 = .ok (.ishr, 1) := by decide +kernel
theorem dL_law_457 : decode cL_law 457 = .ok (.iconst 3, 1) := by decide +kernel
theorem dL_law_458 : decode cL_law 458 = .ok (.invokestatic 18, 3) := by decide +kernel
theorem dL_law_461 : decode cL_law 461 = .ok (.ifCond .le 7, 3) := by decide +kernel
theorem dL_law_464 : decode cL_law 464 = .ok (.iconst 0, 1) := by decide +kernel
theorem dL_law_465 : decode cL_law 465 = .ok (.goto 9, 3) := by decide +kernel
theorem dL_law_468 : decode cL_law 468 = .ok (.aload_n 1, 1) := by decide +kernel
theorem dL_law_469 : decode cL_law 469 = .ok (.iload 9, 2) := by decide +kernel
theorem dL_law_471 : decode cL_law 471 = .ok (.invokevirtual 52, 3) := by decide +kernel
theorem dL_law_474 : decode cL_law 474 = .ok (.istore 13, 2) := by decide +kernel
theorem dL_law_476 : decode cL_law 476 = .ok (.aload_n 1, 1) := by decide +kernel
theorem dL_law_477 : decode cL_law 477 = .ok (.bipush 9, 2) := by decide +kernel
theorem dL_law_479 : decode cL_law 479 = .ok (.invokevirtual 29, 3) := by decide +kernel
theorem dL_law_482 : decode cL_law 482 = .ok (.iload 12, 2) := by decide +kernel
theorem dL_law_484 : decode cL_law 484 = .ok (.iload 13, 2) := by decide +kernel
theorem dL_law_486 : decode cL_law 486 = .ok (.iadd, 1) := by decide +kernel
theorem dL_law_487 : decode cL_law 487 = .ok (.if_icmp .ne 28, 3) := by decide +kernel
theorem dL_law_490 : decode cL_law 490 = .ok (.iload 13, 2) := by decide +kernel
theorem dL_law_492 : decode cL_law 492 = .ok (.ifCond .le 13, 3) := by decide +kernel
theorem dL_law_495 : decode cL_law 495 = .ok (.aload_n 1, 1) := by decide +kernel
theorem dL_law_496 : decode cL_law 496 = .ok (.iload 9, 2) := by decide +kernel
theorem dL_law_498 : decode cL_law 498 = .ok (.iconst 4, 1) := by decide +kernel
theorem dL_law_499 : decode cL_law 499 = .ok (.invokevirtual 42, 3) := by decide +kernel
theorem dL_law_502 : decode cL_law 502 = .ok (.ifCond .ne 13, 3) := by decide +kernel
theorem dL_law_505 : decode cL_law 505 = .ok (.aload_n 1, 1) := by decide +kernel
theorem dL_law_506 : decode cL_law 506 = .ok (.iconst 5, 1) := by decide +kernel
theorem dL_law_507 : decode cL_law 507 = .ok (.invokevirtual 29, 3) := by decide +kernel
theorem dL_law_510 : decode cL_law 510 = .ok (.iload 11, 2) := by decide +kernel
theorem dL_law_512 : decode cL_law 512 = .ok (.if_icmp .eq 370, 3) := by decide +kernel
theorem dL_law_515 : decode cL_law 515 = .ok (.iconst 0, 1) := by decide +kernel
theorem dL_law_516 : decode cL_law 516 = .ok (.ireturn, 1) := by decide +kernel
theorem dL_law_517 : decode cL_law 517 = .ok (.iload 10, 2) := by decide +kernel
theorem dL_law_519 : decode cL_law 519 = .ok (.ifCond .eq 363, 3) := by decide +kernel
theorem dL_law_522 : decode cL_law 522 = .ok (.aload_n 1, 1) := by decide +kernel
theorem dL_law_523 : decode cL_law 523 = .ok (.iload 6, 2) := by decide +kernel
theorem dL_law_525 : decode cL_law 525 = .ok (.iconst 4, 1) := by decide +kernel
theorem dL_law_526 : decode cL_law 526 = .ok (.ishr, 1) := by decide +kernel
theorem dL_law_527 : decode cL_law 527 = .ok (.iload 10, 2) := by decide +kernel
theorem dL_law_529 : decode cL_law 529 = .ok (.invokestatic 18, 3) := by decide +kernel
theorem dL_law_532 : decode cL_law 532 = .ok (.bipush 9, 2) := by decide +kernel
theorem dL_law_534 : decode cL_law 534 = .ok (.invokevirtual 55, 3) := by decide +kernel
theorem dL_law_537 : decode cL_law 537 = .ok (.ifCond .ne 6, 3) := by decide +kernel
theorem dL_law_540 : decode cL_law 540 = .ok (.goto 342, 3) := by decide +kernel
theorem dL_law_543 : decode cL_law 543 = .ok (.iload 6, 2) := by decide +kernel
theorem dL_law_545 : decode cL_law 545 = .ok (.iconst 4, 1) := by decide +kernel
theorem dL_law_546 : decode cL_law 546 = .ok (.ishr, 1) := by decide +kernel
theorem dL_law_547 : decode cL_law 547 = .ok (.iload 10, 2) := by decide +kernel
theorem dL_law_549 : decode cL_law 549 = .ok (.invokestatic 18, 3) := by decide +kernel
theorem dL_law_552 : decode cL_law 552 = .ok (.istore 14, 2) := by decide +kernel
theorem dL_law_554 : decode cL_law 554 = .ok (.aload_n 1, 1) := by decide +kernel
theorem dL_law_555 : decode cL_law 555 = .ok (.iload 14, 2) := by decide +kernel
theorem dL_law_557 : decode cL_law 557 = .ok (.bipush 12, 2) := by decide +kernel
theorem dL_law_559 : decode cL_law 559 = .ok (.invokevirtual 55, 3) := by decide +kernel
theorem dL_law_562 : decode cL_law 562 = .ok (.istore 15, 2) := by decide +kernel
theorem dL_law_564 : decode cL_law 564 = .ok (.aload_n 1, 1) := by decide +kernel
theorem dL_law_565 : decode cL_law 565 = .ok (.bipush 10, 2) := by decide +kernel
theorem dL_law_567 : decode cL_law 567 = .ok (.invokevirtual 29, 3) := by decide +kernel
theorem dL_law_570 : decode cL_law 570 = .ok (.istore 16, 2) := by decide +kernel
theorem dL_law_572 : decode cL_law 572 = .ok (.aload_n 1, 1) := by decide +kernel
theorem dL_law_573 : decode cL_law 573 = .ok (.aload_n 1, 1) := by decide +kernel
theorem dL_law_574 : decode cL_law 574 = .ok (.iload 14, 2) := by decide +kernel
theorem dL_law_576 : decode cL_law 576 = .ok (.iconst 1, 1) := by decide +kernel
theorem dL_law_577 : decode cL_law 577 = .ok (.invokevirtual 55, 3) := by decide +kernel
theorem dL_law_580 : decode cL_law 580 = .ok (.iconst 4, 1) := by decide +kernel
theorem dL_law_581 : decode cL_law 581 = .ok (.invokevirtual 42, 3) := by decide +kernel
theorem dL_law_584 : decode cL_law 584 = .ok (.aload_n 1, 1) := by decide +kernel
theorem dL_law_585 : decode cL_law 585 = .ok (.iload 14, 2) := by decide +kernel
theorem dL_law_587 : decode cL_law 587 = .ok (.bipush 9, 2) := by decide +kernel
theorem dL_law_589 : decode cL_law 589 = .ok (.invokevirtual 55, 3) := by decide +kernel
theorem dL_law_592 : decode cL_law 592 = .ok (.isub, 1) := by decide +kernel
theorem dL_law_593 : decode cL_law 593 = .ok (.istore 17, 2) := by decide +kernel
theorem dL_law_595 : decode cL_law 595 = .ok (.aload_n 1, 1) := by decide +kernel
theorem dL_law_596 : decode cL_law 596 = .ok (.iload 14, 2) := by decide +kernel
theorem dL_law_598 : decode cL_law 598 = .ok (.invokevirtual 58, 3) := by decide +kernel
theorem dL_law_601 : decode cL_law 601 = .ok (.iload 15, 2) := by decide +kernel
theorem dL_law_603 : decode cL_law 603 = .ok (.if_icmp .ne 45, 3) := by decide +kernel
theorem dL_law_606 : decode cL_law 606 = .ok (.aload_n 1, 1) := by decide +kernel
theorem dL_law_607 : decode cL_law 607 = .ok (.bipush 10, 2) := by decide +kernel
theorem dL_law_609 : decode cL_law 609 = .ok (.invokevirtual 29, 3) := by decide +kernel
theorem dL_law_612 : decode cL_law 612 = .ok (.iload 16, 2) := by decide +kernel
theorem dL_law_614 : decode cL_law 614 = .ok (.iload 15, 2) := by decide +kernel
theorem dL_law_616 : decode cL_law 616 = .ok (.iadd, 1) := by decide +kernel
theorem dL_law_617 : decode cL_law 617 = .ok (.if_icmp .ne 31, 3) := by decide +kernel
theorem dL_law_620 : decode cL_law 620 = .ok (.aload_n 1, 1) := by decide +kernel
theorem dL_law_621 : decode cL_law 621 = .ok (.iload 14, 2) := by decide +kernel
theorem dL_law_623 : decode cL_law 623 = .ok (.bipush 9, 2) := by decide +kernel
theorem dL_law_625 : decode cL_law 625 = .ok (.invokevirtual 55, 3) := by decide +kernel
theorem dL_law_628 : decode cL_law 628 = .ok (.ifCond .ne 20, 3) := by decide +kernel
theorem dL_law_631 : decode cL_law 631 = .ok (.aload_n 1, 1) := by decide +kernel
theorem dL_law_632 : decode cL_law 632 = .ok (.aload_n 1, 1) := by decide +kernel
theorem dL_law_633 : decode cL_law 633 = .ok (.iload 14, 2) := by decide +kernel
theorem dL_law_635 : decode cL_law 635 = .ok (.iconst 1, 1) := by decide +kernel
theorem dL_law_636 : decode cL_law 636 = .ok (.invokevirtual 55, 3) := by decide +kernel
theorem dL_law_639 : decode cL_law 639 = .ok (.iconst 4, 1) := by decide +kernel
theorem dL_law_640 : decode cL_law 640 = .ok (.invokevirtual 42, 3) := by decide +kernel
theorem dL_law_643 : decode cL_law 643 = .ok (.iload 17, 2) := by decide +kernel
theorem dL_law_645 : decode cL_law 645 = .ok (.if_icmp .eq 237, 3) := by decide +kernel
theorem dL_law_648 : decode cL_law 648 = .ok (.iconst 0, 1) := by decide +kernel
theorem dL_law_649 : decode cL_law 649 = .ok (.ireturn, 1) := by decide +kernel
theorem dL_law_650 : decode cL_law 650 = .ok (.iload 10, 2) := by decide +kernel
theorem dL_law_652 : decode cL_law 652 = .ok (.ifCond .le 230, 3) := by decide +kernel
theorem dL_law_655 : decode cL_law 655 = .ok (.aload_n 1, 1) := by decide +kernel
theorem dL_law_656 : decode cL_law 656 = .ok (.iload 6, 2) := by decide +kernel
theorem dL_law_658 : decode cL_law 658 = .ok (.iconst 4, 1) := by decide +kernel
theorem dL_law_659 : decode cL_law 659 = .ok (.ishr, 1) := by decide +kernel
theorem dL_law_660 : decode cL_law 660 = .ok (.iload 10, 2) := by decide +kernel
theorem dL_law_662 : decode cL_law 662 = .ok (.invokestatic 18, 3) := by decide +kernel
theorem dL_law_665 : decode cL_law 665 = .ok (.invokevirtual 61, 3) := by decide +kernel
theorem dL_law_668 : decode cL_law 668 = .ok (.ifCond .eq 214, 3) := by decide +kernel
theorem dL_law_671 : decode cL_law 671 = .ok (.aload_n 1, 1) := by decide +kernel
theorem dL_law_672 : decode cL_law 672 = .ok (.iload 6, 2) := by decide +kernel
theorem dL_law_674 : decode cL_law 674 = .ok (.iconst 4, 1) := by decide +kernel
theorem dL_law_675 : decode cL_law 675 = .ok (.ishr, 1) := by decide +kernel
theorem dL_law_676 : decode cL_law 676 = .ok (.iload 10, 2) := by decide +kernel
theorem dL_law_678 : decode cL_law 678 = .ok (.invokestatic 18, 3) := by decide +kernel
theorem dL_law_681 : decode cL_law 681 = .ok (.bipush 8, 2) := by decide +kernel
theorem dL_law_683 : decode cL_law 683 = .ok (.invokevirtual 55, 3) := by decide +kernel
theorem dL_law_686 : decode cL_law 686 = .ok (.iconst 1, 1) := by decide +kernel
theorem dL_law_687 : decode cL_law 687 = .ok (.if_icmp .eq 195, 3) := by decide +kernel
theorem dL_law_690 : decode cL_law 690 = .ok (.iconst 0, 1) := by decide +kernel
theorem dL_law_691 : decode cL_law 691 = .ok (.ireturn, 1) := by decide +kernel
theorem dL_law_692 : decode cL_law 692 = .ok (.aload_n 1, 1) := by decide +kernel
theorem dL_law_693 : decode cL_law 693 = .ok (.iload 8, 2) := by decide +kernel
theorem dL_law_695 : decode cL_law 695 = .ok (.invokevirtual 65, 3) := by decide +kernel
theorem dL_law_698 : decode cL_law 698 = .ok (.aload 4, 2) := by decide +kernel
theorem dL_law_700 : decode cL_law 700 = .ok (.iload 8, 2) := by decide +kernel
theorem dL_law_702 : decode cL_law 702 = .ok (.iaload, 1) := by decide +kernel
theorem dL_law_703 : decode cL_law 703 = .ok (.if_icmp .ne 13, 3) := by decide +kernel
theorem dL_law_706 : decode cL_law 706 = .ok (.aload_n 1, 1) := by decide +kernel
theorem dL_law_707 : decode cL_law 707 = .ok (.iload 8, 2) := by decide +kernel
theorem dL_law_709 : decode cL_law 709 = .ok (.iconst 2, 1) := by decide +kernel
theorem dL_law_710 : decode cL_law 710 = .ok (.invokevirtual 68, 3) := by decide +kernel
theorem dL_law_713 : decode cL_law 713 = .ok (.ifCond .eq 5, 3) := by decide +kernel
theorem dL_law_716 : decode cL_law 716 = .ok (.iconst 0, 1) := by decide +kernel
theorem dL_law_717 : decode cL_law 717 = .ok (.ireturn, 1) := by decide +kernel
theorem dL_law_718 : decode cL_law 718 = .ok (.aload 4, 2) := by decide +kernel
theorem dL_law_720 : decode cL_law 720 = .ok (.iload 8, 2) := by decide +kernel
theorem dL_law_722 : decode cL_law 722 = .ok (.iconst 0, 1) := by decide +kernel
theorem dL_law_723 : decode cL_law 723 = .ok (.iastore, 1) := by decide +kernel
theorem dL_law_724 : decode cL_law 724 = .ok (.goto 158, 3) := by decide +kernel
theorem dL_law_727 : decode cL_law 727 = .ok (.iconst 1, 1) := by decide +kernel
theorem dL_law_728 : decode cL_law 728 = .ok (.iload 6, 2) := by decide +kernel
theorem dL_law_730 : decode cL_law 730 = .ok (.iconst 4, 1) := by decide +kernel
theorem dL_law_731 : decode cL_law 731 = .ok (.ishr, 1) := by decide +kernel
theorem dL_law_732 : decode cL_law 732 = .ok (.iconst 4, 1) := by decide +kernel
theorem dL_law_733 : decode cL_law 733 = .ok (.invokestatic 18, 3) := by decide +kernel
theorem dL_law_736 : decode cL_law 736 = .ok (.iadd, 1) := by decide +kernel
theorem dL_law_737 : decode cL_law 737 = .ok (.istore 18, 2) := by decide +kernel
theorem dL_law_739 : decode cL_law 739 = .ok (.aload_n 1, 1) := by decide +kernel
theorem dL_law_740 : decode cL_law 740 = .ok (.iconst 0, 1) := by decide +kernel
theorem dL_law_741 : decode cL_law 741 = .ok (.iconst 4, 1) := by decide +kernel
theorem dL_law_742 : decode cL_law 742 = .ok (.invokevirtual 42, 3) := by decide +kernel
theorem dL_law_745 : decode cL_law 745 = .ok (.aload_n 1, 1) := by decide +kernel
theorem dL_law_746 : decode cL_law 746 = .ok (.iconst 1, 1) := by decide +kernel
theorem dL_law_747 : decode cL_law 747 = .ok (.iconst 4, 1) := by decide +kernel
theorem dL_law_748 : decode cL_law 748 = .ok (.invokevirtual 42, 3) := by decide +kernel
theorem dL_law_751 : decode cL_law 751 = .ok (.iadd, 1) := by decide +kernel
theorem dL_law_752 : decode cL_law 752 = .ok (.aload_n 1, 1) := by decide +kernel
theorem dL_law_753 : decode cL_law 753 = .ok (.iconst 2, 1) := by decide +kernel
theorem dL_law_754 : decode cL_law 754 = .ok (.iconst 4, 1) := by decide +kernel
theorem dL_law_755 : decode cL_law 755 = .ok (.invokevirtual 42, 3) := by decide +kernel
theorem dL_law_758 : decode cL_law 758 = .ok (.iadd, 1) := by decide +kernel
theorem dL_law_759 : decode cL_law 759 = .ok (.istore 19, 2) := by decide +kernel
theorem dL_law_761 : decode cL_law 761 = .ok (.aload_n 1, 1) := by decide +kernel
theorem dL_law_762 : decode cL_law 762 = .ok (.iload 18, 2) := by decide +kernel
theorem dL_law_764 : decode cL_law 764 = .ok (.invokevirtual 71, 3) := by decide +kernel
theorem dL_law_767 : decode cL_law 767 = .ok (.istore 20, 2) := by decide +kernel
theorem dL_law_769 : decode cL_law 769 = .ok (.aload_n 1, 1) := by decide +kernel
theorem dL_law_770 : decode cL_law 770 = .ok (.iconst 5, 1) := by decide +kernel
theorem dL_law_771 : decode cL_law 771 = .ok (.invokevirtual 29, 3) := by decide +kernel
theorem dL_law_774 : decode cL_law 774 = .ok (.iload 11, 2) := by decide +kernel
theorem dL_law_776 : decode cL_law 776 = .ok (.iconst 5, 1) := by decide +kernel
theorem dL_law_777 : decode cL_law 777 = .ok (.iload 18, 2) := by decide +kernel
theorem dL_law_779 : decode cL_law 779 = .ok (.imul, 1) := by decide +kernel
theorem dL_law_780 : decode cL_law 780 = .ok (.iadd, 1) := by decide +kernel
theorem dL_law_781 : decode cL_law 781 = .ok (.if_icmp .ne 44, 3) := by decide +kernel
theorem dL_law_784 : decode cL_law 784 = .ok (.aload_n 1, 1) := by decide +kernel
theorem dL_law_785 : decode cL_law 785 = .ok (.iconst 0, 1) := by decide +kernel
theorem dL_law_786 : decode cL_law 786 = .ok (.iconst 4, 1) := by decide +kernel
theorem dL_law_787 : decode cL_law 787 = .ok (.invokevirtual 42, 3) := by decide +kernel
theorem dL_law_790 : decode cL_law 790 = .ok (.aload_n 1, 1) := by decide +kernel
theorem dL_law_791 : decode cL_law 791 = .ok (.iconst 1, 1) := by decide +kernel
theorem dL_law_792 : decode cL_law 792 = .ok (.iconst 4, 1) := by decide +kernel
theorem dL_law_793 : decode cL_law 793 = .ok (.invokevirtual 42, 3) := by decide +kernel
theorem dL_law_796 : decode cL_law 796 = .ok (.iadd, 1) := by decide +kernel
theorem dL_law_797 : decode cL_law 797 = .ok (.aload_n 1, 1) := by decide +kernel
theorem dL_law_798 : decode cL_law 798 = .ok (.iconst 2, 1) := by decide +kernel
theorem dL_law_799 : decode cL_law 799 = .ok (.iconst 4, 1) := by decide +kernel
theorem dL_law_800 : decode cL_law 800 = .ok (.invokevirtual 42, 3) := by decide +kernel
theorem dL_law_803 : decode cL_law 803 = .ok (.iadd, 1) := by decide +kernel
theorem dL_law_804 : decode cL_law 804 = .ok (.iload 19, 2) := by decide +kernel
theorem dL_law_806 : decode cL_law 806 = .ok (.iload 20, 2) := by decide +kernel
theorem dL_law_808 : decode cL_law 808 = .ok (.isub, 1) := by decide +kernel
theorem dL_law_809 : decode cL_law 809 = .ok (.if_icmp .ne 16, 3) := by decide +kernel
theorem dL_law_812 : decode cL_law 812 = .ok (.aload_n 1, 1) := by decide +kernel
theorem dL_law_813 : decode cL_law 813 = .ok (.iload 8, 2) := by decide +kernel
theorem dL_law_815 : decode cL_law 815 = .ok (.iconst 1, 1) := by decide +kernel
theorem dL_law_816 : decode cL_law 816 = .ok (.invokevirtual 68, 3) := by decide +kernel
theorem dL_law_819 : decode cL_law 819 = .ok (.sipush 360, 3) := by decide +kernel
theorem dL_law_822 : decode cL_law 822 = .ok (.if_icmp .eq 60, 3) := by decide +kernel
theorem dL_law_825 : decode cL_law 825 = .ok (.iconst 0, 1) := by decide +kernel
theorem dL_law_826 : decode cL_law 826 = .ok (.ireturn, 1) := by decide +kernel
theorem dL_law_827 : decode cL_law 827 = .ok (.iconst 1, 1) := by decide +kernel
theorem dL_law_828 : decode cL_law 828 = .ok (.iload 6, 2) := by decide +kernel
theorem dL_law_830 : decode cL_law 830 = .ok (.iconst 4, 1) := by decide +kernel
theorem dL_law_831 : decode cL_law 831 = .ok (.ishr, 1) := by decide +kernel
theorem dL_law_832 : decode cL_law 832 = .ok (.iconst 4, 1) := by decide +kernel
theorem dL_law_833 : decode cL_law 833 = .ok (.invokestatic 18, 3) := by decide +kernel
theorem dL_law_836 : decode cL_law 836 = .ok (.iadd, 1) := by decide +kernel
theorem dL_law_837 : decode cL_law 837 = .ok (.istore 21, 2) := by decide +kernel
theorem dL_law_839 : decode cL_law 839 = .ok (.aload_n 1, 1) := by decide +kernel
theorem dL_law_840 : decode cL_law 840 = .ok (.iload 8, 2) := by decide +kernel
theorem dL_law_842 : decode cL_law 842 = .ok (.iload 9, 2) := by decide +kernel
theorem dL_law_844 : decode cL_law 844 = .ok (.iload 6, 2) := by decide +kernel
theorem dL_law_846 : decode cL_law 846 = .ok (.iconst 5, 1) := by decide +kernel
theorem dL_law_847 : decode cL_law 847 = .ok (.ishr, 1) := by decide +kernel
theorem dL_law_848 : decode cL_law 848 = .ok (.aload_n 2, 1) := by decide +kernel
theorem dL_law_849 : decode cL_law 849 = .ok (.iload 9, 2) := by decide +kernel
theorem dL_law_851 : decode cL_law 851 = .ok (.iaload, 1) := by decide +kernel
theorem dL_law_852 : decode cL_law 852 = .ok (.iload 21, 2) := by decide +kernel
theorem dL_law_854 : decode cL_law 854 = .ok (.isub, 1) := by decide +kernel
theorem dL_law_855 : decode cL_law 855 = .ok (.iconst 1, 1) := by decide +kernel
theorem dL_law_856 : decode cL_law 856 = .ok (.iadd, 1) := by decide +kernel
theorem dL_law_857 : decode cL_law 857 = .ok (.invokestatic 18, 3) := by decide +kernel
theorem dL_law_860 : decode cL_law 860 = .ok (.iload 21, 2) := by decide +kernel
theorem dL_law_862 : decode cL_law 862 = .ok (.iload 6, 2) := by decide +kernel
theorem dL_law_864 : decode cL_law 864 = .ok (.bipush 6, 2) := by decide +kernel
theorem dL_law_866 : decode cL_law 866 = .ok (.ishr, 1) := by decide +kernel
theorem dL_law_867 : decode cL_law 867 = .ok (.iconst 4, 1) := by decide +kernel
theorem dL_law_868 : decode cL_law 868 = .ok (.invokestatic 18, 3) := by decide +kernel
theorem dL_law_871 : decode cL_law 871 = .ok (.aload 4, 2) := by decide +kernel
theorem dL_law_873 : decode cL_law 873 = .ok (.iload_n 3, 1) := by decide +kernel
theorem dL_law_874 : decode cL_law 874 = .ok (.invokestatic 74, 3) := by decide +kernel
theorem dL_law_877 : decode cL_law 877 = .ok (.ifCond .ne 5, 3) := by decide +kernel
theorem dL_law_880 : decode cL_law 880 = .ok (.iconst 0, 1) := by decide +kernel
theorem dL_law_881 : decode cL_law 881 = .ok (.ireturn, 1) := by decide +kernel
theorem dL_law_882 : decode cL_law 882 = .ok (.aload_n 1, 1) := by decide +kernel
theorem dL_law_883 : decode cL_law 883 = .ok (.aload_n 2, 1) := by decide +kernel
theorem dL_law_884 : decode cL_law 884 = .ok (.iload_n 3, 1) := by decide +kernel
theorem dL_law_885 : decode cL_law 885 = .ok (.aload 4, 2) := by decide +kernel
theorem dL_law_887 : decode cL_law 887 = .ok (.invokestatic 78, 3) := by decide +kernel
theorem dL_law_890 : decode cL_law 890 = .ok (.ifCond .ne 5, 3) := by decide +kernel
theorem dL_law_893 : decode cL_law 893 = .ok (.iconst 0, 1) := by decide +kernel
theorem dL_law_894 : decode cL_law 894 = .ok (.ireturn, 1) := by decide +kernel
theorem dL_law_895 : decode cL_law 895 = .ok (.iinc 5 1, 3) := by decide +kernel
theorem dL_law_898 : decode cL_law 898 = .ok (.goto (-698), 3) := by decide +kernel
theorem dL_law_901 : decode cL_law 901 = .ok (.aload_n 1, 1) := by decide +kernel
theorem dL_law_902 : decode cL_law 902 = .ok (.invokevirtual 82, 3) := by decide +kernel
theorem dL_law_905 : decode cL_law 905 = .ok (.lstore 5, 2) := by decide +kernel
theorem dL_law_907 : decode cL_law 907 = .ok (.aload_n 1, 1) := by decide +kernel
theorem dL_law_908 : decode cL_law 908 = .ok (.iconst 0, 1) := by decide +kernel
theorem dL_law_909 : decode cL_law 909 = .ok (.iconst 0, 1) := by decide +kernel
theorem dL_law_910 : decode cL_law 910 = .ok (.iconst 3, 1) := by decide +kernel
theorem dL_law_911 : decode cL_law 911 = .ok (.iconst 1, 1) := by decide +kernel
theorem dL_law_912 : decode cL_law 912 = .ok (.invokevirtual 86, 3) := by decide +kernel
theorem dL_law_915 : decode cL_law 915 = .ok (.istore 7, 2) := by decide +kernel
theorem dL_law_917 : decode cL_law 917 = .ok (.iconst 0, 1) := by decide +kernel
theorem dL_law_918 : decode cL_law 918 = .ok (.istore 8, 2) := by decide +kernel
theorem dL_law_920 : decode cL_law 920 = .ok (.iload 8, 2) := by decide +kernel
theorem dL_law_922 : decode cL_law 922 = .ok (.iconst 3, 1) := by decide +kernel
theorem dL_law_923 : decode cL_law 923 = .ok (.iadd, 1) := by decide +kernel
theorem dL_law_924 : decode cL_law 924 = .ok (.aload_n 2, 1) := by decide +kernel
theorem dL_law_925 : decode cL_law 925 = .ok (.iconst 0, 1) := by decide +kernel
theorem dL_law_926 : decode cL_law 926 = .ok (.iaload, 1) := by decide +kernel
theorem dL_law_927 : decode cL_law 927 = .ok (.if_icmp .gt 34, 3) := by decide +kernel
theorem dL_law_930 : decode cL_law 930 = .ok (.aload_n 1, 1) := by decide +kernel
theorem dL_law_931 : decode cL_law 931 = .ok (.iconst 0, 1) := by decide +kernel
theorem dL_law_932 : decode cL_law 932 = .ok (.iconst 0, 1) := by decide +kernel
theorem dL_law_933 : decode cL_law 933 = .ok (.iload 8, 2) := by decide +kernel
theorem dL_law_935 : decode cL_law 935 = .ok (.iconst 3, 1) := by decide +kernel
theorem dL_law_936 : decode cL_law 936 = .ok (.iconst 1, 1) := by decide +kernel
theorem dL_law_937 : decode cL_law 937 = .ok (.invokevirtual 89, 3) := by decide +kernel
theorem dL_law_940 : decode cL_law 940 = .ok (.aload_n 1, 1) := by decide +kernel
theorem dL_law_941 : decode cL_law 941 = .ok (.iconst 0, 1) := by decide +kernel
theorem dL_law_942 : decode cL_law 942 = .ok (.iconst 0, 1) := by decide +kernel
theorem dL_law_943 : decode cL_law 943 = .ok (.iload 7, 2) := by decide +kernel
theorem dL_law_945 : decode cL_law 945 = .ok (.iconst 3, 1) := by decide +kernel
theorem dL_law_946 : decode cL_law 946 = .ok (.iconst 1, 1) := by decide +kernel
theorem dL_law_947 : decode cL_law 947 = .ok (.invokevirtual 89, 3) := by decide +kernel
theorem dL_law_950 : decode cL_law 950 = .ok (.if_icmp .ge 5, 3) := by decide +kernel
theorem dL_law_953 : decode cL_law 953 = .ok (.iconst 0, 1) := by decide +kernel
theorem dL_law_954 : decode cL_law 954 = .ok (.ireturn, 1) := by decide +kernel
theorem dL_law_955 : decode cL_law 955 = .ok (.iinc 8 1, 3) := by decide +kernel
theorem dL_law_958 : decode cL_law 958 = .ok (.goto (-38), 3) := by decide +kernel
theorem dL_law_961 : decode cL_law 961 = .ok (.aload_n 1, 1) := by decide +kernel
theorem dL_law_962 : decode cL_law 962 = .ok (.invokevirtual 93, 3) := by decide +kernel
theorem dL_law_965 : decode cL_law 965 = .ok (.istore 8, 2) := by decide +kernel
theorem dL_law_967 : decode cL_law 967 = .ok (.iconst 0, 1) := by decide +kernel
theorem dL_law_968 : decode cL_law 968 = .ok (.istore 9, 2) := by decide +kernel
theorem dL_law_970 : decode cL_law 970 = .ok (.iload 9, 2) := by decide +kernel
theorem dL_law_972 : decode cL_law 972 = .ok (.iconst 3, 1) := by decide +kernel
theorem dL_law_973 : decode cL_law 973 = .ok (.if_icmp .ge 56, 3) := by decide +kernel
theorem dL_law_976 : decode cL_law 976 = .ok (.iload 8, 2) := by decide +kernel
theorem dL_law_978 : decode cL_law 978 = .ok (.ifCond .lt 45, 3) := by decide +kernel
theorem dL_law_981 : decode cL_law 981 = .ok (.aload_n 1, 1) := by decide +kernel
theorem dL_law_982 : decode cL_law 982 = .ok (.iload 9, 2) := by decide +kernel
theorem dL_law_984 : decode cL_law 984 = .ok (.iconst 5, 1) := by decide +kernel
theorem dL_law_985 : decode cL_law 985 = .ok (.invokevirtual 42, 3) := by decide +kernel
theorem dL_law_988 : decode cL_law 988 = .ok (.aload_n 1, 1) := by decide +kernel
theorem dL_law_989 : decode cL_law 989 = .ok (.iload 8, 2) := by decide +kernel
theorem dL_law_991 : decode cL_law 991 = .ok (.iconst 5, 1) := by decide +kernel
theorem dL_law_992 : decode cL_law 992 = .ok (.invokevirtual 42, 3) := by decide +kernel
theorem dL_law_995 : decode cL_law 995 = .ok (.if_icmp .le 28, 3) := by decide +kernel
theorem dL_law_998 : decode cL_law 998 = .ok (.aload_n 1, 1) := by decide +kernel
theorem dL_law_999 : decode cL_law 999 = .ok (.iload 9, 2) := by decide +kernel
theorem dL_law_1001 : decode cL_law 1001 = .ok (.iconst 5, 1) := by decide +kernel
theorem dL_law_1002 : decode cL_law 1002 = .ok (.invokevirtual 42, 3) := by decide +kernel
theorem dL_law_1005 : decode cL_law 1005 = .ok (.aload_n 1, 1) := by decide +kernel
theorem dL_law_1006 : decode cL_law 1006 = .ok (.iload 9, 2) := by decide +kernel
theorem dL_law_1008 : decode cL_law 1008 = .ok (.iconst 1, 1) := by decide +kernel
theorem dL_law_1009 : decode cL_law 1009 = .ok (.invokevirtual 42, 3) := by decide +kernel
theorem dL_law_1012 : decode cL_law 1012 = .ok (.idiv, 1) := by decide +kernel
theorem dL_law_1013 : decode cL_law 1013 = .ok (.aload_n 1, 1) := by decide +kernel
theorem dL_law_1014 : decode cL_law 1014 = .ok (.iconst 5, 1) := by decide +kernel
theorem dL_law_1015 : decode cL_law 1015 = .ok (.invokevirtual 29, 3) := by decide +kernel
theorem dL_law_1018 : decode cL_law 1018 = .ok (.if_icmp .gt 5, 3) := by decide +kernel
theorem dL_law_1021 : decode cL_law 1021 = .ok (.iconst 0, 1) := by decide +kernel
theorem dL_law_1022 : decode cL_law 1022 = .ok (.ireturn, 1) := by decide +kernel
theorem dL_law_1023 : decode cL_law 1023 = .ok (.iinc 9 1, 3) := by decide +kernel
theorem dL_law_1026 : decode cL_law 1026 = .ok (.goto (-56), 3) := by decide +kernel
theorem dL_law_1029 : decode cL_law 1029 = .ok (.aload_n 1, 1) := by decide +kernel
theorem dL_law_1030 : decode cL_law 1030 = .ok (.iconst 0, 1) := by decide +kernel
theorem dL_law_1031 : decode cL_law 1031 = .ok (.iconst 0, 1) := by decide +kernel
theorem dL_law_1032 : decode cL_law 1032 = .ok (.invokevirtual 97, 3) := by decide +kernel
theorem dL_law_1035 : decode cL_law 1035 = .ok (.aload_n 1, 1) := by decide +kernel
theorem dL_law_1036 : decode cL_law 1036 = .ok (.iconst 0, 1) := by decide +kernel
theorem dL_law_1037 : decode cL_law 1037 = .ok (.iconst 4, 1) := by decide +kernel
theorem dL_law_1038 : decode cL_law 1038 = .ok (.invokevirtual 68, 3) := by decide +kernel
theorem dL_law_1041 : decode cL_law 1041 = .ok (.if_icmp .ne 33, 3) := by decide +kernel
theorem dL_law_1044 : decode cL_law 1044 = .ok (.aload_n 1, 1) := by decide +kernel
theorem dL_law_1045 : decode cL_law 1045 = .ok (.iconst 1, 1) := by decide +kernel
theorem dL_law_1046 : decode cL_law 1046 = .ok (.bipush 30, 2) := by decide +kernel
theorem dL_law_1048 : decode cL_law 1048 = .ok (.invokevirtual 97, 3) := by decide +kernel
theorem dL_law_1051 : decode cL_law 1051 = .ok (.aload_n 1, 1) := by decide +kernel
theorem dL_law_1052 : decode cL_law 1052 = .ok (.iconst 1, 1) := by decide +kernel
theorem dL_law_1053 : decode cL_law 1053 = .ok (.iconst 4, 1) := by decide +kernel
theorem dL_law_1054 : decode cL_law 1054 = .ok (.invokevirtual 68, 3) := by decide +kernel
theorem dL_law_1057 : decode cL_law 1057 = .ok (.if_icmp .gt 17, 3) := by decide +kernel
theorem dL_law_1060 : decode cL_law 1060 = .ok (.aload_n 1, 1) := by decide +kernel
theorem dL_law_1061 : decode cL_law 1061 = .ok (.invokevirtual 82, 3) := by decide +kernel
theorem dL_law_1064 : decode cL_law 1064 = .ok (.lload 5, 2) := by decide +kernel
theorem dL_law_1066 : decode cL_law 1066 = .ok (.lcmp, 1) := by decide +kernel
theorem dL_law_1067 : decode cL_law 1067 = .ok (.ifCond .ne 7, 3) := by decide +kernel
theorem dL_law_1070 : decode cL_law 1070 = .ok (.iconst 1, 1) := by decide +kernel
theorem dL_law_1071 : decode cL_law 1071 = .ok (.goto 4, 3) := by decide +kernel
theorem dL_law_1074 : decode cL_law 1074 = .ok (.iconst 0, 1) := by decide +kernel
theorem dL_law_1075 : decode cL_law 1075 = .ok (.ireturn, 1) := by decide +kernel
theorem dL_isBuffed_0 : decode cL_isBuffed 0 = .ok (.aload_n 0, 1) := by decide +kernel
theorem dL_isBuffed_1 : decode cL_isBuffed 1 = .ok (.iconst 5, 1) := by decide +kernel
theorem dL_isBuffed_2 : decode cL_isBuffed 2 = .ok (.invokevirtual 29, 3) := by decide +kernel
theorem dL_isBuffed_5 : decode cL_isBuffed 5 = .ok (.istore_n 3, 1) := by decide +kernel
theorem dL_isBuffed_6 : decode cL_isBuffed 6 = .ok (.aload_n 0, 1) := by decide +kernel
theorem dL_isBuffed_7 : decode cL_isBuffed 7 = .ok (.iload_n 1, 1) := by decide +kernel
theorem dL_isBuffed_8 : decode cL_isBuffed 8 = .ok (.iconst 5, 1) := by decide +kernel
theorem dL_isBuffed_9 : decode cL_isBuffed 9 = .ok (.invokevirtual 42, 3) := by decide +kernel
theorem dL_isBuffed_12 : decode cL_isBuffed 12 = .ok (.istore 4, 2) := by decide +kernel
theorem dL_isBuffed_14 : decode cL_isBuffed 14 = .ok (.aload_n 0, 1) := by decide +kernel
theorem dL_isBuffed_15 : decode cL_isBuffed 15 = .ok (.iload_n 1, 1) := by decide +kernel
theorem dL_isBuffed_16 : decode cL_isBuffed 16 = .ok (.iconst 3, 1) := by decide +kernel
theorem dL_isBuffed_17 : decode cL_isBuffed 17 = .ok (.invokevirtual 42, 3) := by decide +kernel
theorem dL_isBuffed_20 : decode cL_isBuffed 20 = .ok (.istore 5, 2) := by decide +kernel
theorem dL_isBuffed_22 : decode cL_isBuffed 22 = .ok (.iload_n 2, 1) := by decide +kernel
theorem dL_isBuffed_23 : decode cL_isBuffed 23 = .ok (.newarray .int, 2) := by decide +kernel
theorem dL_isBuffed_25 : decode cL_isBuffed 25 = .ok (.astore 6, 2) := by decide +kernel
theorem dL_isBuffed_27 : decode cL_isBuffed 27 = .ok (.iconst 0, 1) := by decide +kernel
theorem dL_isBuffed_28 : decode cL_isBuffed 28 = .ok (.istore 7, 2) := by decide +kernel
theorem dL_isBuffed_30 : decode cL_isBuffed 30 = .ok (.iload 7, 2) := by decide +kernel
theorem dL_isBuffed_32 : decode cL_isBuffed 32 = .ok (.iload_n 2, 1) := by decide +kernel
theorem dL_isBuffed_33 : decode cL_isBuffed 33 = .ok (.if_icmp .ge 21, 3) := by decide +kernel
theorem dL_isBuffed_36 : decode cL_isBuffed 36 = .ok (.aload 6, 2) := by decide +kernel
theorem dL_isBuffed_38 : decode cL_isBuffed 38 = .ok (.iload 7, 2) := by decide +kernel
theorem dL_isBuffed_40 : decode cL_isBuffed 40 = .ok (.aload_n 0, 1) := by decide +kernel
theorem dL_isBuffed_41 : decode cL_isBuffed 41 = .ok (.iload_n 1, 1) := by decide +kernel
theorem dL_isBuffed_42 : decode cL_isBuffed 42 = .ok (.iload 7, 2) := by decide +kernel
theorem dL_isBuffed_44 : decode cL_isBuffed 44 = .ok (.invokevirtual 100, 3) := by decide +kernel
theorem dL_isBuffed_47 : decode cL_isBuffed 47 = .ok (.iastore, 1) := by decide +kernel
theorem dL_isBuffed_48 : decode cL_isBuffed 48 = .ok (.iinc 7 1, 3) := by decide +kernel
theorem dL_isBuffed_51 : decode cL_isBuffed 51 = .ok (.goto (-21), 3) := by decide +kernel
theorem dL_isBuffed_54 : decode cL_isBuffed 54 = .ok (.aload_n 0, 1) := by decide +kernel
theorem dL_isBuffed_55 : decode cL_isBuffed 55 = .ok (.iload_n 1, 1) := by decide +kernel
theorem dL_isBuffed_56 : decode cL_isBuffed 56 = .ok (.invokevirtual 103, 3) := by decide +kernel
theorem dL_isBuffed_59 : decode cL_isBuffed 59 = .ok (.istore 7, 2) := by decide +kernel
theorem dL_isBuffed_61 : decode cL_isBuffed 61 = .ok (.iload 7, 2) := by decide +kernel
theorem dL_isBuffed_63 : decode cL_isBuffed 63 = .ok (.aload_n 0, 1) := by decide +kernel
theorem dL_isBuffed_64 : decode cL_isBuffed 64 = .ok (.iload_n 1, 1) := by decide +kernel
theorem dL_isBuffed_65 : decode cL_isBuffed 65 = .ok (.iconst 1, 1) := by decide +kernel
theorem dL_isBuffed_66 : decode cL_isBuffed 66 = .ok (.invokevirtual 42, 3) := by decide +kernel
theorem dL_isBuffed_69 : decode cL_isBuffed 69 = .ok (.imul, 1) := by decide +kernel
theorem dL_isBuffed_70 : decode cL_isBuffed 70 = .ok (.iload 4, 2) := by decide +kernel
theorem dL_isBuffed_72 : decode cL_isBuffed 72 = .ok (.if_icmp .ne 23, 3) := by decide +kernel
theorem dL_isBuffed_75 : decode cL_isBuffed 75 = .ok (.aload_n 0, 1) := by decide +kernel
theorem dL_isBuffed_76 : decode cL_isBuffed 76 = .ok (.iconst 5, 1) := by decide +kernel
theorem dL_isBuffed_77 : decode cL_isBuffed 77 = .ok (.invokevirtual 29, 3) := by decide +kernel
theorem dL_isBuffed_80 : decode cL_isBuffed 80 = .ok (.iload_n 3, 1) := by decide +kernel
theorem dL_isBuffed_81 : decode cL_isBuffed 81 = .ok (.iload 7, 2) := by decide +kernel
theorem dL_isBuffed_83 : decode cL_isBuffed 83 = .ok (.isub, 1) := by decide +kernel
theorem dL_isBuffed_84 : decode cL_isBuffed 84 = .ok (.if_icmp .ne 11, 3) := by decide +kernel
theorem dL_isBuffed_87 : decode cL_isBuffed 87 = .ok (.aload_n 0, 1) := by decide +kernel
theorem dL_isBuffed_88 : decode cL_isBuffed 88 = .ok (.iconst 5, 1) := by decide +kernel
theorem dL_isBuffed_89 : decode cL_isBuffed 89 = .ok (.invokevirtual 29, 3) := by decide +kernel
theorem dL_isBuffed_92 : decode cL_isBuffed 92 = .ok (.ifCond .ge 5, 3) := by decide +kernel
theorem dL_isBuffed_95 : decode cL_isBuffed 95 = .ok (.iconst 0, 1) := by decide +kernel
theorem dL_isBuffed_96 : decode cL_isBuffed 96 = .ok (.ireturn, 1) := by decide +kernel
theorem dL_isBuffed_97 : decode cL_isBuffed 97 = .ok (.goto 44, 3) := by decide +kernel
theorem dL_isBuffed_100 : decode cL_isBuffed 100 = .ok (.astore 7, 2) := by decide +kernel
theorem dL_isBuffed_102 : decode cL_isBuffed 102 = .ok (.iload 4, 2) := by decide +kernel
theorem dL_isBuffed_104 : decode cL_isBuffed 104 = .ok (.iload_n 3, 1) := by decide +kernel
theorem dL_isBuffed_105 : decode cL_isBuffed 105 = .ok (.aload_n 0, 1) := by decide +kernel
theorem dL_isBuffed_106 : decode cL_isBuffed 106 = .ok (.iload_n 1, 1) := by decide +kernel
theorem dL_isBuffed_107 : decode cL_isBuffed 107 = .ok (.iconst 1, 1) := by decide +kernel
theorem dL_isBuffed_108 : decode cL_isBuffed 108 = .ok (.invokevirtual 42, 3) := by decide +kernel
theorem dL_isBuffed_111 : decode cL_isBuffed 111 = .ok (.imul, 1) := by decide +kernel
theorem dL_isBuffed_112 : decode cL_isBuffed 112 = .ok (.if_icmp .le 27, 3) := by decide +kernel
theorem dL_isBuffed_115 : decode cL_isBuffed 115 = .ok (.aload_n 0, 1) := by decide +kernel
theorem dL_isBuffed_116 : decode cL_isBuffed 116 = .ok (.iconst 5, 1) := by decide +kernel
theorem dL_isBuffed_117 : decode cL_isBuffed 117 = .ok (.invokevirtual 29, 3) := by decide +kernel
theorem dL_isBuffed_120 : decode cL_isBuffed 120 = .ok (.iload_n 3, 1) := by decide +kernel
theorem dL_isBuffed_121 : decode cL_isBuffed 121 = .ok (.if_icmp .ne 18, 3) := by decide +kernel
theorem dL_isBuffed_124 : decode cL_isBuffed 124 = .ok (.aload_n 0, 1) := by decide +kernel
theorem dL_isBuffed_125 : decode cL_isBuffed 125 = .ok (.iload_n 1, 1) := by decide +kernel
theorem dL_isBuffed_126 : decode cL_isBuffed 126 = .ok (.iconst 5, 1) := by decide +kernel
theorem dL_isBuffed_127 : decode cL_isBuffed 127 = .ok (.invokevirtual 42, 3) := by decide +kernel
theorem dL_isBuffed_130 : decode cL_isBuffed 130 = .ok (.iload 4, 2) := by decide +kernel
theorem dL_isBuffed_132 : decode cL_isBuffed 132 = .ok (.if_icmp .ne 7, 3) := by decide +kernel
theorem dL_isBuffed_135 : decode cL_isBuffed 135 = .ok (.iconst 1, 1) := by decide +kernel
theorem dL_isBuffed_136 : decode cL_isBuffed 136 = .ok (.goto 4, 3) := by decide +kernel
theorem dL_isBuffed_139 : decode cL_isBuffed 139 = .ok (.iconst 0, 1) := by decide +kernel
theorem dL_isBuffed_140 : decode cL_isBuffed 140 = .ok (.ireturn, 1) := by decide +kernel
theorem dL_isBuffed_141 : decode cL_isBuffed 141 = .ok (.iconst 0, 1) := by decide +kernel
theorem dL_isBuffed_142 : decode cL_isBuffed 142 = .ok (.istore 7, 2) := by decide +kernel
theorem dL_isBuffed_144 : decode cL_isBuffed 144 = .ok (.iload 7, 2) := by decide +kernel
theorem dL_isBuffed_146 : decode cL_isBuffed 146 = .ok (.iload_n 2, 1) := by decide +kernel
theorem dL_isBuffed_147 : decode cL_isBuffed 147 = .ok (.if_icmp .ge 85, 3) := by decide +kernel
theorem dL_isBuffed_150 : decode cL_isBuffed 150 = .ok (.aload 6, 2) := by decide +kernel
theorem dL_isBuffed_152 : decode cL_isBuffed 152 = .ok (.iload 7, 2) := by decide +kernel
theorem dL_isBuffed_154 : decode cL_isBuffed 154 = .ok (.iaload, 1) := by decide +kernel
theorem dL_isBuffed_155 : decode cL_isBuffed 155 = .ok (.ifCond .lt 42, 3) := by decide +kernel
theorem dL_isBuffed_158 : decode cL_isBuffed 158 = .ok (.aload_n 0, 1) := by decide +kernel
theorem dL_isBuffed_159 : decode cL_isBuffed 159 = .ok (.aload 6, 2) := by decide +kernel
theorem dL_isBuffed_161 : decode cL_isBuffed 161 = .ok (.iload 7, 2) := by decide +kernel
theorem dL_isBuffed_163 : decode cL_isBuffed 163 = .ok (.iaload, 1) := by decide +kernel
theorem dL_isBuffed_164 : decode cL_isBuffed 164 = .ok (.bipush 6, 2) := by decide +kernel
theorem dL_isBuffed_166 : decode cL_isBuffed 166 = .ok (.invokevirtual 55, 3) := by decide +kernel
theorem dL_isBuffed_169 : decode cL_isBuffed 169 = .ok (.iconst 1, 1) := by decide +kernel
theorem dL_isBuffed_170 : decode cL_isBuffed 170 = .ok (.if_icmp .ne 27, 3) := by decide +kernel
theorem dL_isBuffed_173 : decode cL_isBuffed 173 = .ok (.aload_n 0, 1) := by decide +kernel
theorem dL_isBuffed_174 : decode cL_isBuffed 174 = .ok (.aload_n 0, 1) := by decide +kernel
theorem dL_isBuffed_175 : decode cL_isBuffed 175 = .ok (.aload 6, 2) := by decide +kernel
theorem dL_isBuffed_177 : decode cL_isBuffed 177 = .ok (.iload 7, 2) := by decide +kernel
theorem dL_isBuffed_179 : decode cL_isBuffed 179 = .ok (.iaload, 1) := by decide +kernel
theorem dL_isBuffed_180 : decode cL_isBuffed 180 = .ok (.iconst 0, 1) := by decide +kernel
theorem dL_isBuffed_181 : decode cL_isBuffed 181 = .ok (.invokevirtual 55, 3) := by decide +kernel
theorem dL_isBuffed_184 : decode cL_isBuffed 184 = .ok (.iconst 0, 1) := by decide +kernel
theorem dL_isBuffed_185 : decode cL_isBuffed 185 = .ok (.invokevirtual 68, 3) := by decide +kernel
theorem dL_isBuffed_188 : decode cL_isBuffed 188 = .ok (.iload 5, 2) := by decide +kernel
theorem dL_isBuffed_190 : decode cL_isBuffed 190 = .ok (.if_icmp .ne 7, 3) := by decide +kernel
theorem dL_isBuffed_193 : decode cL_isBuffed 193 = .ok (.iconst 1, 1) := by decide +kernel
theorem dL_isBuffed_194 : decode cL_isBuffed 194 = .ok (.goto 4, 3) := by decide +kernel
theorem dL_isBuffed_197 : decode cL_isBuffed 197 = .ok (.iconst 0, 1) := by decide +kernel
theorem dL_isBuffed_198 : decode cL_isBuffed 198 = .ok (.istore 8, 2) := by decide +kernel
theorem dL_isBuffed_200 : decode cL_isBuffed 200 = .ok (.aload_n 0, 1) := by decide +kernel
theorem dL_isBuffed_201 : decode cL_isBuffed 201 = .ok (.iload_n 1, 1) := by decide +kernel
theorem dL_isBuffed_202 : decode cL_isBuffed 202 = .ok (.iload 7, 2) := by decide +kernel
theorem dL_isBuffed_204 : decode cL_isBuffed 204 = .ok (.invokevirtual 100, 3) := by decide +kernel
theorem dL_isBuffed_207 : decode cL_isBuffed 207 = .ok (.iload 8, 2) := by decide +kernel
theorem dL_isBuffed_209 : decode cL_isBuffed 209 = .ok (.ifCond .eq 11, 3) := by decide +kernel
theorem dL_isBuffed_212 : decode cL_isBuffed 212 = .ok (.aload 6, 2) := by decide +kernel
theorem dL_isBuffed_214 : decode cL_isBuffed 214 = .ok (.iload 7, 2) := by decide +kernel
theorem dL_isBuffed_216 : decode cL_isBuffed 216 = .ok (.iaload, 1) := by decide +kernel
theorem dL_isBuffed_217 : decode cL_isBuffed 217 = .ok (.goto 4, 3) := by decide +kernel
theorem dL_isBuffed_220 : decode cL_isBuffed 220 = .ok (.iconst (-1), 1) := by decide +kernel
theorem dL_isBuffed_221 : decode cL_isBuffed 221 = .ok (.if_icmp .eq 5, 3) := by decide +kernel
theorem dL_isBuffed_224 : decode cL_isBuffed 224 = .ok (.iconst 0, 1) := by decide +kernel
theorem dL_isBuffed_225 : decode cL_isBuffed 225 = .ok (.ireturn, 1) := by decide +kernel
theorem dL_isBuffed_226 : decode cL_isBuffed 226 = .ok (.iinc 7 1, 3) := by decide +kernel
theorem dL_isBuffed_229 : decode cL_isBuffed 229 = .ok (.goto (-85), 3) := by decide +kernel
theorem dL_isBuffed_232 : decode cL_isBuffed 232 = .ok (.iconst 1, 1) := by decide +kernel
theorem dL_isBuffed_233 : decode cL_isBuffed 233 = .ok (.ireturn, 1) := by decide +kernel
theorem dL_isPainted_0 : decode cL_isPainted 0 = .ok (.aload_n 0, 1) := by decide +kernel
theorem dL_isPainted_1 : decode cL_isPainted 1 = .ok (.iconst 3, 1) := by decide +kernel
theorem dL_isPainted_2 : decode cL_isPainted 2 = .ok (.invokevirtual 29, 3) := by decide +kernel
theorem dL_isPainted_5 : decode cL_isPainted 5 = .ok (.istore 8, 2) := by decide +kernel
theorem dL_isPainted_7 : decode cL_isPainted 7 = .ok (.aload_n 0, 1) := by decide +kernel
theorem dL_isPainted_8 : decode cL_isPainted 8 = .ok (.iload_n 1, 1) := by decide +kernel
theorem dL_isPainted_9 : decode cL_isPainted 9 = .ok (.iconst 1, 1) := by decide +kernel
theorem dL_isPainted_10 : decode cL_isPainted 10 = .ok (.invokevirtual 68, 3) := by decide +kernel
theorem dL_isPainted_13 : decode cL_isPainted 13 = .ok (.istore 9, 2) := by decide +kernel
theorem dL_isPainted_15 : decode cL_isPainted 15 = .ok (.aload_n 0, 1) := by decide +kernel
theorem dL_isPainted_16 : decode cL_isPainted 16 = .ok (.iload_n 1, 1) := by decide +kernel
theorem dL_isPainted_17 : decode cL_isPainted 17 = .ok (.iload_n 2, 1) := by decide +kernel
theorem dL_isPainted_18 : decode cL_isPainted 18 = .ok (.iload_n 3, 1) := by decide +kernel
theorem dL_isPainted_19 : decode cL_isPainted 19 = .ok (.iload 4, 2) := by decide +kernel
theorem dL_isPainted_21 : decode cL_isPainted 21 = .ok (.iload 5, 2) := by decide +kernel
theorem dL_isPainted_23 : decode cL_isPainted 23 = .ok (.invokevirtual 89, 3) := by decide +kernel
theorem dL_isPainted_26 : decode cL_isPainted 26 = .ok (.istore 10, 2) := by decide +kernel
theorem dL_isPainted_28 : decode cL_isPainted 28 = .ok (.aload_n 0, 1) := by decide +kernel
theorem dL_isPainted_29 : decode cL_isPainted 29 = .ok (.iload_n 1, 1) := by decide +kernel
theorem dL_isPainted_30 : decode cL_isPainted 30 = .ok (.bipush 7, 2) := by decide +kernel
theorem dL_isPainted_32 : decode cL_isPainted 32 = .ok (.invokevirtual 68, 3) := by decide +kernel
theorem dL_isPainted_35 : decode cL_isPainted 35 = .ok (.istore 11, 2) := by decide +kernel
theorem dL_isPainted_37 : decode cL_isPainted 37 = .ok (.aload_n 0, 1) := by decide +kernel
theorem dL_isPainted_38 : decode cL_isPainted 38 = .ok (.iload_n 1, 1) := by decide +kernel
theorem dL_isPainted_39 : decode cL_isPainted 39 = .ok (.iload_n 1, 1) := by decide +kernel
theorem dL_isPainted_40 : decode cL_isPainted 40 = .ok (.invokevirtual 108, 3) := by decide +kernel
theorem dL_isPainted_43 : decode cL_isPainted 43 = .ok (.istore 12, 2) := by decide +kernel
theorem dL_isPainted_45 : decode cL_isPainted 45 = .ok (.aload_n 0, 1) := by decide +kernel
theorem dL_isPainted_46 : decode cL_isPainted 46 = .ok (.iload_n 1, 1) := by decide +kernel
theorem dL_isPainted_47 : decode cL_isPainted 47 = .ok (.bipush 10, 2) := by decide +kernel
theorem dL_isPainted_49 : decode cL_isPainted 49 = .ok (.invokevirtual 68, 3) := by decide +kernel
theorem dL_isPainted_52 : decode cL_isPainted 52 = .ok (.istore 13, 2) := by decide +kernel
theorem dL_isPainted_54 : decode cL_isPainted 54 = .ok (.aload_n 0, 1) := by decide +kernel
theorem dL_isPainted_55 : decode cL_isPainted 55 = .ok (.iload_n 2, 1) := by decide +kernel
theorem dL_isPainted_56 : decode cL_isPainted 56 = .ok (.iconst 3, 1) := by decide +kernel
theorem dL_isPainted_57 : decode cL_isPainted 57 = .ok (.invokevirtual 42, 3) := by decide +kernel
theorem dL_isPainted_60 : decode cL_isPainted 60 = .ok (.aload_n 0, 1) := by decide +kernel
theorem dL_isPainted_61 : decode cL_isPainted 61 = .ok (.iload_n 1, 1) := by decide +kernel
theorem dL_isPainted_62 : decode cL_isPainted 62 = .ok (.iconst 0, 1) := by decide +kernel
theorem dL_isPainted_63 : decode cL_isPainted 63 = .ok (.invokevirtual 68, 3) := by decide +kernel
theorem dL_isPainted_66 : decode cL_isPainted 66 = .ok (.if_icmp .ne 7, 3) := by decide +kernel
theorem dL_isPainted_69 : decode cL_isPainted 69 = .ok (.iconst 1, 1) := by decide +kernel
theorem dL_isPainted_70 : decode cL_isPainted 70 = .ok (.goto 4, 3) := by decide +kernel
theorem dL_isPainted_73 : decode cL_isPainted 73 = .ok (.iconst 0, 1) := by decide +kernel
theorem dL_isPainted_74 : decode cL_isPainted 74 = .ok (.istore 14, 2) := by decide +kernel
theorem dL_isPainted_76 : decode cL_isPainted 76 = .ok (.aload_n 0, 1) := by decide +kernel
theorem dL_isPainted_77 : decode cL_isPainted 77 = .ok (.iload_n 1, 1) := by decide +kernel
theorem dL_isPainted_78 : decode cL_isPainted 78 = .ok (.iload_n 2, 1) := by decide +kernel
theorem dL_isPainted_79 : decode cL_isPainted 79 = .ok (.iload_n 3, 1) := by decide +kernel
theorem dL_isPainted_80 : decode cL_isPainted 80 = .ok (.iload 4, 2) := by decide +kernel
theorem dL_isPainted_82 : decode cL_isPainted 82 = .ok (.iload 5, 2) := by decide +kernel
theorem dL_isPainted_84 : decode cL_isPainted 84 = .ok (.iconst 0, 1) := by decide +kernel
theorem dL_isPainted_85 : decode cL_isPainted 85 = .ok (.invokevirtual 111, 3) := by decide +kernel
theorem dL_isPainted_88 : decode cL_isPainted 88 = .ok (.iload 10, 2) := by decide +kernel
theorem dL_isPainted_90 : decode cL_isPainted 90 = .ok (.if_icmp .eq 5, 3) := by decide +kernel
theorem dL_isPainted_93 : decode cL_isPainted 93 = .ok (.iconst 0, 1) := by decide +kernel
theorem dL_isPainted_94 : decode cL_isPainted 94 = .ok (.ireturn, 1) := by decide +kernel
theorem dL_isPainted_95 : decode cL_isPainted 95 = .ok (.goto 49, 3) := by decide +kernel
theorem dL_isPainted_98 : decode cL_isPainted 98 = .ok (.astore 15, 2) := by decide +kernel
theorem dL_isPainted_100 : decode cL_isPainted 100 = .ok (.aload_n 0, 1) := by decide +kernel
theorem dL_isPainted_101 : decode cL_isPainted 101 = .ok (.iconst 3, 1) := by decide +kernel
theorem dL_isPainted_102 : decode cL_isPainted 102 = .ok (.invokevirtual 29, 3) := by decide +kernel
theorem dL_isPainted_105 : decode cL_isPainted 105 = .ok (.iload 8, 2) := by decide +kernel
theorem dL_isPainted_107 : decode cL_isPainted 107 = .ok (.if_icmp .ne 35, 3) := by decide +kernel
theorem dL_isPainted_110 : decode cL_isPainted 110 = .ok (.aload_n 0, 1) := by decide +kernel
theorem dL_isPainted_111 : decode cL_isPainted 111 = .ok (.iload_n 1, 1) := by decide +kernel
theorem dL_isPainted_112 : decode cL_isPainted 112 = .ok (.iconst 1, 1) := by decide +kernel
theorem dL_isPainted_113 : decode cL_isPainted 113 = .ok (.invokevirtual 68, 3) := by decide +kernel
theorem dL_isPainted_116 : decode cL_isPainted 116 = .ok (.iload 9, 2) := by decide +kernel
theorem dL_isPainted_118 : decode cL_isPainted 118 = .ok (.if_icmp .ne 24, 3) := by decide +kernel
theorem dL_isPainted_121 : decode cL_isPainted 121 = .ok (.iload 8, 2) := by decide +kernel
theorem dL_isPainted_123 : decode cL_isPainted 123 = .ok (.bipush 60, 2) := by decide +kernel
theorem dL_isPainted_125 : decode cL_isPainted 125 = .ok (.if_icmp .eq 13, 3) := by decide +kernel
theorem dL_isPainted_128 : decode cL_isPainted 128 = .ok (.iload 9, 2) := by decide +kernel
theorem dL_isPainted_130 : decode cL_isPainted 130 = .ok (.bipush 90, 2) := by decide +kernel
theorem dL_isPainted_132 : decode cL_isPainted 132 = .ok (.iload 4, 2) := by decide +kernel
theorem dL_isPainted_134 : decode cL_isPainted 134 = .ok (.imul, 1) := by decide +kernel
theorem dL_isPainted_135 : decode cL_isPainted 135 = .ok (.if_icmp .ge 7, 3) := by decide +kernel
theorem dL_isPainted_138 : decode cL_isPainted 138 = .ok (.iconst 1, 1) := by decide +kernel
theorem dL_isPainted_139 : decode cL_isPainted 139 = .ok (.goto 4, 3) := by decide +kernel
theorem dL_isPainted_142 : decode cL_isPainted 142 = .ok (.iconst 0, 1) := by decide +kernel
theorem dL_isPainted_143 : decode cL_isPainted 143 = .ok (.ireturn, 1) := by decide +kernel
theorem dL_isPainted_144 : decode cL_isPainted 144 = .ok (.iload_n 3, 1) := by decide +kernel
theorem dL_isPainted_145 : decode cL_isPainted 145 = .ok (.istore 15, 2) := by decide +kernel
theorem dL_isPainted_147 : decode cL_isPainted 147 = .ok (.iload 15, 2) := by decide +kernel
theorem dL_isPainted_149 : decode cL_isPainted 149 = .ok (.iload_n 3, 1) := by decide +kernel
theorem dL_isPainted_150 : decode cL_isPainted 150 = .ok (.iload 4, 2) := by decide +kernel
theorem dL_isPainted_152 : decode cL_isPainted 152 = .ok (.iadd, 1) := by decide +kernel
theorem dL_isPainted_153 : decode cL_isPainted 153 = .ok (.if_icmp .ge 23, 3) := by decide +kernel
theorem dL_isPainted_156 : decode cL_isPainted 156 = .ok (.aload_n 0, 1) := by decide +kernel
theorem dL_isPainted_157 : decode cL_isPainted 157 = .ok (.iload_n 2, 1) := by decide +kernel
theorem dL_isPainted_158 : decode cL_isPainted 158 = .ok (.iload 15, 2) := by decide +kernel
theorem dL_isPainted_160 : decode cL_isPainted 160 = .ok (.invokevirtual 100, 3) := by decide +kernel
theorem dL_isPainted_163 : decode cL_isPainted 163 = .ok (.iload 8, 2) := by decide +kernel
theorem dL_isPainted_165 : decode cL_isPainted 165 = .ok (.if_icmp .eq 5, 3) := by decide +kernel
theorem dL_isPainted_168 : decode cL_isPainted 168 = .ok (.iconst 0, 1) := by decide +kernel
theorem dL_isPainted_169 : decode cL_isPainted 169 = .ok (.ireturn, 1) := by decide +kernel
theorem dL_isPainted_170 : decode cL_isPainted 170 = .ok (.iinc 15 1, 3) := by decide +kernel
theorem dL_isPainted_173 : decode cL_isPainted 173 = .ok (.goto (-26), 3) := by decide +kernel
theorem dL_isPainted_176 : decode cL_isPainted 176 = .ok (.aload_n 0, 1) := by decide +kernel
theorem dL_isPainted_177 : decode cL_isPainted 177 = .ok (.iload_n 1, 1) := by decide +kernel
theorem dL_isPainted_178 : decode cL_isPainted 178 = .ok (.bipush 10, 2) := by decide +kernel
theorem dL_isPainted_180 : decode cL_isPainted 180 = .ok (.invokevirtual 68, 3) := by decide +kernel
theorem dL_isPainted_183 : decode cL_isPainted 183 = .ok (.iload 13, 2) := by decide +kernel
theorem dL_isPainted_185 : decode cL_isPainted 185 = .ok (.isub, 1) := by decide +kernel
theorem dL_isPainted_186 : decode cL_isPainted 186 = .ok (.istore 15, 2) := by decide +kernel
theorem dL_isPainted_188 : decode cL_isPainted 188 = .ok (.aload 6, 2) := by decide +kernel
theorem dL_isPainted_190 : decode cL_isPainted 190 = .ok (.iload_n 1, 1) := by decide +kernel
theorem dL_isPainted_191 : decode cL_isPainted 191 = .ok (.dup2, 1) := by decide +kernel
theorem dL_isPainted_192 : decode cL_isPainted 192 = .ok (.iaload, 1) := by decide +kernel
theorem dL_isPainted_193 : decode cL_isPainted 193 = .ok (.iload 15, 2) := by decide +kernel
theorem dL_isPainted_195 : decode cL_isPainted 195 = .ok (.bipush 20, 2) := by decide +kernel
theorem dL_isPainted_197 : decode cL_isPainted 197 = .ok (.bipush 10, 2) := by decide +kernel
theorem dL_isPainted_199 : decode cL_isPainted 199 = .ok (.iload 5, 2) := by decide +kernel
theorem dL_isPainted_201 : decode cL_isPainted 201 = .ok (.imul, 1) := by decide +kernel
theorem dL_isPainted_202 : decode cL_isPainted 202 = .ok (.iadd, 1) := by decide +kernel
theorem dL_isPainted_203 : decode cL_isPainted 203 = .ok (.imul, 1) := by decide +kernel
theorem dL_isPainted_204 : decode cL_isPainted 204 = .ok (.iadd, 1) := by decide +kernel
theorem dL_isPainted_205 : decode cL_isPainted 205 = .ok (.iastore, 1) := by decide +kernel
theorem dL_isPainted_206 : decode cL_isPainted 206 = .ok (.iload 15, 2) := by decide +kernel
theorem dL_isPainted_208 : decode cL_isPainted 208 = .ok (.ifCond .lt 34, 3) := by decide +kernel
theorem dL_isPainted_211 : decode cL_isPainted 211 = .ok (.iload 15, 2) := by decide +kernel
theorem dL_isPainted_213 : decode cL_isPainted 213 = .ok (.iconst 1, 1) := by decide +kernel
theorem dL_isPainted_214 : decode cL_isPainted 214 = .ok (.if_icmp .gt 28, 3) := by decide +kernel
theorem dL_isPainted_217 : decode cL_isPainted 217 = .ok (.iload 14, 2) := by decide +kernel
theorem dL_isPainted_219 : decode cL_isPainted 219 = .ok (.ifCond .eq 8, 3) := by decide +kernel
theorem dL_isPainted_222 : decode cL_isPainted 222 = .ok (.iload 15, 2) := by decide +kernel
theorem dL_isPainted_224 : decode cL_isPainted 224 = .ok (.ifCond .gt 18, 3) := by decide +kernel
theorem dL_isPainted_227 : decode cL_isPainted 227 = .ok (.iload 15, 2) := by decide +kernel
theorem dL_isPainted_229 : decode cL_isPainted 229 = .ok (.ifCond .le 15, 3) := by decide +kernel
theorem dL_isPainted_232 : decode cL_isPainted 232 = .ok (.aload_n 0, 1) := by decide +kernel
theorem dL_isPainted_233 : decode cL_isPainted 233 = .ok (.iload_n 1, 1) := by decide +kernel
theorem dL_isPainted_234 : decode cL_isPainted 234 = .ok (.iconst 3, 1) := by decide +kernel
theorem dL_isPainted_235 : decode cL_isPainted 235 = .ok (.invokevirtual 68, 3) := by decide +kernel
theorem dL_isPainted_238 : decode cL_isPainted 238 = .ok (.iconst 1, 1) := by decide +kernel
theorem dL_isPainted_239 : decode cL_isPainted 239 = .ok (.if_icmp .eq 5, 3) := by decide +kernel
theorem dL_isPainted_242 : decode cL_isPainted 242 = .ok (.iconst 0, 1) := by decide +kernel
theorem dL_isPainted_243 : decode cL_isPainted 243 = .ok (.ireturn, 1) := by decide +kernel
theorem dL_isPainted_244 : decode cL_isPainted 244 = .ok (.aload_n 0, 1) := by decide +kernel
theorem dL_isPainted_245 : decode cL_isPainted 245 = .ok (.iload_n 1, 1) := by decide +kernel
theorem dL_isPainted_246 : decode cL_isPainted 246 = .ok (.bipush 7, 2) := by decide +kernel
theorem dL_isPainted_248 : decode cL_isPainted 248 = .ok (.invokevirtual 68, 3) := by decide +kernel
theorem dL_isPainted_251 : decode cL_isPainted 251 = .ok (.iload 11, 2) := by decide +kernel
theorem dL_isPainted_253 : decode cL_isPainted 253 = .ok (.iload 10, 2) := by decide +kernel
theorem dL_isPainted_255 : decode cL_isPainted 255 = .ok (.iadd, 1) := by decide +kernel
theorem dL_isPainted_256 : decode cL_isPainted 256 = .ok (.if_icmp .ne 88, 3) := by decide +kernel
theorem dL_isPainted_259 : decode cL_isPainted 259 = .ok (.iload 12, 2) := by decide +kernel
theorem dL_isPainted_261 : decode cL_isPainted 261 = .ok (.ifCond .ne 83, 3) := by decide +kernel
theorem dL_isPainted_264 : decode cL_isPainted 264 = .ok (.aload_n 0, 1) := by decide +kernel
theorem dL_isPainted_265 : decode cL_isPainted 265 = .ok (.iload_n 1, 1) := by decide +kernel
theorem dL_isPainted_266 : decode cL_isPainted 266 = .ok (.iload_n 1, 1) := by decide +kernel
theorem dL_isPainted_267 : decode cL_isPainted 267 = .ok (.invokevirtual 108, 3) := by decide +kernel
theorem dL_isPainted_270 : decode cL_isPainted 270 = .ok (.ifCond .ne 74, 3) := by decide +kernel
theorem dL_isPainted_273 : decode cL_isPainted 273 = .ok (.aload_n 0, 1) := by decide +kernel
theorem dL_isPainted_274 : decode cL_isPainted 274 = .ok (.iload 8, 2) := by decide +kernel
theorem dL_isPainted_276 : decode cL_isPainted 276 = .ok (.bipush 6, 2) := by decide +kernel
theorem dL_isPainted_278 : decode cL_isPainted 278 = .ok (.invokevirtual 55, 3) := by decide +kernel
theorem dL_isPainted_281 : decode cL_isPainted 281 = .ok (.iload 14, 2) := by decide +kernel
theorem dL_isPainted_283 : decode cL_isPainted 283 = .ok (.ifCond .eq 7, 3) := by decide +kernel
theorem dL_isPainted_286 : decode cL_isPainted 286 = .ok (.iconst 1, 1) := by decide +kernel
theorem dL_isPainted_287 : decode cL_isPainted 287 = .ok (.goto 4, 3) := by decide +kernel
theorem dL_isPainted_290 : decode cL_isPainted 290 = .ok (.iconst 0, 1) := by decide +kernel
theorem dL_isPainted_291 : decode cL_isPainted 291 = .ok (.if_icmp .ne 53, 3) := by decide +kernel
theorem dL_isPainted_294 : decode cL_isPainted 294 = .ok (.aload_n 0, 1) := by decide +kernel
theorem dL_isPainted_295 : decode cL_isPainted 295 = .ok (.iload 8, 2) := by decide +kernel
theorem dL_isPainted_297 : decode cL_isPainted 297 = .ok (.bipush 9, 2) := by decide +kernel
theorem dL_isPainted_299 : decode cL_isPainted 299 = .ok (.invokevirtual 55, 3) := by decide +kernel
theorem dL_isPainted_302 : decode cL_isPainted 302 = .ok (.iload 4, 2) := by decide +kernel
theorem dL_isPainted_304 : decode cL_isPainted 304 = .ok (.if_icmp .ne 40, 3) := by decide +kernel
theorem dL_isPainted_307 : decode cL_isPainted 307 = .ok (.aload_n 0, 1) := by decide +kernel
theorem dL_isPainted_308 : decode cL_isPainted 308 = .ok (.iload_n 1, 1) := by decide +kernel
theorem dL_isPainted_309 : decode cL_isPainted 309 = .ok (.iconst 1, 1) := by decide +kernel
theorem dL_isPainted_310 : decode cL_isPainted 310 = .ok (.invokevirtual 68, 3) := by decide +kernel
theorem dL_isPainted_313 : decode cL_isPainted 313 = .ok (.iload 9, 2) := by decide +kernel
theorem dL_isPainted_315 : decode cL_isPainted 315 = .ok (.if_icmp .ge 29, 3) := by decide +kernel
theorem dL_isPainted_318 : decode cL_isPainted 318 = .ok (.iload 10, 2) := by decide +kernel
theorem dL_isPainted_320 : decode cL_isPainted 320 = .ok (.iload 4, 2) := by decide +kernel
theorem dL_isPainted_322 : decode cL_isPainted 322 = .ok (.if_icmp .gt 22, 3) := by decide +kernel
theorem dL_isPainted_325 : decode cL_isPainted 325 = .ok (.aload_n 0, 1) := by decide +kernel
theorem dL_isPainted_326 : decode cL_isPainted 326 = .ok (.iload 8, 2) := by decide +kernel
theorem dL_isPainted_328 : decode cL_isPainted 328 = .ok (.iconst 5, 1) := by decide +kernel
theorem dL_isPainted_329 : decode cL_isPainted 329 = .ok (.invokevirtual 55, 3) := by decide +kernel
theorem dL_isPainted_332 : decode cL_isPainted 332 = .ok (.aload_n 0, 1) := by decide +kernel
theorem dL_isPainted_333 : decode cL_isPainted 333 = .ok (.iconst 0, 1) := by decide +kernel
theorem dL_isPainted_334 : decode cL_isPainted 334 = .ok (.invokevirtual 29, 3) := by decide +kernel
theorem dL_isPainted_337 : decode cL_isPainted 337 = .ok (.if_icmp .ne 7, 3) := by decide +kernel
theorem dL_isPainted_340 : decode cL_isPainted 340 = .ok (.iconst 1, 1) := by decide +kernel
theorem dL_isPainted_341 : decode cL_isPainted 341 = .ok (.goto 4, 3) := by decide +kernel
theorem dL_isPainted_344 : decode cL_isPainted 344 = .ok (.iconst 0, 1) := by decide +kernel
theorem dL_isPainted_345 : decode cL_isPainted 345 = .ok (.ireturn, 1) := by decide +kernel
theorem dL_areSeen_0 : decode cL_areSeen 0 = .ok (.iload_n 2, 1) := by decide +kernel
theorem dL_areSeen_1 : decode cL_areSeen 1 = .ok (.newarray .int, 2) := by decide +kernel
theorem dL_areSeen_3 : decode cL_areSeen 3 = .ok (.astore 4, 2) := by decide +kernel
theorem dL_areSeen_5 : decode cL_areSeen 5 = .ok (.iconst 0, 1) := by decide +kernel
theorem dL_areSeen_6 : decode cL_areSeen 6 = .ok (.istore 5, 2) := by decide +kernel
theorem dL_areSeen_8 : decode cL_areSeen 8 = .ok (.iconst 0, 1) := by decide +kernel
theorem dL_areSeen_9 : decode cL_areSeen 9 = .ok (.istore 6, 2) := by decide +kernel
theorem dL_areSeen_11 : decode cL_areSeen 11 = .ok (.iload 6, 2) := by decide +kernel
theorem dL_areSeen_13 : decode cL_areSeen 13 = .ok (.iconst 3, 1) := by decide +kernel
theorem dL_areSeen_14 : decode cL_areSeen 14 = .ok (.if_icmp .ge 139, 3) := by decide +kernel
theorem dL_areSeen_17 : decode cL_areSeen 17 = .ok (.iconst 0, 1) := by decide +kernel
theorem dL_areSeen_18 : decode cL_areSeen 18 = .ok (.istore 7, 2) := by decide +kernel
theorem dL_areSeen_20 : decode cL_areSeen 20 = .ok (.iload 7, 2) := by decide +kernel
theorem dL_areSeen_22 : decode cL_areSeen 22 = .ok (.aload_n 1, 1) := by decide +kernel
theorem dL_areSeen_23 : decode cL_areSeen 23 = .ok (.iload 6, 2) := by decide +kernel
theorem dL_areSeen_25 : decode cL_areSeen 25 = .ok (.iaload, 1) := by decide +kernel
theorem dL_areSeen_26 : decode cL_areSeen 26 = .ok (.if_icmp .ge 121, 3) := by decide +kernel
theorem dL_areSeen_29 : decode cL_areSeen 29 = .ok (.aload_n 0, 1) := by decide +kernel
theorem dL_areSeen_30 : decode cL_areSeen 30 = .ok (.iload 6, 2) := by decide +kernel
theorem dL_areSeen_32 : decode cL_areSeen 32 = .ok (.iload 7, 2) := by decide +kernel
theorem dL_areSeen_34 : decode cL_areSeen 34 = .ok (.invokevirtual 100, 3) := by decide +kernel
theorem dL_areSeen_37 : decode cL_areSeen 37 = .ok (.istore 8, 2) := by decide +kernel
theorem dL_areSeen_39 : decode cL_areSeen 39 = .ok (.iload 8, 2) := by decide +kernel
theorem dL_areSeen_41 : decode cL_areSeen 41 = .ok (.ifCond .ge 6, 3) := by decide +kernel
theorem dL_areSeen_44 : decode cL_areSeen 44 = .ok (.goto 97, 3) := by decide +kernel
theorem dL_areSeen_47 : decode cL_areSeen 47 = .ok (.iinc 5 1, 3) := by decide +kernel
theorem dL_areSeen_50 : decode cL_areSeen 50 = .ok (.aload_n 0, 1) := by decide +kernel
theorem dL_areSeen_51 : decode cL_areSeen 51 = .ok (.iload 8, 2) := by decide +kernel
theorem dL_areSeen_53 : decode cL_areSeen 53 = .ok (.iconst 4, 1) := by decide +kernel
theorem dL_areSeen_54 : decode cL_areSeen 54 = .ok (.invokevirtual 55, 3) := by decide +kernel
theorem dL_areSeen_57 : decode cL_areSeen 57 = .ok (.istore 9, 2) := by decide +kernel
theorem dL_areSeen_59 : decode cL_areSeen 59 = .ok (.aload 4, 2) := by decide +kernel
theorem dL_areSeen_61 : decode cL_areSeen 61 = .ok (.aload_n 0, 1) := by decide +kernel
theorem dL_areSeen_62 : decode cL_areSeen 62 = .ok (.iload 8, 2) := by decide +kernel
theorem dL_areSeen_64 : decode cL_areSeen 64 = .ok (.iconst 0, 1) := by decide +kernel
theorem dL_areSeen_65 : decode cL_areSeen 65 = .ok (.invokevirtual 55, 3) := by decide +kernel
theorem dL_areSeen_68 : decode cL_areSeen 68 = .ok (.dup2, 1) := by decide +kernel
theorem dL_areSeen_69 : decode cL_areSeen 69 = .ok (.iaload, 1) := by decide +kernel
theorem dL_areSeen_70 : decode cL_areSeen 70 = .ok (.aload_n 0, 1) := by decide +kernel
theorem dL_areSeen_71 : decode cL_areSeen 71 = .ok (.iload 6, 2) := by decide +kernel
theorem dL_areSeen_73 : decode cL_areSeen 73 = .ok (.iconst 1, 1) := by decide +kernel
theorem dL_areSeen_74 : decode cL_areSeen 74 = .ok (.invokevirtual 42, 3) := by decide +kernel
theorem dL_areSeen_77 : decode cL_areSeen 77 = .ok (.iload 9, 2) := by decide +kernel
theorem dL_areSeen_79 : decode cL_areSeen 79 = .ok (.iconst 3, 1) := by decide +kernel
theorem dL_areSeen_80 : decode cL_areSeen 80 = .ok (.if_icmp .ne 8, 3) := by decide +kernel
theorem dL_areSeen_83 : decode cL_areSeen 83 = .ok (.bipush 7, 2) := by decide +kernel
theorem dL_areSeen_85 : decode cL_areSeen 85 = .ok (.goto 7, 3) := by decide +kernel
theorem dL_areSeen_88 : decode cL_areSeen 88 = .ok (.iconst 1, 1) := by decide +kernel
theorem dL_areSeen_89 : decode cL_areSeen 89 = .ok (.iload 9, 2) := by decide +kernel
theorem dL_areSeen_91 : decode cL_areSeen 91 = .ok (.ishl, 1) := by decide +kernel
theorem dL_areSeen_92 : decode cL_areSeen 92 = .ok (.imul, 1) := by decide +kernel
theorem dL_areSeen_93 : decode cL_areSeen 93 = .ok (.iadd, 1) := by decide +kernel
theorem dL_areSeen_94 : decode cL_areSeen 94 = .ok (.iastore, 1) := by decide +kernel
theorem dL_areSeen_95 : decode cL_areSeen 95 = .ok (.aload_n 0, 1) := by decide +kernel
theorem dL_areSeen_96 : decode cL_areSeen 96 = .ok (.iload 8, 2) := by decide +kernel
theorem dL_areSeen_98 : decode cL_areSeen 98 = .ok (.iconst 1, 1) := by decide +kernel
theorem dL_areSeen_99 : decode cL_areSeen 99 = .ok (.invokevirtual 55, 3) := by decide +kernel
theorem dL_areSeen_102 : decode cL_areSeen 102 = .ok (.iload 6, 2) := by decide +kernel
theorem dL_areSeen_104 : decode cL_areSeen 104 = .ok (.if_icmp .ne 35, 3) := by decide +kernel
theorem dL_areSeen_107 : decode cL_areSeen 107 = .ok (.iload 7, 2) := by decide +kernel
theorem dL_areSeen_109 : decode cL_areSeen 109 = .ok (.aload_n 0, 1) := by decide +kernel
theorem dL_areSeen_110 : decode cL_areSeen 110 = .ok (.iload 8, 2) := by decide +kernel
theorem dL_areSeen_112 : decode cL_areSeen 112 = .ok (.iconst 2, 1) := by decide +kernel
theorem dL_areSeen_113 : decode cL_areSeen 113 = .ok (.invokevirtual 55, 3) := by decide +kernel
theorem dL_areSeen_116 : decode cL_areSeen 116 = .ok (.if_icmp .lt 23, 3) := by decide +kernel
theorem dL_areSeen_119 : decode cL_areSeen 119 = .ok (.iload 7, 2) := by decide +kernel
theorem dL_areSeen_121 : decode cL_areSeen 121 = .ok (.aload_n 0, 1) := by decide +kernel
theorem dL_areSeen_122 : decode cL_areSeen 122 = .ok (.iload 8, 2) := by decide +kernel
theorem dL_areSeen_124 : decode cL_areSeen 124 = .ok (.iconst 2, 1) := by decide +kernel
theorem dL_areSeen_125 : decode cL_areSeen 125 = .ok (.invokevirtual 55, 3) := by decide +kernel
theorem dL_areSeen_128 : decode cL_areSeen 128 = .ok (.aload_n 0, 1) := by decide +kernel
theorem dL_areSeen_129 : decode cL_areSeen 129 = .ok (.iload 8, 2) := by decide +kernel
theorem dL_areSeen_131 : decode cL_areSeen 131 = .ok (.iconst 3, 1) := by decide +kernel
theorem dL_areSeen_132 : decode cL_areSeen 132 = .ok (.invokevirtual 55, 3) := by decide +kernel
theorem dL_areSeen_135 : decode cL_areSeen 135 = .ok (.iadd, 1) := by decide +kernel
theorem dL_areSeen_136 : decode cL_areSeen 136 = .ok (.if_icmp .lt 5, 3) := by decide +kernel
theorem dL_areSeen_139 : decode cL_areSeen 139 = .ok (.iconst 0, 1) := by decide +kernel
theorem dL_areSeen_140 : decode cL_areSeen 140 = .ok (.ireturn, 1) := by decide +kernel
theorem dL_areSeen_141 : decode cL_areSeen 141 = .ok (.iinc 7 1, 3) := by decide +kernel
theorem dL_areSeen_144 : decode cL_areSeen 144 = .ok (.goto (-124), 3) := by decide +kernel
theorem dL_areSeen_147 : decode cL_areSeen 147 = .ok (.iinc 6 1, 3) := by decide +kernel
theorem dL_areSeen_150 : decode cL_areSeen 150 = .ok (.goto (-139), 3) := by decide +kernel
theorem dL_areSeen_153 : decode cL_areSeen 153 = .ok (.iconst 0, 1) := by decide +kernel
theorem dL_areSeen_154 : decode cL_areSeen 154 = .ok (.istore 6, 2) := by decide +kernel
theorem dL_areSeen_156 : decode cL_areSeen 156 = .ok (.iconst 0, 1) := by decide +kernel
theorem dL_areSeen_157 : decode cL_areSeen 157 = .ok (.istore 7, 2) := by decide +kernel
theorem dL_areSeen_159 : decode cL_areSeen 159 = .ok (.iconst 0, 1) := by decide +kernel
theorem dL_areSeen_160 : decode cL_areSeen 160 = .ok (.istore 8, 2) := by decide +kernel
theorem dL_areSeen_162 : decode cL_areSeen 162 = .ok (.iconst 0, 1) := by decide +kernel
theorem dL_areSeen_163 : decode cL_areSeen 163 = .ok (.istore 9, 2) := by decide +kernel
theorem dL_areSeen_165 : decode cL_areSeen 165 = .ok (.iload 9, 2) := by decide +kernel
theorem dL_areSeen_167 : decode cL_areSeen 167 = .ok (.iload_n 2, 1) := by decide +kernel
theorem dL_areSeen_168 : decode cL_areSeen 168 = .ok (.if_icmp .ge 111, 3) := by decide +kernel
theorem dL_areSeen_171 : decode cL_areSeen 171 = .ok (.iload 6, 2) := by decide +kernel
theorem dL_areSeen_173 : decode cL_areSeen 173 = .ok (.aload 4, 2) := by decide +kernel
theorem dL_areSeen_175 : decode cL_areSeen 175 = .ok (.iload 9, 2) := by decide +kernel
theorem dL_areSeen_177 : decode cL_areSeen 177 = .ok (.iaload, 1) := by decide +kernel
theorem dL_areSeen_178 : decode cL_areSeen 178 = .ok (.iadd, 1) := by decide +kernel
theorem dL_areSeen_179 : decode cL_areSeen 179 = .ok (.istore 6, 2) := by decide +kernel
theorem dL_areSeen_181 : decode cL_areSeen 181 = .ok (.iload 7, 2) := by decide +kernel
theorem dL_areSeen_183 : decode cL_areSeen 183 = .ok (.aload_n 0, 1) := by decide +kernel
theorem dL_areSeen_184 : decode cL_areSeen 184 = .ok (.iload 9, 2) := by decide +kernel
theorem dL_areSeen_186 : decode cL_areSeen 186 = .ok (.bipush 7, 2) := by decide +kernel
theorem dL_areSeen_188 : decode cL_areSeen 188 = .ok (.invokevirtual 68, 3) := by decide +kernel
theorem dL_areSeen_191 : decode cL_areSeen 191 = .ok (.iadd, 1) := by decide +kernel
theorem dL_areSeen_192 : decode cL_areSeen 192 = .ok (.istore 7, 2) := by decide +kernel
theorem dL_areSeen_194 : decode cL_areSeen 194 = .ok (.iload 8, 2) := by decide +kernel
theorem dL_areSeen_196 : decode cL_areSeen 196 = .ok (.aload_n 0, 1) := by decide +kernel
theorem dL_areSeen_197 : decode cL_areSeen 197 = .ok (.iload 9, 2) := by decide +kernel
theorem dL_areSeen_199 : decode cL_areSeen 199 = .ok (.bipush 8, 2) := by decide +kernel
theorem dL_areSeen_201 : decode cL_areSeen 201 = .ok (.invokevirtual 68, 3) := by decide +kernel
theorem dL_areSeen_204 : decode cL_areSeen 204 = .ok (.iadd, 1) := by decide +kernel
theorem dL_areSeen_205 : decode cL_areSeen 205 = .ok (.istore 8, 2) := by decide +kernel
theorem dL_areSeen_207 : decode cL_areSeen 207 = .ok (.aload_n 0, 1) := by decide +kernel
theorem dL_areSeen_208 : decode cL_areSeen 208 = .ok (.iload 9, 2) := by decide +kernel
theorem dL_areSeen_210 : decode cL_areSeen 210 = .ok (.iconst 4, 1) := by decide +kernel
theorem dL_areSeen_211 : decode cL_areSeen 211 = .ok (.invokevirtual 68, 3) := by decide +kernel
theorem dL_areSeen_214 : decode cL_areSeen 214 = .ok (.aload 4, 2) := by decide +kernel
theorem dL_areSeen_216 : decode cL_areSeen 216 = .ok (.iload 9, 2) := by decide +kernel
theorem dL_areSeen_218 : decode cL_areSeen 218 = .ok (.iaload, 1) := by decide +kernel
theorem dL_areSeen_219 : decode cL_areSeen 219 = .ok (.if_icmp .ne 52, 3) := by decide +kernel
theorem dL_areSeen_222 : decode cL_areSeen 222 = .ok (.aload_n 0, 1) := by decide +kernel
theorem dL_areSeen_223 : decode cL_areSeen 223 = .ok (.iload 9, 2) := by decide +kernel
theorem dL_areSeen_225 : decode cL_areSeen 225 = .ok (.iconst 2, 1) := by decide +kernel
theorem dL_areSeen_226 : decode cL_areSeen 226 = .ok (.invokevirtual 68, 3) := by decide +kernel
theorem dL_areSeen_229 : decode cL_areSeen 229 = .ok (.aload_n 3, 1) := by decide +kernel
theorem dL_areSeen_230 : decode cL_areSeen 230 = .ok (.iload 9, 2) := by decide +kernel
theorem dL_areSeen_232 : decode cL_areSeen 232 = .ok (.iaload, 1) := by decide +kernel
theorem dL_areSeen_233 : decode cL_areSeen 233 = .ok (.if_icmp .ne 38, 3) := by decide +kernel
theorem dL_areSeen_236 : decode cL_areSeen 236 = .ok (.aload_n 0, 1) := by decide +kernel
theorem dL_areSeen_237 : decode cL_areSeen 237 = .ok (.iload 9, 2) := by decide +kernel
theorem dL_areSeen_239 : decode cL_areSeen 239 = .ok (.iconst 3, 1) := by decide +kernel
theorem dL_areSeen_240 : decode cL_areSeen 240 = .ok (.invokevirtual 68, 3) := by decide +kernel
theorem dL_areSeen_243 : decode cL_areSeen 243 = .ok (.iconst 1, 1) := by decide +kernel
theorem dL_areSeen_244 : decode cL_areSeen 244 = .ok (.if_icmp .ne 7, 3) := by decide +kernel
theorem dL_areSeen_247 : decode cL_areSeen 247 = .ok (.iconst 1, 1) := by decide +kernel
theorem dL_areSeen_248 : decode cL_areSeen 248 = .ok (.goto 4, 3) := by decide +kernel
theorem dL_areSeen_251 : decode cL_areSeen 251 = .ok (.iconst 0, 1) := by decide +kernel
theorem dL_areSeen_252 : decode cL_areSeen 252 = .ok (.aload_n 0, 1) := by decide +kernel
theorem dL_areSeen_253 : decode cL_areSeen 253 = .ok (.iload 9, 2) := by decide +kernel
theorem dL_areSeen_255 : decode cL_areSeen 255 = .ok (.bipush 10, 2) := by decide +kernel
theorem dL_areSeen_257 : decode cL_areSeen 257 = .ok (.invokevirtual 68, 3) := by decide +kernel
theorem dL_areSeen_260 : decode cL_areSeen 260 = .ok (.ifCond .le 7, 3) := by decide +kernel
theorem dL_areSeen_263 : decode cL_areSeen 263 = .ok (.iconst 1, 1) := by decide +kernel
theorem dL_areSeen_264 : decode cL_areSeen 264 = .ok (.goto 4, 3) := by decide +kernel
theorem dL_areSeen_267 : decode cL_areSeen 267 = .ok (.iconst 0, 1) := by decide +kernel
theorem dL_areSeen_268 : decode cL_areSeen 268 = .ok (.if_icmp .eq 5, 3) := by decide +kernel
theorem dL_areSeen_271 : decode cL_areSeen 271 = .ok (.iconst 0, 1) := by decide +kernel
theorem dL_areSeen_272 : decode cL_areSeen 272 = .ok (.ireturn, 1) := by decide +kernel
theorem dL_areSeen_273 : decode cL_areSeen 273 = .ok (.iinc 9 1, 3) := by decide +kernel
theorem dL_areSeen_276 : decode cL_areSeen 276 = .ok (.goto (-111), 3) := by decide +kernel
theorem dL_areSeen_279 : decode cL_areSeen 279 = .ok (.iload 7, 2) := by decide +kernel
theorem dL_areSeen_281 : decode cL_areSeen 281 = .ok (.iload 8, 2) := by decide +kernel
theorem dL_areSeen_283 : decode cL_areSeen 283 = .ok (.if_icmp .ne 57, 3) := by decide +kernel
theorem dL_areSeen_286 : decode cL_areSeen 286 = .ok (.aload_n 0, 1) := by decide +kernel
theorem dL_areSeen_287 : decode cL_areSeen 287 = .ok (.bipush 6, 2) := by decide +kernel
theorem dL_areSeen_289 : decode cL_areSeen 289 = .ok (.invokevirtual 29, 3) := by decide +kernel
theorem dL_areSeen_292 : decode cL_areSeen 292 = .ok (.iload 7, 2) := by decide +kernel
theorem dL_areSeen_294 : decode cL_areSeen 294 = .ok (.if_icmp .ne 46, 3) := by decide +kernel
theorem dL_areSeen_297 : decode cL_areSeen 297 = .ok (.aload_n 0, 1) := by decide +kernel
theorem dL_areSeen_298 : decode cL_areSeen 298 = .ok (.invokevirtual 115, 3) := by decide +kernel
theorem dL_areSeen_301 : decode cL_areSeen 301 = .ok (.iload 6, 2) := by decide +kernel
theorem dL_areSeen_303 : decode cL_areSeen 303 = .ok (.i2d, 1) := by decide +kernel
theorem dL_areSeen_304 : decode cL_areSeen 304 = .ok (.iload_n 2, 1) := by decide +kernel
theorem dL_areSeen_305 : decode cL_areSeen 305 = .ok (.i2d, 1) := by decide +kernel
theorem dL_areSeen_306 : decode cL_areSeen 306 = .ok (.ddiv, 1) := by decide +kernel
theorem dL_areSeen_307 : decode cL_areSeen 307 = .ok (.dcmp .l, 1) := by decide +kernel
theorem dL_areSeen_308 : decode cL_areSeen 308 = .ok (.ifCond .ne 32, 3) := by decide +kernel
theorem dL_areSeen_311 : decode cL_areSeen 311 = .ok (.aload_n 0, 1) := by decide +kernel
theorem dL_areSeen_312 : decode cL_areSeen 312 = .ok (.iconst 0, 1) := by decide +kernel
theorem dL_areSeen_313 : decode cL_areSeen 313 = .ok (.iconst 4, 1) := by decide +kernel
theorem dL_areSeen_314 : decode cL_areSeen 314 = .ok (.invokevirtual 42, 3) := by decide +kernel
theorem dL_areSeen_317 : decode cL_areSeen 317 = .ok (.aload_n 0, 1) := by decide +kernel
theorem dL_areSeen_318 : decode cL_areSeen 318 = .ok (.iconst 1, 1) := by decide +kernel
theorem dL_areSeen_319 : decode cL_areSeen 319 = .ok (.iconst 4, 1) := by decide +kernel
theorem dL_areSeen_320 : decode cL_areSeen 320 = .ok (.invokevirtual 42, 3) := by decide +kernel
theorem dL_areSeen_323 : decode cL_areSeen 323 = .ok (.iadd, 1) := by decide +kernel
theorem dL_areSeen_324 : decode cL_areSeen 324 = .ok (.aload_n 0, 1) := by decide +kernel
theorem dL_areSeen_325 : decode cL_areSeen 325 = .ok (.iconst 2, 1) := by decide +kernel
theorem dL_areSeen_326 : decode cL_areSeen 326 = .ok (.iconst 4, 1) := by decide +kernel
theorem dL_areSeen_327 : decode cL_areSeen 327 = .ok (.invokevirtual 42, 3) := by decide +kernel
theorem dL_areSeen_330 : decode cL_areSeen 330 = .ok (.iadd, 1) := by decide +kernel
theorem dL_areSeen_331 : decode cL_areSeen 331 = .ok (.iload 5, 2) := by decide +kernel
theorem dL_areSeen_333 : decode cL_areSeen 333 = .ok (.if_icmp .ne 7, 3) := by decide +kernel
theorem dL_areSeen_336 : decode cL_areSeen 336 = .ok (.iconst 1, 1) := by decide +kernel
theorem dL_areSeen_337 : decode cL_areSeen 337 = .ok (.goto 4, 3) := by decide +kernel
theorem dL_areSeen_340 : decode cL_areSeen 340 = .ok (.iconst 0, 1) := by decide +kernel
theorem dL_areSeen_341 : decode cL_areSeen 341 = .ok (.ireturn, 1) := by decide +kernel
