theorem dX7_init_0 : decode cX7_init 0 = .ok (.aload_n 0, 1) := by decide +kernel
theorem dX7_init_1 : decode cX7_init 1 = .ok (.invokespecial 1, 3) := by decide +kernel
theorem dX7_init_4 : decode cX7_init 4 = .ok (.aload_n 0, 1) := by decide +kernel
theorem dX7_init_5 : decode cX7_init 5 = .ok (.sipush 518, 3) := by decide +kernel
theorem dX7_init_8 : decode cX7_init 8 = .ok (.newarray .int, 2) := by decide +kernel
theorem dX7_init_10 : decode cX7_init 10 = .ok (.putfield 7, 3) := by decide +kernel
theorem dX7_init_13 : decode cX7_init 13 = .ok (.aload_n 0, 1) := by decide +kernel
theorem dX7_init_14 : decode cX7_init 14 = .ok (.sipush 518, 3) := by decide +kernel
theorem dX7_init_17 : decode cX7_init 17 = .ok (.newarray .int, 2) := by decide +kernel
theorem dX7_init_19 : decode cX7_init 19 = .ok (.putfield 13, 3) := by decide +kernel
theorem dX7_init_22 : decode cX7_init 22 = .ok (.aload_n 0, 1) := by decide +kernel
theorem dX7_init_23 : decode cX7_init 23 = .ok (.sipush 2590, 3) := by decide +kernel
theorem dX7_init_26 : decode cX7_init 26 = .ok (.newarray .int, 2) := by decide +kernel
theorem dX7_init_28 : decode cX7_init 28 = .ok (.putfield 16, 3) := by decide +kernel
theorem dX7_init_31 : decode cX7_init 31 = .ok (.aload_n 0, 1) := by decide +kernel
theorem dX7_init_32 : decode cX7_init 32 = .ok (.bipush 80, 2) := by decide +kernel
theorem dX7_init_34 : decode cX7_init 34 = .ok (.newarray .int, 2) := by decide +kernel
theorem dX7_init_36 : decode cX7_init 36 = .ok (.putfield 19, 3) := by decide +kernel
theorem dX7_init_39 : decode cX7_init 39 = .ok (.aload_n 0, 1) := by decide +kernel
theorem dX7_init_40 : decode cX7_init 40 = .ok (.bipush 8, 2) := by decide +kernel
theorem dX7_init_42 : decode cX7_init 42 = .ok (.newarray .int, 2) := by decide +kernel
theorem dX7_init_44 : decode cX7_init 44 = .ok (.putfield 22, 3) := by decide +kernel
theorem dX7_init_47 : decode cX7_init 47 = .ok (.aload_n 0, 1) := by decide +kernel
theorem dX7_init_48 : decode cX7_init 48 = .ok (.getfield 7, 3) := by decide +kernel
theorem dX7_init_51 : decode cX7_init 51 = .ok (.iconst 2, 1) := by decide +kernel
theorem dX7_init_52 : decode cX7_init 52 = .ok (.bipush 20, 2) := by decide +kernel
theorem dX7_init_54 : decode cX7_init 54 = .ok (.iastore, 1) := by decide +kernel
theorem dX7_init_55 : decode cX7_init 55 = .ok (.aload_n 0, 1) := by decide +kernel
theorem dX7_init_56 : decode cX7_init 56 = .ok (.getfield 7, 3) := by decide +kernel
theorem dX7_init_59 : decode cX7_init 59 = .ok (.iconst 3, 1) := by decide +kernel
theorem dX7_init_60 : decode cX7_init 60 = .ok (.iconst 2, 1) := by decide +kernel
theorem dX7_init_61 : decode cX7_init 61 = .ok (.iastore, 1) := by decide +kernel
theorem dX7_init_62 : decode cX7_init 62 = .ok (.aload_n 0, 1) := by decide +kernel
theorem dX7_init_63 : decode cX7_init 63 = .ok (.getfield 7, 3) := by decide +kernel
theorem dX7_init_66 : decode cX7_init 66 = .ok (.iconst 4, 1) := by decide +kernel
theorem dX7_init_67 : decode cX7_init 67 = .ok (.iconst 1, 1) := by decide +kernel
theorem dX7_init_68 : decode cX7_init 68 = .ok (.iastore, 1) := by decide +kernel
theorem dX7_init_69 : decode cX7_init 69 = .ok (.aload_n 0, 1) := by decide +kernel
theorem dX7_init_70 : decode cX7_init 70 = .ok (.bipush 6, 2) := by decide +kernel
theorem dX7_init_72 : decode cX7_init 72 = .ok (.iconst 4, 1) := by decide +kernel
theorem dX7_init_73 : decode cX7_init 73 = .ok (.invokevirtual 25, 3) := by decide +kernel
theorem dX7_init_76 : decode cX7_init 76 = .ok (.return_, 1) := by decide +kernel
theorem dX7_in_0 : decode cX7_in 0 = .ok (.iload_n 0, 1) := by decide +kernel
theorem dX7_in_1 : decode cX7_in 1 = .ok (.iload_n 1, 1) := by decide +kernel
theorem dX7_in_2 : decode cX7_in 2 = .ok (.if_icmp .lt 12, 3) := by decide +kernel
theorem dX7_in_5 : decode cX7_in 5 = .ok (.iload_n 0, 1) := by decide +kernel
theorem dX7_in_6 : decode cX7_in 6 = .ok (.iload_n 2, 1) := by decide +kernel
theorem dX7_in_7 : decode cX7_in 7 = .ok (.if_icmp .gt 7, 3) := by decide +kernel
theorem dX7_in_10 : decode cX7_in 10 = .ok (.iconst 1, 1) := by decide +kernel
theorem dX7_in_11 : decode cX7_in 11 = .ok (.goto 4, 3) := by decide +kernel
theorem dX7_in_14 : decode cX7_in 14 = .ok (.iconst 0, 1) := by decide +kernel
theorem dX7_in_15 : decode cX7_in 15 = .ok (.ireturn, 1) := by decide +kernel
theorem dX7_lesser_0 : decode cX7_lesser 0 = .ok (.iload_n 0, 1) := by decide +kernel
theorem dX7_lesser_1 : decode cX7_lesser 1 = .ok (.iload_n 1, 1) := by decide +kernel
theorem dX7_lesser_2 : decode cX7_lesser 2 = .ok (.if_icmp .ge 7, 3) := by decide +kernel
theorem dX7_lesser_5 : decode cX7_lesser 5 = .ok (.iload_n 0, 1) := by decide +kernel
theorem dX7_lesser_6 : decode cX7_lesser 6 = .ok (.goto 4, 3) := by decide +kernel
theorem dX7_lesser_9 : decode cX7_lesser 9 = .ok (.iload_n 1, 1) := by decide +kernel
theorem dX7_lesser_10 : decode cX7_lesser 10 = .ok (.ireturn, 1) := by decide +kernel
theorem dX7_size_0 : decode cX7_size 0 = .ok (.iload_n 0, 1) := by decide +kernel
theorem dX7_size_1 : decode cX7_size 1 = .ok (.ifCond .ge 8, 3) := by decide +kernel
theorem dX7_size_4 : decode cX7_size 4 = .ok (.iload_n 0, 1) := by decide +kernel
theorem dX7_size_5 : decode cX7_size 5 = .ok (.ineg, 1) := by decide +kernel
theorem dX7_size_6 : decode cX7_size 6 = .ok (.goto 4, 3) := by decide +kernel
theorem dX7_size_9 : decode cX7_size 9 = .ok (.iload_n 0, 1) := by decide +kernel
theorem dX7_size_10 : decode cX7_size 10 = .ok (.ireturn, 1) := by decide +kernel
theorem dX7_bring_0 : decode cX7_bring 0 = .ok (.iconst 0, 1) := by decide +kernel
theorem dX7_bring_1 : decode cX7_bring 1 = .ok (.istore 4, 2) := by decide +kernel
theorem dX7_bring_3 : decode cX7_bring 3 = .ok (.iload 4, 2) := by decide +kernel
theorem dX7_bring_5 : decode cX7_bring 5 = .ok (.sipush 518, 3) := by decide +kernel
theorem dX7_bring_8 : decode cX7_bring 8 = .ok (.if_icmp .ge 21, 3) := by decide +kernel
theorem dX7_bring_11 : decode cX7_bring 11 = .ok (.aload_n 2, 1) := by decide +kernel
theorem dX7_bring_12 : decode cX7_bring 12 = .ok (.iload_n 3, 1) := by decide +kernel
theorem dX7_bring_13 : decode cX7_bring 13 = .ok (.iload 4, 2) := by decide +kernel
theorem dX7_bring_15 : decode cX7_bring 15 = .ok (.iadd, 1) := by decide +kernel
theorem dX7_bring_16 : decode cX7_bring 16 = .ok (.aload_n 0, 1) := by decide +kernel
theorem dX7_bring_17 : decode cX7_bring 17 = .ok (.iload_n 1, 1) := by decide +kernel
theorem dX7_bring_18 : decode cX7_bring 18 = .ok (.iload 4, 2) := by decide +kernel
theorem dX7_bring_20 : decode cX7_bring 20 = .ok (.iadd, 1) := by decide +kernel
theorem dX7_bring_21 : decode cX7_bring 21 = .ok (.iaload, 1) := by decide +kernel
theorem dX7_bring_22 : decode cX7_bring 22 = .ok (.iastore, 1) := by decide +kernel
theorem dX7_bring_23 : decode cX7_bring 23 = .ok (.iinc 4 1, 3) := by decide +kernel
theorem dX7_bring_26 : decode cX7_bring 26 = .ok (.goto (-23), 3) := by decide +kernel
theorem dX7_bring_29 : decode cX7_bring 29 = .ok (.return_, 1) := by decide +kernel
theorem dX7_keep_0 : decode cX7_keep 0 = .ok (.aload_n 0, 1) := by decide +kernel
theorem dX7_keep_1 : decode cX7_keep 1 = .ok (.getfield 29, 3) := by decide +kernel
theorem dX7_keep_4 : decode cX7_keep 4 = .ok (.iconst 5, 1) := by decide +kernel
theorem dX7_keep_5 : decode cX7_keep 5 = .ok (.if_icmp .ne 44, 3) := by decide +kernel
theorem dX7_keep_8 : decode cX7_keep 8 = .ok (.iconst 0, 1) := by decide +kernel
theorem dX7_keep_9 : decode cX7_keep 9 = .ok (.istore_n 1, 1) := by decide +kernel
theorem dX7_keep_10 : decode cX7_keep 10 = .ok (.iload_n 1, 1) := by decide +kernel
theorem dX7_keep_11 : decode cX7_keep 11 = .ok (.sipush 2072, 3) := by decide +kernel
theorem dX7_keep_14 : decode cX7_keep 14 = .ok (.if_icmp .ge 25, 3) := by decide +kernel
theorem dX7_keep_17 : decode cX7_keep 17 = .ok (.aload_n 0, 1) := by decide +kernel
theorem dX7_keep_18 : decode cX7_keep 18 = .ok (.getfield 16, 3) := by decide +kernel
theorem dX7_keep_21 : decode cX7_keep 21 = .ok (.iload_n 1, 1) := by decide +kernel
theorem dX7_keep_22 : decode cX7_keep 22 = .ok (.aload_n 0, 1) := by decide +kernel
theorem dX7_keep_23 : decode cX7_keep 23 = .ok (.getfield 16, 3) := by decide +kernel
theorem dX7_keep_26 : decode cX7_keep 26 = .ok (.iload_n 1, 1) := by decide +kernel
theorem dX7_keep_27 : decode cX7_keep 27 = .ok (.sipush 518, 3) := by decide +kernel
theorem dX7_keep_30 : decode cX7_keep 30 = .ok (.iadd, 1) := by decide +kernel
theorem dX7_keep_31 : decode cX7_keep 31 = .ok (.iaload, 1) := by decide +kernel
theorem dX7_keep_32 : decode cX7_keep 32 = .ok (.iastore, 1) := by decide +kernel
theorem dX7_keep_33 : decode cX7_keep 33 = .ok (.iinc 1 1, 3) := by decide +kernel
theorem dX7_keep_36 : decode cX7_keep 36 = .ok (.goto (-26), 3) := by decide +kernel
theorem dX7_keep_39 : decode cX7_keep 39 = .ok (.aload_n 0, 1) := by decide +kernel
theorem dX7_keep_40 : decode cX7_keep 40 = .ok (.dup, 1) := by decide +kernel
theorem dX7_keep_41 : decode cX7_keep 41 = .ok (.getfield 29, 3) := by decide +kernel
theorem dX7_keep_44 : decode cX7_keep 44 = .ok (.iconst 1, 1) := by decide +kernel
theorem dX7_keep_45 : decode cX7_keep 45 = .ok (.isub, 1) := by decide +kernel
theorem dX7_keep_46 : decode cX7_keep 46 = .ok (.putfield 29, 3) := by decide +kernel
theorem dX7_keep_49 : decode cX7_keep 49 = .ok (.aload_n 0, 1) := by decide +kernel
theorem dX7_keep_50 : decode cX7_keep 50 = .ok (.getfield 7, 3) := by decide +kernel
theorem dX7_keep_53 : decode cX7_keep 53 = .ok (.iconst 0, 1) := by decide +kernel
theorem dX7_keep_54 : decode cX7_keep 54 = .ok (.aload_n 0, 1) := by decide +kernel
theorem dX7_keep_55 : decode cX7_keep 55 = .ok (.getfield 16, 3) := by decide +kernel
theorem dX7_keep_58 : decode cX7_keep 58 = .ok (.sipush 518, 3) := by decide +kernel
theorem dX7_keep_61 : decode cX7_keep 61 = .ok (.aload_n 0, 1) := by decide +kernel
theorem dX7_keep_62 : decode cX7_keep 62 = .ok (.getfield 29, 3) := by decide +kernel
theorem dX7_keep_65 : decode cX7_keep 65 = .ok (.imul, 1) := by decide +kernel
theorem dX7_keep_66 : decode cX7_keep 66 = .ok (.invokestatic 33, 3) := by decide +kernel
theorem dX7_keep_69 : decode cX7_keep 69 = .ok (.aload_n 0, 1) := by decide +kernel
theorem dX7_keep_70 : decode cX7_keep 70 = .ok (.dup, 1) := by decide +kernel
theorem dX7_keep_71 : decode cX7_keep 71 = .ok (.getfield 29, 3) := by decide +kernel
theorem dX7_keep_74 : decode cX7_keep 74 = .ok (.iconst 1, 1) := by decide +kernel
theorem dX7_keep_75 : decode cX7_keep 75 = .ok (.iadd, 1) := by decide +kernel
theorem dX7_keep_76 : decode cX7_keep 76 = .ok (.putfield 29, 3) := by decide +kernel
theorem dX7_keep_79 : decode cX7_keep 79 = .ok (.return_, 1) := by decide +kernel
theorem dX7_beginWith_0 : decode cX7_beginWith 0 = .ok (.aload_n 0, 1) := by decide +kernel
theorem dX7_beginWith_1 : decode cX7_beginWith 1 = .ok (.getfield 7, 3) := by decide +kernel
theorem dX7_beginWith_4 : decode cX7_beginWith 4 = .ok (.iconst 0, 1) := by decide +kernel
theorem dX7_beginWith_5 : decode cX7_beginWith 5 = .ok (.iload_n 1, 1) := by decide +kernel
theorem dX7_beginWith_6 : decode cX7_beginWith 6 = .ok (.iastore, 1) := by decide +kernel
theorem dX7_beginWith_7 : decode cX7_beginWith 7 = .ok (.aload_n 0, 1) := by decide +kernel
theorem dX7_beginWith_8 : decode cX7_beginWith 8 = .ok (.getfield 7, 3) := by decide +kernel
theorem dX7_beginWith_11 : decode cX7_beginWith 11 = .ok (.iconst 1, 1) := by decide +kernel
theorem dX7_beginWith_12 : decode cX7_beginWith 12 = .ok (.iload_n 2, 1) := by decide +kernel
theorem dX7_beginWith_13 : decode cX7_beginWith 13 = .ok (.iastore, 1) := by decide +kernel
theorem dX7_beginWith_14 : decode cX7_beginWith 14 = .ok (.iconst 0, 1) := by decide +kernel
theorem dX7_beginWith_15 : decode cX7_beginWith 15 = .ok (.istore_n 3, 1) := by decide +kernel
theorem dX7_beginWith_16 : decode cX7_beginWith 16 = .ok (.iload_n 3, 1) := by decide +kernel
theorem dX7_beginWith_17 : decode cX7_beginWith 17 = .ok (.sipush 144, 3) := by decide +kernel
theorem dX7_beginWith_20 : decode cX7_beginWith 20 = .ok (.if_icmp .ge 31, 3) := by decide +kernel
theorem dX7_beginWith_23 : decode cX7_beginWith 23 = .ok (.aload_n 0, 1) := by decide +kernel
theorem dX7_beginWith_24 : decode cX7_beginWith 24 = .ok (.getfield 7, 3) := by decide +kernel
theorem dX7_beginWith_27 : decode cX7_beginWith 27 = .ok (.bipush 20, 2) := by decide +kernel
theorem dX7_beginWith_29 : decode cX7_beginWith 29 = .ok (.iload_n 3, 1) := by decide +kernel
theorem dX7_beginWith_30 : decode cX7_beginWith 30 = .ok (.iadd, 1) := by decide +kernel
theorem dX7_beginWith_31 : decode cX7_beginWith 31 = .ok (.bipush 50, 2) := by decide +kernel
theorem dX7_beginWith_33 : decode cX7_beginWith 33 = .ok (.iastore, 1) := by decide +kernel
theorem dX7_beginWith_34 : decode cX7_beginWith 34 = .ok (.aload_n 0, 1) := by decide +kernel
theorem dX7_beginWith_35 : decode cX7_beginWith 35 = .ok (.getfield 7, 3) := by decide +kernel
theorem dX7_beginWith_38 : decode cX7_beginWith 38 = .ok (.sipush 164, 3) := by decide +kernel
theorem dX7_beginWith_41 : decode cX7_beginWith 41 = .ok (.iload_n 3, 1) := by decide +kernel
theorem dX7_beginWith_42 : decode cX7_beginWith 42 = .ok (.iadd, 1) := by decide +kernel
theorem dX7_beginWith_43 : decode cX7_beginWith 43 = .ok (.iconst (-1), 1) := by decide +kernel
theorem dX7_beginWith_44 : decode cX7_beginWith 44 = .ok (.iastore, 1) := by decide +kernel
theorem dX7_beginWith_45 : decode cX7_beginWith 45 = .ok (.iinc 3 1, 3) := by decide +kernel
theorem dX7_beginWith_48 : decode cX7_beginWith 48 = .ok (.goto (-32), 3) := by decide +kernel
theorem dX7_beginWith_51 : decode cX7_beginWith 51 = .ok (.return_, 1) := by decide +kernel
theorem dX7_isCell_0 : decode cX7_isCell 0 = .ok (.iload_n 1, 1) := by decide +kernel
theorem dX7_isCell_1 : decode cX7_isCell 1 = .ok (.iconst 0, 1) := by decide +kernel
theorem dX7_isCell_2 : decode cX7_isCell 2 = .ok (.aload_n 0, 1) := by decide +kernel
theorem dX7_isCell_3 : decode cX7_isCell 3 = .ok (.getfield 7, 3) := by decide +kernel
theorem dX7_isCell_6 : decode cX7_isCell 6 = .ok (.iconst 0, 1) := by decide +kernel
theorem dX7_isCell_7 : decode cX7_isCell 7 = .ok (.iaload, 1) := by decide +kernel
theorem dX7_isCell_8 : decode cX7_isCell 8 = .ok (.iconst 1, 1) := by decide +kernel
theorem dX7_isCell_9 : decode cX7_isCell 9 = .ok (.isub, 1) := by decide +kernel
theorem dX7_isCell_10 : decode cX7_isCell 10 = .ok (.invokestatic 37, 3) := by decide +kernel
theorem dX7_isCell_13 : decode cX7_isCell 13 = .ok (.ifCond .eq 23, 3) := by decide +kernel
theorem dX7_isCell_16 : decode cX7_isCell 16 = .ok (.iload_n 2, 1) := by decide +kernel
theorem dX7_isCell_17 : decode cX7_isCell 17 = .ok (.iconst 0, 1) := by decide +kernel
theorem dX7_isCell_18 : decode cX7_isCell 18 = .ok (.aload_n 0, 1) := by decide +kernel
theorem dX7_isCell_19 : decode cX7_isCell 19 = .ok (.getfield 7, 3) := by decide +kernel
theorem dX7_isCell_22 : decode cX7_isCell 22 = .ok (.iconst 1, 1) := by decide +kernel
theorem dX7_isCell_23 : decode cX7_isCell 23 = .ok (.iaload, 1) := by decide +kernel
theorem dX7_isCell_24 : decode cX7_isCell 24 = .ok (.iconst 1, 1) := by decide +kernel
theorem dX7_isCell_25 : decode cX7_isCell 25 = .ok (.isub, 1) := by decide +kernel
theorem dX7_isCell_26 : decode cX7_isCell 26 = .ok (.invokestatic 37, 3) := by decide +kernel
theorem dX7_isCell_29 : decode cX7_isCell 29 = .ok (.ifCond .eq 7, 3) := by decide +kernel
theorem dX7_isCell_32 : decode cX7_isCell 32 = .ok (.iconst 1, 1) := by decide +kernel
theorem dX7_isCell_33 : decode cX7_isCell 33 = .ok (.goto 4, 3) := by decide +kernel
theorem dX7_isCell_36 : decode cX7_isCell 36 = .ok (.iconst 0, 1) := by decide +kernel
theorem dX7_isCell_37 : decode cX7_isCell 37 = .ok (.ireturn, 1) := by decide +kernel
theorem dX7_cells_0 : decode cX7_cells 0 = .ok (.aload_n 0, 1) := by decide +kernel
theorem dX7_cells_1 : decode cX7_cells 1 = .ok (.getfield 7, 3) := by decide +kernel
theorem dX7_cells_4 : decode cX7_cells 4 = .ok (.iconst 0, 1) := by decide +kernel
theorem dX7_cells_5 : decode cX7_cells 5 = .ok (.iaload, 1) := by decide +kernel
theorem dX7_cells_6 : decode cX7_cells 6 = .ok (.aload_n 0, 1) := by decide +kernel
theorem dX7_cells_7 : decode cX7_cells 7 = .ok (.getfield 7, 3) := by decide +kernel
theorem dX7_cells_10 : decode cX7_cells 10 = .ok (.iconst 1, 1) := by decide +kernel
theorem dX7_cells_11 : decode cX7_cells 11 = .ok (.iaload, 1) := by decide +kernel
theorem dX7_cells_12 : decode cX7_cells 12 = .ok (.imul, 1) := by decide +kernel
theorem dX7_cells_13 : decode cX7_cells 13 = .ok (.ireturn, 1) := by decide +kernel
theorem dX7_laidCells_0 : decode cX7_laidCells 0 = .ok (.iconst 0, 1) := by decide +kernel
theorem dX7_laidCells_1 : decode cX7_laidCells 1 = .ok (.istore_n 1, 1) := by decide +kernel
theorem dX7_laidCells_2 : decode cX7_laidCells 2 = .ok (.iconst 0, 1) := by decide +kernel
theorem dX7_laidCells_3 : decode cX7_laidCells 3 = .ok (.istore_n 2, 1) := by decide +kernel
theorem dX7_laidCells_4 : decode cX7_laidCells 4 = .ok (.iload_n 2, 1) := by decide +kernel
theorem dX7_laidCells_5 : decode cX7_laidCells 5 = .ok (.aload_n 0, 1) := by decide +kernel
theorem dX7_laidCells_6 : decode cX7_laidCells 6 = .ok (.invokevirtual 41, 3) := by decide +kernel
theorem dX7_laidCells_9 : decode cX7_laidCells 9 = .ok (.if_icmp .ge 31, 3) := by decide +kernel
theorem dX7_laidCells_12 : decode cX7_laidCells 12 = .ok (.iload_n 1, 1) := by decide +kernel
theorem dX7_laidCells_13 : decode cX7_laidCells 13 = .ok (.aload_n 0, 1) := by decide +kernel
theorem dX7_laidCells_14 : decode cX7_laidCells 14 = .ok (.getfield 7, 3) := by decide +kernel
theorem dX7_laidCells_17 : decode cX7_laidCells 17 = .ok (.sipush 164, 3) := by decide +kernel
theorem dX7_laidCells_20 : decode cX7_laidCells 20 = .ok (.iload_n 2, 1) := by decide +kernel
theorem dX7_laidCells_21 : decode cX7_laidCells 21 = .ok (.iadd, 1) := by decide +kernel
theorem dX7_laidCells_22 : decode cX7_laidCells 22 = .ok (.iaload, 1) := by decide +kernel
theorem dX7_laidCells_23 : decode cX7_laidCells 23 = .ok (.iconst (-1), 1) := by decide +kernel
theorem dX7_laidCells_24 : decode cX7_laidCells 24 = .ok (.if_icmp .eq 7, 3) := by decide +kernel
theorem dX7_laidCells_27 : decode cX7_laidCells 27 = .ok (.iconst 1, 1) := by decide +kernel
theorem dX7_laidCells_28 : decode cX7_laidCells 28 = .ok (.goto 4, 3) := by decide +kernel
theorem dX7_laidCells_31 : decode cX7_laidCells 31 = .ok (.iconst 0, 1) := by decide +kernel
theorem dX7_laidCells_32 : decode cX7_laidCells 32 = .ok (.iadd, 1) := by decide +kernel
theorem dX7_laidCells_33 : decode cX7_laidCells 33 = .ok (.istore_n 1, 1) := by decide +kernel
theorem dX7_laidCells_34 : decode cX7_laidCells 34 = .ok (.iinc 2 1, 3) := by decide +kernel
theorem dX7_laidCells_37 : decode cX7_laidCells 37 = .ok (.goto (-33), 3) := by decide +kernel
theorem dX7_laidCells_40 : decode cX7_laidCells 40 = .ok (.iload_n 1, 1) := by decide +kernel
theorem dX7_laidCells_41 : decode cX7_laidCells 41 = .ok (.ireturn, 1) := by decide +kernel
theorem dX7_around_0 : decode cX7_around 0 = .ok (.iconst 2, 1) := by decide +kernel
theorem dX7_around_1 : decode cX7_around 1 = .ok (.aload_n 0, 1) := by decide +kernel
theorem dX7_around_2 : decode cX7_around 2 = .ok (.getfield 7, 3) := by decide +kernel
theorem dX7_around_5 : decode cX7_around 5 = .ok (.iconst 0, 1) := by decide +kernel
theorem dX7_around_6 : decode cX7_around 6 = .ok (.iaload, 1) := by decide +kernel
theorem dX7_around_7 : decode cX7_around 7 = .ok (.aload_n 0, 1) := by decide +kernel
theorem dX7_around_8 : decode cX7_around 8 = .ok (.getfield 7, 3) := by decide +kernel
theorem dX7_around_11 : decode cX7_around 11 = .ok (.iconst 1, 1) := by decide +kernel
theorem dX7_around_12 : decode cX7_around 12 = .ok (.iaload, 1) := by decide +kernel
theorem dX7_around_13 : decode cX7_around 13 = .ok (.iadd, 1) := by decide +kernel
theorem dX7_around_14 : decode cX7_around 14 = .ok (.imul, 1) := by decide +kernel
theorem dX7_around_15 : decode cX7_around 15 = .ok (.iconst 4, 1) := by decide +kernel
theorem dX7_around_16 : decode cX7_around 16 = .ok (.isub, 1) := by decide +kernel
theorem dX7_around_17 : decode cX7_around 17 = .ok (.ireturn, 1) := by decide +kernel
theorem dX7_borderOf_0 : decode cX7_borderOf 0 = .ok (.aload_n 0, 1) := by decide +kernel
theorem dX7_borderOf_1 : decode cX7_borderOf 1 = .ok (.getfield 7, 3) := by decide +kernel
theorem dX7_borderOf_4 : decode cX7_borderOf 4 = .ok (.iconst 0, 1) := by decide +kernel
theorem dX7_borderOf_5 : decode cX7_borderOf 5 = .ok (.iaload, 1) := by decide +kernel
theorem dX7_borderOf_6 : decode cX7_borderOf 6 = .ok (.iconst 1, 1) := by decide +kernel
theorem dX7_borderOf_7 : decode cX7_borderOf 7 = .ok (.isub, 1) := by decide +kernel
theorem dX7_borderOf_8 : decode cX7_borderOf 8 = .ok (.istore_n 3, 1) := by decide +kernel
theorem dX7_borderOf_9 : decode cX7_borderOf 9 = .ok (.aload_n 0, 1) := by decide +kernel
theorem dX7_borderOf_10 : decode cX7_borderOf 10 = .ok (.getfield 7, 3) := by decide +kernel
theorem dX7_borderOf_13 : decode cX7_borderOf 13 = .ok (.iconst 1, 1) := by decide +kernel
theorem dX7_borderOf_14 : decode cX7_borderOf 14 = .ok (.iaload, 1) := by decide +kernel
theorem dX7_borderOf_15 : decode cX7_borderOf 15 = .ok (.iconst 1, 1) := by decide +kernel
theorem dX7_borderOf_16 : decode cX7_borderOf 16 = .ok (.isub, 1) := by decide +kernel
theorem dX7_borderOf_17 : decode cX7_borderOf 17 = .ok (.istore 4, 2) := by decide +kernel
theorem dX7_borderOf_19 : decode cX7_borderOf 19 = .ok (.iload_n 2, 1) := by decide +kernel
theorem dX7_borderOf_20 : decode cX7_borderOf 20 = .ok (.ifCond .ne 7, 3) := by decide +kernel
theorem dX7_borderOf_23 : decode cX7_borderOf 23 = .ok (.iload_n 1, 1) := by decide +kernel
theorem dX7_borderOf_24 : decode cX7_borderOf 24 = .ok (.goto 50, 3) := by decide +kernel
theorem dX7_borderOf_27 : decode cX7_borderOf 27 = .ok (.iload_n 1, 1) := by decide +kernel
theorem dX7_borderOf_28 : decode cX7_borderOf 28 = .ok (.iload_n 3, 1) := by decide +kernel
theorem dX7_borderOf_29 : decode cX7_borderOf 29 = .ok (.if_icmp .ne 9, 3) := by decide +kernel
theorem dX7_borderOf_32 : decode cX7_borderOf 32 = .ok (.iload_n 3, 1) := by decide +kernel
theorem dX7_borderOf_33 : decode cX7_borderOf 33 = .ok (.iload_n 2, 1) := by decide +kernel
theorem dX7_borderOf_34 : decode cX7_borderOf 34 = .ok (.iadd, 1) := by decide +kernel
theorem dX7_borderOf_35 : decode cX7_borderOf 35 = .ok (.goto 39, 3) := by decide +kernel
theorem dX7_borderOf_38 : decode cX7_borderOf 38 = .ok (.iload_n 2, 1) := by decide +kernel
theorem dX7_borderOf_39 : decode cX7_borderOf 39 = .ok (.iload 4, 2) := by decide +kernel
theorem dX7_borderOf_41 : decode cX7_borderOf 41 = .ok (.if_icmp .ne 14, 3) := by decide +kernel
theorem dX7_borderOf_44 : decode cX7_borderOf 44 = .ok (.iload_n 3, 1) := by decide +kernel
theorem dX7_borderOf_45 : decode cX7_borderOf 45 = .ok (.iload 4, 2) := by decide +kernel
theorem dX7_borderOf_47 : decode cX7_borderOf 47 = .ok (.iadd, 1) := by decide +kernel
theorem dX7_borderOf_48 : decode cX7_borderOf 48 = .ok (.iload_n 3, 1) := by decide +kernel
theorem dX7_borderOf_49 : decode cX7_borderOf 49 = .ok (.iadd, 1) := by decide +kernel
theorem dX7_borderOf_50 : decode cX7_borderOf 50 = .ok (.iload_n 1, 1) := by decide +kernel
theorem dX7_borderOf_51 : decode cX7_borderOf 51 = .ok (.isub, 1) := by decide +kernel
theorem dX7_borderOf_52 : decode cX7_borderOf 52 = .ok (.goto 22, 3) := by decide +kernel
theorem dX7_borderOf_55 : decode cX7_borderOf 55 = .ok (.iload_n 1, 1) := by decide +kernel
theorem dX7_borderOf_56 : decode cX7_borderOf 56 = .ok (.ifCond .ne 17, 3) := by decide +kernel
theorem dX7_borderOf_59 : decode cX7_borderOf 59 = .ok (.iconst 2, 1) := by decide +kernel
theorem dX7_borderOf_60 : decode cX7_borderOf 60 = .ok (.iload_n 3, 1) := by decide +kernel
theorem dX7_borderOf_61 : decode cX7_borderOf 61 = .ok (.imul, 1) := by decide +kernel
theorem dX7_borderOf_62 : decode cX7_borderOf 62 = .ok (.iload 4, 2) := by decide +kernel
theorem dX7_borderOf_64 : decode cX7_borderOf 64 = .ok (.iadd, 1) := by decide +kernel
theorem dX7_borderOf_65 : decode cX7_borderOf 65 = .ok (.iload 4, 2) := by decide +kernel
theorem dX7_borderOf_67 : decode cX7_borderOf 67 = .ok (.iadd, 1) := by decide +kernel
theorem dX7_borderOf_68 : decode cX7_borderOf 68 = .ok (.iload_n 2, 1) := by decide +kernel
theorem dX7_borderOf_69 : decode cX7_borderOf 69 = .ok (.isub, 1) := by decide +kernel
theorem dX7_borderOf_70 : decode cX7_borderOf 70 = .ok (.goto 4, 3) := by decide +kernel
theorem dX7_borderOf_73 : decode cX7_borderOf 73 = .ok (.iconst (-1), 1) := by decide +kernel
theorem dX7_borderOf_74 : decode cX7_borderOf 74 = .ok (.ireturn, 1) := by decide +kernel
theorem dX7_borderWants_0 : decode cX7_borderWants 0 = .ok (.aload_n 0, 1) := by decide +kernel
theorem dX7_borderWants_1 : decode cX7_borderWants 1 = .ok (.getfield 7, 3) := by decide +kernel
theorem dX7_borderWants_4 : decode cX7_borderWants 4 = .ok (.iconst 5, 1) := by decide +kernel
theorem dX7_borderWants_5 : decode cX7_borderWants 5 = .ok (.iaload, 1) := by decide +kernel
theorem dX7_borderWants_6 : decode cX7_borderWants 6 = .ok (.ifCond .ne 20, 3) := by decide +kernel
theorem dX7_borderWants_9 : decode cX7_borderWants 9 = .ok (.aload_n 0, 1) := by decide +kernel
theorem dX7_borderWants_10 : decode cX7_borderWants 10 = .ok (.getfield 7, 3) := by decide +kernel
theorem dX7_borderWants_13 : decode cX7_borderWants 13 = .ok (.bipush 12, 2) := by decide +kernel
theorem dX7_borderWants_15 : decode cX7_borderWants 15 = .ok (.iload_n 1, 1) := by decide +kernel
theorem dX7_borderWants_16 : decode cX7_borderWants 16 = .ok (.aload_n 0, 1) := by decide +kernel
theorem dX7_borderWants_17 : decode cX7_borderWants 17 = .ok (.getfield 7, 3) := by decide +kernel
theorem dX7_borderWants_20 : decode cX7_borderWants 20 = .ok (.iconst 4, 1) := by decide +kernel
theorem dX7_borderWants_21 : decode cX7_borderWants 21 = .ok (.iaload, 1) := by decide +kernel
theorem dX7_borderWants_22 : decode cX7_borderWants 22 = .ok (.irem, 1) := by decide +kernel
theorem dX7_borderWants_23 : decode cX7_borderWants 23 = .ok (.iadd, 1) := by decide +kernel
theorem dX7_borderWants_24 : decode cX7_borderWants 24 = .ok (.iaload, 1) := by decide +kernel
theorem dX7_borderWants_25 : decode cX7_borderWants 25 = .ok (.ireturn, 1) := by decide +kernel
theorem dX7_borderWants_26 : decode cX7_borderWants 26 = .ok (.aload_n 0, 1) := by decide +kernel
theorem dX7_borderWants_27 : decode cX7_borderWants 27 = .ok (.getfield 7, 3) := by decide +kernel
theorem dX7_borderWants_30 : decode cX7_borderWants 30 = .ok (.iconst 0, 1) := by decide +kernel
theorem dX7_borderWants_31 : decode cX7_borderWants 31 = .ok (.iaload, 1) := by decide +kernel
theorem dX7_borderWants_32 : decode cX7_borderWants 32 = .ok (.iconst 1, 1) := by decide +kernel
theorem dX7_borderWants_33 : decode cX7_borderWants 33 = .ok (.isub, 1) := by decide +kernel
theorem dX7_borderWants_34 : decode cX7_borderWants 34 = .ok (.istore_n 2, 1) := by decide +kernel
theorem dX7_borderWants_35 : decode cX7_borderWants 35 = .ok (.aload_n 0, 1) := by decide +kernel
theorem dX7_borderWants_36 : decode cX7_borderWants 36 = .ok (.getfield 7, 3) := by decide +kernel
theorem dX7_borderWants_39 : decode cX7_borderWants 39 = .ok (.iconst 1, 1) := by decide +kernel
theorem dX7_borderWants_40 : decode cX7_borderWants 40 = .ok (.iaload, 1) := by decide +kernel
theorem dX7_borderWants_41 : decode cX7_borderWants 41 = .ok (.iconst 1, 1) := by decide +kernel
theorem dX7_borderWants_42 : decode cX7_borderWants 42 = .ok (.isub, 1) := by decide +kernel
theorem dX7_borderWants_43 : decode cX7_borderWants 43 = .ok (.istore_n 3, 1) := by decide +kernel
theorem dX7_borderWants_44 : decode cX7_borderWants 44 = .ok (.iload_n 1, 1) := by decide +kernel
theorem dX7_borderWants_45 : decode cX7_borderWants 45 = .ok (.iload_n 2, 1) := by decide +kernel
theorem dX7_borderWants_46 : decode cX7_borderWants 46 = .ok (.if_icmp .ge 7, 3) := by decide +kernel
theorem dX7_borderWants_49 : decode cX7_borderWants 49 = .ok (.iload_n 1, 1) := by decide +kernel
theorem dX7_borderWants_50 : decode cX7_borderWants 50 = .ok (.goto 40, 3) := by decide +kernel
theorem dX7_borderWants_53 : decode cX7_borderWants 53 = .ok (.iload_n 1, 1) := by decide +kernel
theorem dX7_borderWants_54 : decode cX7_borderWants 54 = .ok (.iload_n 2, 1) := by decide +kernel
theorem dX7_borderWants_55 : decode cX7_borderWants 55 = .ok (.iload_n 3, 1) := by decide +kernel
theorem dX7_borderWants_56 : decode cX7_borderWants 56 = .ok (.iadd, 1) := by decide +kernel
theorem dX7_borderWants_57 : decode cX7_borderWants 57 = .ok (.if_icmp .ge 9, 3) := by decide +kernel
theorem dX7_borderWants_60 : decode cX7_borderWants 60 = .ok (.iload_n 1, 1) := by decide +kernel
theorem dX7_borderWants_61 : decode cX7_borderWants 61 = .ok (.iload_n 2, 1) := by decide +kernel
theorem dX7_borderWants_62 : decode cX7_borderWants 62 = .ok (.isub, 1) := by decide +kernel
theorem dX7_borderWants_63 : decode cX7_borderWants 63 = .ok (.goto 27, 3) := by decide +kernel
theorem dX7_borderWants_66 : decode cX7_borderWants 66 = .ok (.iload_n 1, 1) := by decide +kernel
theorem dX7_borderWants_67 : decode cX7_borderWants 67 = .ok (.iconst 2, 1) := by decide +kernel
theorem dX7_borderWants_68 : decode cX7_borderWants 68 = .ok (.iload_n 2, 1) := by decide +kernel
theorem dX7_borderWants_69 : decode cX7_borderWants 69 = .ok (.imul, 1) := by decide +kernel
theorem dX7_borderWants_70 : decode cX7_borderWants 70 = .ok (.iload_n 3, 1) := by decide +kernel
theorem dX7_borderWants_71 : decode cX7_borderWants 71 = .ok (.iadd, 1) := by decide +kernel
theorem dX7_borderWants_72 : decode cX7_borderWants 72 = .ok (.if_icmp .ge 11, 3) := by decide +kernel
theorem dX7_borderWants_75 : decode cX7_borderWants 75 = .ok (.iload_n 1, 1) := by decide +kernel
theorem dX7_borderWants_76 : decode cX7_borderWants 76 = .ok (.iload_n 2, 1) := by decide +kernel
theorem dX7_borderWants_77 : decode cX7_borderWants 77 = .ok (.isub, 1) := by decide +kernel
theorem dX7_borderWants_78 : decode cX7_borderWants 78 = .ok (.iload_n 3, 1) := by decide +kernel
theorem dX7_borderWants_79 : decode cX7_borderWants 79 = .ok (.isub, 1) := by decide +kernel
theorem dX7_borderWants_80 : decode cX7_borderWants 80 = .ok (.goto 10, 3) := by decide +kernel
theorem dX7_borderWants_83 : decode cX7_borderWants 83 = .ok (.iload_n 1, 1) := by decide +kernel
theorem dX7_borderWants_84 : decode cX7_borderWants 84 = .ok (.iconst 2, 1) := by decide +kernel
theorem dX7_borderWants_85 : decode cX7_borderWants 85 = .ok (.iload_n 2, 1) := by decide +kernel
theorem dX7_borderWants_86 : decode cX7_borderWants 86 = .ok (.imul, 1) := by decide +kernel
theorem dX7_borderWants_87 : decode cX7_borderWants 87 = .ok (.isub, 1) := by decide +kernel
theorem dX7_borderWants_88 : decode cX7_borderWants 88 = .ok (.iload_n 3, 1) := by decide +kernel
theorem dX7_borderWants_89 : decode cX7_borderWants 89 = .ok (.isub, 1) := by decide +kernel
theorem dX7_borderWants_90 : decode cX7_borderWants 90 = .ok (.istore 4, 2) := by decide +kernel
theorem dX7_borderWants_92 : decode cX7_borderWants 92 = .ok (.iload_n 1, 1) := by decide +kernel
theorem dX7_borderWants_93 : decode cX7_borderWants 93 = .ok (.iload_n 2, 1) := by decide +kernel
theorem dX7_borderWants_94 : decode cX7_borderWants 94 = .ok (.if_icmp .lt 19, 3) := by decide +kernel
theorem dX7_borderWants_97 : decode cX7_borderWants 97 = .ok (.iload_n 1, 1) := by decide +kernel
theorem dX7_borderWants_98 : decode cX7_borderWants 98 = .ok (.iload_n 2, 1) := by decide +kernel
theorem dX7_borderWants_99 : decode cX7_borderWants 99 = .ok (.iload_n 3, 1) := by decide +kernel
theorem dX7_borderWants_100 : decode cX7_borderWants 100 = .ok (.iadd, 1) := by decide +kernel
theorem dX7_borderWants_101 : decode cX7_borderWants 101 = .ok (.if_icmp .lt 16, 3) := by decide +kernel
theorem dX7_borderWants_104 : decode cX7_borderWants 104 = .ok (.iload_n 1, 1) := by decide +kernel
theorem dX7_borderWants_105 : decode cX7_borderWants 105 = .ok (.iconst 2, 1) := by decide +kernel
theorem dX7_borderWants_106 : decode cX7_borderWants 106 = .ok (.iload_n 2, 1) := by decide +kernel
theorem dX7_borderWants_107 : decode cX7_borderWants 107 = .ok (.imul, 1) := by decide +kernel
theorem dX7_borderWants_108 : decode cX7_borderWants 108 = .ok (.iload_n 3, 1) := by decide +kernel
theorem dX7_borderWants_109 : decode cX7_borderWants 109 = .ok (.iadd, 1) := by decide +kernel
theorem dX7_borderWants_110 : decode cX7_borderWants 110 = .ok (.if_icmp .ge 7, 3) := by decide +kernel
theorem dX7_borderWants_113 : decode cX7_borderWants 113 = .ok (.iload_n 2, 1) := by decide +kernel
theorem dX7_borderWants_114 : decode cX7_borderWants 114 = .ok (.goto 4, 3) := by decide +kernel
theorem dX7_borderWants_117 : decode cX7_borderWants 117 = .ok (.iload_n 3, 1) := by decide +kernel
theorem dX7_borderWants_118 : decode cX7_borderWants 118 = .ok (.istore 5, 2) := by decide +kernel
theorem dX7_borderWants_120 : decode cX7_borderWants 120 = .ok (.aload_n 0, 1) := by decide +kernel
theorem dX7_borderWants_121 : decode cX7_borderWants 121 = .ok (.getfield 7, 3) := by decide +kernel
theorem dX7_borderWants_124 : decode cX7_borderWants 124 = .ok (.iconst 5, 1) := by decide +kernel
theorem dX7_borderWants_125 : decode cX7_borderWants 125 = .ok (.iaload, 1) := by decide +kernel
theorem dX7_borderWants_126 : decode cX7_borderWants 126 = .ok (.iconst 1, 1) := by decide +kernel
theorem dX7_borderWants_127 : decode cX7_borderWants 127 = .ok (.if_icmp .ne 29, 3) := by decide +kernel
theorem dX7_borderWants_130 : decode cX7_borderWants 130 = .ok (.aload_n 0, 1) := by decide +kernel
theorem dX7_borderWants_131 : decode cX7_borderWants 131 = .ok (.getfield 7, 3) := by decide +kernel
theorem dX7_borderWants_134 : decode cX7_borderWants 134 = .ok (.bipush 12, 2) := by decide +kernel
theorem dX7_borderWants_136 : decode cX7_borderWants 136 = .ok (.iload 4, 2) := by decide +kernel
theorem dX7_borderWants_138 : decode cX7_borderWants 138 = .ok (.iload 5, 2) := by decide +kernel
theorem dX7_borderWants_140 : decode cX7_borderWants 140 = .ok (.iload 4, 2) := by decide +kernel
theorem dX7_borderWants_142 : decode cX7_borderWants 142 = .ok (.isub, 1) := by decide +kernel
theorem dX7_borderWants_143 : decode cX7_borderWants 143 = .ok (.invokestatic 45, 3) := by decide +kernel
theorem dX7_borderWants_146 : decode cX7_borderWants 146 = .ok (.aload_n 0, 1) := by decide +kernel
theorem dX7_borderWants_147 : decode cX7_borderWants 147 = .ok (.getfield 7, 3) := by decide +kernel
theorem dX7_borderWants_150 : decode cX7_borderWants 150 = .ok (.iconst 4, 1) := by decide +kernel
theorem dX7_borderWants_151 : decode cX7_borderWants 151 = .ok (.iaload, 1) := by decide +kernel
theorem dX7_borderWants_152 : decode cX7_borderWants 152 = .ok (.irem, 1) := by decide +kernel
theorem dX7_borderWants_153 : decode cX7_borderWants 153 = .ok (.iadd, 1) := by decide +kernel
theorem dX7_borderWants_154 : decode cX7_borderWants 154 = .ok (.iaload, 1) := by decide +kernel
theorem dX7_borderWants_155 : decode cX7_borderWants 155 = .ok (.ireturn, 1) := by decide +kernel
theorem dX7_borderWants_156 : decode cX7_borderWants 156 = .ok (.aload_n 0, 1) := by decide +kernel
theorem dX7_borderWants_157 : decode cX7_borderWants 157 = .ok (.getfield 7, 3) := by decide +kernel
theorem dX7_borderWants_160 : decode cX7_borderWants 160 = .ok (.bipush 12, 2) := by decide +kernel
theorem dX7_borderWants_162 : decode cX7_borderWants 162 = .ok (.iload 4, 2) := by decide +kernel
theorem dX7_borderWants_164 : decode cX7_borderWants 164 = .ok (.iload 5, 2) := by decide +kernel
theorem dX7_borderWants_166 : decode cX7_borderWants 166 = .ok (.iload 5, 2) := by decide +kernel
theorem dX7_borderWants_168 : decode cX7_borderWants 168 = .ok (.aload_n 0, 1) := by decide +kernel
theorem dX7_borderWants_169 : decode cX7_borderWants 169 = .ok (.getfield 7, 3) := by decide +kernel
theorem dX7_borderWants_172 : decode cX7_borderWants 172 = .ok (.iconst 4, 1) := by decide +kernel
theorem dX7_borderWants_173 : decode cX7_borderWants 173 = .ok (.iaload, 1) := by decide +kernel
theorem dX7_borderWants_174 : decode cX7_borderWants 174 = .ok (.irem, 1) := by decide +kernel
theorem dX7_borderWants_175 : decode cX7_borderWants 175 = .ok (.isub, 1) := by decide +kernel
theorem dX7_borderWants_176 : decode cX7_borderWants 176 = .ok (.if_icmp .lt 7, 3) := by decide +kernel
theorem dX7_borderWants_179 : decode cX7_borderWants 179 = .ok (.iconst 0, 1) := by decide +kernel
theorem dX7_borderWants_180 : decode cX7_borderWants 180 = .ok (.goto 12, 3) := by decide +kernel
theorem dX7_borderWants_183 : decode cX7_borderWants 183 = .ok (.iload 4, 2) := by decide +kernel
theorem dX7_borderWants_185 : decode cX7_borderWants 185 = .ok (.aload_n 0, 1) := by decide +kernel
theorem dX7_borderWants_186 : decode cX7_borderWants 186 = .ok (.getfield 7, 3) := by decide +kernel
theorem dX7_borderWants_189 : decode cX7_borderWants 189 = .ok (.iconst 4, 1) := by decide +kernel
theorem dX7_borderWants_190 : decode cX7_borderWants 190 = .ok (.iaload, 1) := by decide +kernel
theorem dX7_borderWants_191 : decode cX7_borderWants 191 = .ok (.irem, 1) := by decide +kernel
theorem dX7_borderWants_192 : decode cX7_borderWants 192 = .ok (.iadd, 1) := by decide +kernel
theorem dX7_borderWants_193 : decode cX7_borderWants 193 = .ok (.iaload, 1) := by decide +kernel
theorem dX7_borderWants_194 : decode cX7_borderWants 194 = .ok (.ireturn, 1) := by decide +kernel
theorem dX7_wanted_0 : decode cX7_wanted 0 = .ok (.aload_n 0, 1) := by decide +kernel
theorem dX7_wanted_1 : decode cX7_wanted 1 = .ok (.iload_n 1, 1) := by decide +kernel
theorem dX7_wanted_2 : decode cX7_wanted 2 = .ok (.aload_n 0, 1) := by decide +kernel
theorem dX7_wanted_3 : decode cX7_wanted 3 = .ok (.getfield 7, 3) := by decide +kernel
theorem dX7_wanted_6 : decode cX7_wanted 6 = .ok (.iconst 0, 1) := by decide +kernel
theorem dX7_wanted_7 : decode cX7_wanted 7 = .ok (.iaload, 1) := by decide +kernel
theorem dX7_wanted_8 : decode cX7_wanted 8 = .ok (.irem, 1) := by decide +kernel
theorem dX7_wanted_9 : decode cX7_wanted 9 = .ok (.iload_n 1, 1) := by decide +kernel
theorem dX7_wanted_10 : decode cX7_wanted 10 = .ok (.aload_n 0, 1) := by decide +kernel
theorem dX7_wanted_11 : decode cX7_wanted 11 = .ok (.getfield 7, 3) := by decide +kernel
theorem dX7_wanted_14 : decode cX7_wanted 14 = .ok (.iconst 0, 1) := by decide +kernel
theorem dX7_wanted_15 : decode cX7_wanted 15 = .ok (.iaload, 1) := by decide +kernel
theorem dX7_wanted_16 : decode cX7_wanted 16 = .ok (.idiv, 1) := by decide +kernel
theorem dX7_wanted_17 : decode cX7_wanted 17 = .ok (.invokevirtual 49, 3) := by decide +kernel
theorem dX7_wanted_20 : decode cX7_wanted 20 = .ok (.istore_n 2, 1) := by decide +kernel
theorem dX7_wanted_21 : decode cX7_wanted 21 = .ok (.iload_n 2, 1) := by decide +kernel
theorem dX7_wanted_22 : decode cX7_wanted 22 = .ok (.iconst (-1), 1) := by decide +kernel
theorem dX7_wanted_23 : decode cX7_wanted 23 = .ok (.if_icmp .ne 15, 3) := by decide +kernel
theorem dX7_wanted_26 : decode cX7_wanted 26 = .ok (.aload_n 0, 1) := by decide +kernel
theorem dX7_wanted_27 : decode cX7_wanted 27 = .ok (.getfield 7, 3) := by decide +kernel
theorem dX7_wanted_30 : decode cX7_wanted 30 = .ok (.bipush 20, 2) := by decide +kernel
theorem dX7_wanted_32 : decode cX7_wanted 32 = .ok (.iload_n 1, 1) := by decide +kernel
theorem dX7_wanted_33 : decode cX7_wanted 33 = .ok (.iadd, 1) := by decide +kernel
theorem dX7_wanted_34 : decode cX7_wanted 34 = .ok (.iaload, 1) := by decide +kernel
theorem dX7_wanted_35 : decode cX7_wanted 35 = .ok (.goto 8, 3) := by decide +kernel
theorem dX7_wanted_38 : decode cX7_wanted 38 = .ok (.aload_n 0, 1) := by decide +kernel
theorem dX7_wanted_39 : decode cX7_wanted 39 = .ok (.iload_n 2, 1) := by decide +kernel
theorem dX7_wanted_40 : decode cX7_wanted 40 = .ok (.invokevirtual 52, 3) := by decide +kernel
theorem dX7_wanted_43 : decode cX7_wanted 43 = .ok (.ireturn, 1) := by decide +kernel
theorem dX7_meets_0 : decode cX7_meets 0 = .ok (.iconst 1, 1) := by decide +kernel
theorem dX7_meets_1 : decode cX7_meets 1 = .ok (.istore_n 1, 1) := by decide +kernel
theorem dX7_meets_2 : decode cX7_meets 2 = .ok (.iconst 1, 1) := by decide +kernel
theorem dX7_meets_3 : decode cX7_meets 3 = .ok (.istore_n 2, 1) := by decide +kernel
theorem dX7_meets_4 : decode cX7_meets 4 = .ok (.iload_n 2, 1) := by decide +kernel
theorem dX7_meets_5 : decode cX7_meets 5 = .ok (.aload_n 0, 1) := by decide +kernel
theorem dX7_meets_6 : decode cX7_meets 6 = .ok (.getfield 7, 3) := by decide +kernel
theorem dX7_meets_9 : decode cX7_meets 9 = .ok (.iconst 4, 1) := by decide +kernel
theorem dX7_meets_10 : decode cX7_meets 10 = .ok (.iaload, 1) := by decide +kernel
theorem dX7_meets_11 : decode cX7_meets 11 = .ok (.if_icmp .ge 38, 3) := by decide +kernel
theorem dX7_meets_14 : decode cX7_meets 14 = .ok (.iload_n 1, 1) := by decide +kernel
theorem dX7_meets_15 : decode cX7_meets 15 = .ok (.ifCond .eq 26, 3) := by decide +kernel
theorem dX7_meets_18 : decode cX7_meets 18 = .ok (.aload_n 0, 1) := by decide +kernel
theorem dX7_meets_19 : decode cX7_meets 19 = .ok (.getfield 7, 3) := by decide +kernel
theorem dX7_meets_22 : decode cX7_meets 22 = .ok (.bipush 12, 2) := by decide +kernel
theorem dX7_meets_24 : decode cX7_meets 24 = .ok (.iload_n 2, 1) := by decide +kernel
theorem dX7_meets_25 : decode cX7_meets 25 = .ok (.iadd, 1) := by decide +kernel
theorem dX7_meets_26 : decode cX7_meets 26 = .ok (.iaload, 1) := by decide +kernel
theorem dX7_meets_27 : decode cX7_meets 27 = .ok (.aload_n 0, 1) := by decide +kernel
theorem dX7_meets_28 : decode cX7_meets 28 = .ok (.getfield 7, 3) := by decide +kernel
theorem dX7_meets_31 : decode cX7_meets 31 = .ok (.bipush 12, 2) := by decide +kernel
theorem dX7_meets_33 : decode cX7_meets 33 = .ok (.iaload, 1) := by decide +kernel
theorem dX7_meets_34 : decode cX7_meets 34 = .ok (.if_icmp .ne 7, 3) := by decide +kernel
theorem dX7_meets_37 : decode cX7_meets 37 = .ok (.iconst 1, 1) := by decide +kernel
theorem dX7_meets_38 : decode cX7_meets 38 = .ok (.goto 4, 3) := by decide +kernel
theorem dX7_meets_41 : decode cX7_meets 41 = .ok (.iconst 0, 1) := by decide +kernel
theorem dX7_meets_42 : decode cX7_meets 42 = .ok (.istore_n 1, 1) := by decide +kernel
theorem dX7_meets_43 : decode cX7_meets 43 = .ok (.iinc 2 1, 3) := by decide +kernel
theorem dX7_meets_46 : decode cX7_meets 46 = .ok (.goto (-42), 3) := by decide +kernel
theorem dX7_meets_49 : decode cX7_meets 49 = .ok (.iconst 1, 1) := by decide +kernel
theorem dX7_meets_50 : decode cX7_meets 50 = .ok (.istore_n 2, 1) := by decide +kernel
theorem dX7_meets_51 : decode cX7_meets 51 = .ok (.iconst 0, 1) := by decide +kernel
theorem dX7_meets_52 : decode cX7_meets 52 = .ok (.istore_n 3, 1) := by decide +kernel
theorem dX7_meets_53 : decode cX7_meets 53 = .ok (.iload_n 3, 1) := by decide +kernel
theorem dX7_meets_54 : decode cX7_meets 54 = .ok (.aload_n 0, 1) := by decide +kernel
theorem dX7_meets_55 : decode cX7_meets 55 = .ok (.invokevirtual 56, 3) := by decide +kernel
theorem dX7_meets_58 : decode cX7_meets 58 = .ok (.if_icmp .ge 39, 3) := by decide +kernel
theorem dX7_meets_61 : decode cX7_meets 61 = .ok (.iload_n 2, 1) := by decide +kernel
theorem dX7_meets_62 : decode cX7_meets 62 = .ok (.ifCond .eq 27, 3) := by decide +kernel
theorem dX7_meets_65 : decode cX7_meets 65 = .ok (.aload_n 0, 1) := by decide +kernel
theorem dX7_meets_66 : decode cX7_meets 66 = .ok (.iload_n 3, 1) := by decide +kernel
theorem dX7_meets_67 : decode cX7_meets 67 = .ok (.invokevirtual 52, 3) := by decide +kernel
theorem dX7_meets_70 : decode cX7_meets 70 = .ok (.aload_n 0, 1) := by decide +kernel
theorem dX7_meets_71 : decode cX7_meets 71 = .ok (.iload_n 3, 1) := by decide +kernel
theorem dX7_meets_72 : decode cX7_meets 72 = .ok (.iconst 1, 1) := by decide +kernel
theorem dX7_meets_73 : decode cX7_meets 73 = .ok (.iadd, 1) := by decide +kernel
theorem dX7_meets_74 : decode cX7_meets 74 = .ok (.aload_n 0, 1) := by decide +kernel
theorem dX7_meets_75 : decode cX7_meets 75 = .ok (.invokevirtual 56, 3) := by decide +kernel
theorem dX7_meets_78 : decode cX7_meets 78 = .ok (.irem, 1) := by decide +kernel
theorem dX7_meets_79 : decode cX7_meets 79 = .ok (.invokevirtual 52, 3) := by decide +kernel
theorem dX7_meets_82 : decode cX7_meets 82 = .ok (.if_icmp .eq 7, 3) := by decide +kernel
theorem dX7_meets_85 : decode cX7_meets 85 = .ok (.iconst 1, 1) := by decide +kernel
theorem dX7_meets_86 : decode cX7_meets 86 = .ok (.goto 4, 3) := by decide +kernel
theorem dX7_meets_89 : decode cX7_meets 89 = .ok (.iconst 0, 1) := by decide +kernel
theorem dX7_meets_90 : decode cX7_meets 90 = .ok (.istore_n 2, 1) := by decide +kernel
theorem dX7_meets_91 : decode cX7_meets 91 = .ok (.iinc 3 1, 3) := by decide +kernel
theorem dX7_meets_94 : decode cX7_meets 94 = .ok (.goto (-41), 3) := by decide +kernel
theorem dX7_meets_97 : decode cX7_meets 97 = .ok (.iload_n 1, 1) := by decide +kernel
theorem dX7_meets_98 : decode cX7_meets 98 = .ok (.ifCond .ne 7, 3) := by decide +kernel
theorem dX7_meets_101 : decode cX7_meets 101 = .ok (.iload_n 2, 1) := by decide +kernel
theorem dX7_meets_102 : decode cX7_meets 102 = .ok (.ifCond .eq 7, 3) := by decide +kernel
theorem dX7_meets_105 : decode cX7_meets 105 = .ok (.iconst 1, 1) := by decide +kernel
theorem dX7_meets_106 : decode cX7_meets 106 = .ok (.goto 4, 3) := by decide +kernel
theorem dX7_meets_109 : decode cX7_meets 109 = .ok (.iconst 0, 1) := by decide +kernel
theorem dX7_meets_110 : decode cX7_meets 110 = .ok (.ireturn, 1) := by decide +kernel
theorem dX7_floor_0 : decode cX7_floor 0 = .ok (.iload_n 1, 1) := by decide +kernel
theorem dX7_floor_1 : decode cX7_floor 1 = .ok (.iconst 3, 1) := by decide +kernel
theorem dX7_floor_2 : decode cX7_floor 2 = .ok (.bipush 12, 2) := by decide +kernel
theorem dX7_floor_4 : decode cX7_floor 4 = .ok (.invokestatic 37, 3) := by decide +kernel
theorem dX7_floor_7 : decode cX7_floor 7 = .ok (.ifCond .eq 13, 3) := by decide +kernel
theorem dX7_floor_10 : decode cX7_floor 10 = .ok (.iload_n 2, 1) := by decide +kernel
theorem dX7_floor_11 : decode cX7_floor 11 = .ok (.iconst 3, 1) := by decide +kernel
theorem dX7_floor_12 : decode cX7_floor 12 = .ok (.bipush 12, 2) := by decide +kernel
theorem dX7_floor_14 : decode cX7_floor 14 = .ok (.invokestatic 37, 3) := by decide +kernel
theorem dX7_floor_17 : decode cX7_floor 17 = .ok (.ifCond .ne 5, 3) := by decide +kernel
theorem dX7_floor_20 : decode cX7_floor 20 = .ok (.iconst (-1), 1) := by decide +kernel
theorem dX7_floor_21 : decode cX7_floor 21 = .ok (.ireturn, 1) := by decide +kernel
theorem dX7_floor_22 : decode cX7_floor 22 = .ok (.aload_n 0, 1) := by decide +kernel
theorem dX7_floor_23 : decode cX7_floor 23 = .ok (.invokevirtual 59, 3) := by decide +kernel
theorem dX7_floor_26 : decode cX7_floor 26 = .ok (.ifCond .le 6, 3) := by decide +kernel
theorem dX7_floor_29 : decode cX7_floor 29 = .ok (.bipush (-2), 2) := by decide +kernel
theorem dX7_floor_31 : decode cX7_floor 31 = .ok (.ireturn, 1) := by decide +kernel
theorem dX7_floor_32 : decode cX7_floor 32 = .ok (.aload_n 0, 1) := by decide +kernel
theorem dX7_floor_33 : decode cX7_floor 33 = .ok (.invokevirtual 62, 3) := by decide +kernel
theorem dX7_floor_36 : decode cX7_floor 36 = .ok (.aload_n 0, 1) := by decide +kernel
theorem dX7_floor_37 : decode cX7_floor 37 = .ok (.iload_n 1, 1) := by decide +kernel
theorem dX7_floor_38 : decode cX7_floor 38 = .ok (.iload_n 2, 1) := by decide +kernel
theorem dX7_floor_39 : decode cX7_floor 39 = .ok (.invokevirtual 25, 3) := by decide +kernel
theorem dX7_floor_42 : decode cX7_floor 42 = .ok (.aload_n 0, 1) := by decide +kernel
theorem dX7_floor_43 : decode cX7_floor 43 = .ok (.invokevirtual 41, 3) := by decide +kernel
theorem dX7_floor_46 : decode cX7_floor 46 = .ok (.ireturn, 1) := by decide +kernel
theorem dX7_atHand_0 : decode cX7_atHand 0 = .ok (.iconst 0, 1) := by decide +kernel
theorem dX7_atHand_1 : decode cX7_atHand 1 = .ok (.istore_n 1, 1) := by decide +kernel
theorem dX7_atHand_2 : decode cX7_atHand 2 = .ok (.iconst 0, 1) := by decide +kernel
theorem dX7_atHand_3 : decode cX7_atHand 3 = .ok (.istore_n 2, 1) := by decide +kernel
theorem dX7_atHand_4 : decode cX7_atHand 4 = .ok (.iload_n 2, 1) := by decide +kernel
theorem dX7_atHand_5 : decode cX7_atHand 5 = .ok (.bipush 100, 2) := by decide +kernel
theorem dX7_atHand_7 : decode cX7_atHand 7 = .ok (.if_icmp .ge 22, 3) := by decide +kernel
theorem dX7_atHand_10 : decode cX7_atHand 10 = .ok (.iload_n 1, 1) := by decide +kernel
theorem dX7_atHand_11 : decode cX7_atHand 11 = .ok (.aload_n 0, 1) := by decide +kernel
theorem dX7_atHand_12 : decode cX7_atHand 12 = .ok (.getfield 7, 3) := by decide +kernel
theorem dX7_atHand_15 : decode cX7_atHand 15 = .ok (.sipush 308, 3) := by decide +kernel
theorem dX7_atHand_18 : decode cX7_atHand 18 = .ok (.iload_n 2, 1) := by decide +kernel
theorem dX7_atHand_19 : decode cX7_atHand 19 = .ok (.iadd, 1) := by decide +kernel
theorem dX7_atHand_20 : decode cX7_atHand 20 = .ok (.iaload, 1) := by decide +kernel
theorem dX7_atHand_21 : decode cX7_atHand 21 = .ok (.iadd, 1) := by decide +kernel
theorem dX7_atHand_22 : decode cX7_atHand 22 = .ok (.istore_n 1, 1) := by decide +kernel
theorem dX7_atHand_23 : decode cX7_atHand 23 = .ok (.iinc 2 1, 3) := by decide +kernel
theorem dX7_atHand_26 : decode cX7_atHand 26 = .ok (.goto (-22), 3) := by decide +kernel
theorem dX7_atHand_29 : decode cX7_atHand 29 = .ok (.iload_n 1, 1) := by decide +kernel
theorem dX7_atHand_30 : decode cX7_atHand 30 = .ok (.ireturn, 1) := by decide +kernel
theorem dX7_set_0 : decode cX7_set 0 = .ok (.iload_n 1, 1) := by decide +kernel
theorem dX7_set_1 : decode cX7_set 1 = .ok (.iconst 0, 1) := by decide +kernel
theorem dX7_set_2 : decode cX7_set 2 = .ok (.iconst 1, 1) := by decide +kernel
theorem dX7_set_3 : decode cX7_set 3 = .ok (.invokestatic 37, 3) := by decide +kernel
theorem dX7_set_6 : decode cX7_set 6 = .ok (.ifCond .eq 29, 3) := by decide +kernel
theorem dX7_set_9 : decode cX7_set 9 = .ok (.iload_n 2, 1) := by decide +kernel
theorem dX7_set_10 : decode cX7_set 10 = .ok (.iload_n 1, 1) := by decide +kernel
theorem dX7_set_11 : decode cX7_set 11 = .ok (.ifCond .ne 7, 3) := by decide +kernel
theorem dX7_set_14 : decode cX7_set 14 = .ok (.iconst 5, 1) := by decide +kernel
theorem dX7_set_15 : decode cX7_set 15 = .ok (.goto 4, 3) := by decide +kernel
theorem dX7_set_18 : decode cX7_set 18 = .ok (.iconst 0, 1) := by decide +kernel
theorem dX7_set_19 : decode cX7_set 19 = .ok (.iload_n 1, 1) := by decide +kernel
theorem dX7_set_20 : decode cX7_set 20 = .ok (.ifCond .ne 8, 3) := by decide +kernel
theorem dX7_set_23 : decode cX7_set 23 = .ok (.bipush 60, 2) := by decide +kernel
theorem dX7_set_25 : decode cX7_set 25 = .ok (.goto 4, 3) := by decide +kernel
theorem dX7_set_28 : decode cX7_set 28 = .ok (.iconst 5, 1) := by decide +kernel
theorem dX7_set_29 : decode cX7_set 29 = .ok (.invokestatic 37, 3) := by decide +kernel
theorem dX7_set_32 : decode cX7_set 32 = .ok (.ifCond .ne 5, 3) := by decide +kernel
theorem dX7_set_35 : decode cX7_set 35 = .ok (.iconst (-1), 1) := by decide +kernel
theorem dX7_set_36 : decode cX7_set 36 = .ok (.ireturn, 1) := by decide +kernel
theorem dX7_set_37 : decode cX7_set 37 = .ok (.iload_n 1, 1) := by decide +kernel
theorem dX7_set_38 : decode cX7_set 38 = .ok (.ifCond .ne 13, 3) := by decide +kernel
theorem dX7_set_41 : decode cX7_set 41 = .ok (.aload_n 0, 1) := by decide +kernel
theorem dX7_set_42 : decode cX7_set 42 = .ok (.invokevirtual 59, 3) := by decide +kernel
theorem dX7_set_45 : decode cX7_set 45 = .ok (.ifCond .le 6, 3) := by decide +kernel
theorem dX7_set_48 : decode cX7_set 48 = .ok (.bipush (-2), 2) := by decide +kernel
theorem dX7_set_50 : decode cX7_set 50 = .ok (.ireturn, 1) := by decide +kernel
theorem dX7_set_51 : decode cX7_set 51 = .ok (.aload_n 0, 1) := by decide +kernel
theorem dX7_set_52 : decode cX7_set 52 = .ok (.invokevirtual 62, 3) := by decide +kernel
theorem dX7_set_55 : decode cX7_set 55 = .ok (.aload_n 0, 1) := by decide +kernel
theorem dX7_set_56 : decode cX7_set 56 = .ok (.getfield 7, 3) := by decide +kernel
theorem dX7_set_59 : decode cX7_set 59 = .ok (.iconst 2, 1) := by decide +kernel
theorem dX7_set_60 : decode cX7_set 60 = .ok (.iload_n 1, 1) := by decide +kernel
theorem dX7_set_61 : decode cX7_set 61 = .ok (.iadd, 1) := by decide +kernel
theorem dX7_set_62 : decode cX7_set 62 = .ok (.iaload, 1) := by decide +kernel
theorem dX7_set_63 : decode cX7_set 63 = .ok (.istore_n 3, 1) := by decide +kernel
theorem dX7_set_64 : decode cX7_set 64 = .ok (.iload_n 1, 1) := by decide +kernel
theorem dX7_set_65 : decode cX7_set 65 = .ok (.ifCond .ne 52, 3) := by decide +kernel
theorem dX7_set_68 : decode cX7_set 68 = .ok (.aload_n 0, 1) := by decide +kernel
theorem dX7_set_69 : decode cX7_set 69 = .ok (.getfield 7, 3) := by decide +kernel
theorem dX7_set_72 : decode cX7_set 72 = .ok (.bipush 11, 2) := by decide +kernel
theorem dX7_set_74 : decode cX7_set 74 = .ok (.dup2, 1) := by decide +kernel
theorem dX7_set_75 : decode cX7_set 75 = .ok (.iaload, 1) := by decide +kernel
theorem dX7_set_76 : decode cX7_set 76 = .ok (.aload_n 0, 1) := by decide +kernel
theorem dX7_set_77 : decode cX7_set 77 = .ok (.getfield 7, 3) := by decide +kernel
theorem dX7_set_80 : decode cX7_set 80 = .ok (.iconst 2, 1) := by decide +kernel
theorem dX7_set_81 : decode cX7_set 81 = .ok (.iaload, 1) := by decide +kernel
theorem dX7_set_82 : decode cX7_set 82 = .ok (.aload_n 0, 1) := by decide +kernel
theorem dX7_set_83 : decode cX7_set 83 = .ok (.invokevirtual 65, 3) := by decide +kernel
theorem dX7_set_86 : decode cX7_set 86 = .ok (.imul, 1) := by decide +kernel
theorem dX7_set_87 : decode cX7_set 87 = .ok (.iadd, 1) := by decide +kernel
theorem dX7_set_88 : decode cX7_set 88 = .ok (.iastore, 1) := by decide +kernel
theorem dX7_set_89 : decode cX7_set 89 = .ok (.iconst 0, 1) := by decide +kernel
theorem dX7_set_90 : decode cX7_set 90 = .ok (.istore 4, 2) := by decide +kernel
theorem dX7_set_92 : decode cX7_set 92 = .ok (.iload 4, 2) := by decide +kernel
theorem dX7_set_94 : decode cX7_set 94 = .ok (.bipush 100, 2) := by decide +kernel
theorem dX7_set_96 : decode cX7_set 96 = .ok (.if_icmp .ge 21, 3) := by decide +kernel
theorem dX7_set_99 : decode cX7_set 99 = .ok (.aload_n 0, 1) := by decide +kernel
theorem dX7_set_100 : decode cX7_set 100 = .ok (.getfield 7, 3) := by decide +kernel
theorem dX7_set_103 : decode cX7_set 103 = .ok (.sipush 308, 3) := by decide +kernel
theorem dX7_set_106 : decode cX7_set 106 = .ok (.iload 4, 2) := by decide +kernel
theorem dX7_set_108 : decode cX7_set 108 = .ok (.iadd, 1) := by decide +kernel
theorem dX7_set_109 : decode cX7_set 109 = .ok (.iconst 0, 1) := by decide +kernel
theorem dX7_set_110 : decode cX7_set 110 = .ok (.iastore, 1) := by decide +kernel
theorem dX7_set_111 : decode cX7_set 111 = .ok (.iinc 4 1, 3) := by decide +kernel
theorem dX7_set_114 : decode cX7_set 114 = .ok (.goto (-22), 3) := by decide +kernel
theorem dX7_set_117 : decode cX7_set 117 = .ok (.aload_n 0, 1) := by decide +kernel
theorem dX7_set_118 : decode cX7_set 118 = .ok (.getfield 7, 3) := by decide +kernel
theorem dX7_set_121 : decode cX7_set 121 = .ok (.iconst 2, 1) := by decide +kernel
theorem dX7_set_122 : decode cX7_set 122 = .ok (.iload_n 1, 1) := by decide +kernel
theorem dX7_set_123 : decode cX7_set 123 = .ok (.iadd, 1) := by decide +kernel
theorem dX7_set_124 : decode cX7_set 124 = .ok (.iload_n 2, 1) := by decide +kernel
theorem dX7_set_125 : decode cX7_set 125 = .ok (.iastore, 1) := by decide +kernel
theorem dX7_set_126 : decode cX7_set 126 = .ok (.iload_n 3, 1) := by decide +kernel
theorem dX7_set_127 : decode cX7_set 127 = .ok (.ireturn, 1) := by decide +kernel
theorem dX7_way_0 : decode cX7_way 0 = .ok (.iload_n 1, 1) := by decide +kernel
theorem dX7_way_1 : decode cX7_way 1 = .ok (.iconst 0, 1) := by decide +kernel
theorem dX7_way_2 : decode cX7_way 2 = .ok (.iconst 2, 1) := by decide +kernel
theorem dX7_way_3 : decode cX7_way 3 = .ok (.invokestatic 37, 3) := by decide +kernel
theorem dX7_way_6 : decode cX7_way 6 = .ok (.ifCond .ne 5, 3) := by decide +kernel
theorem dX7_way_9 : decode cX7_way 9 = .ok (.iconst (-1), 1) := by decide +kernel
theorem dX7_way_10 : decode cX7_way 10 = .ok (.ireturn, 1) := by decide +kernel
theorem dX7_way_11 : decode cX7_way 11 = .ok (.aload_n 0, 1) := by decide +kernel
theorem dX7_way_12 : decode cX7_way 12 = .ok (.invokevirtual 59, 3) := by decide +kernel
theorem dX7_way_15 : decode cX7_way 15 = .ok (.ifCond .le 6, 3) := by decide +kernel
theorem dX7_way_18 : decode cX7_way 18 = .ok (.bipush (-2), 2) := by decide +kernel
theorem dX7_way_20 : decode cX7_way 20 = .ok (.ireturn, 1) := by decide +kernel
theorem dX7_way_21 : decode cX7_way 21 = .ok (.aload_n 0, 1) := by decide +kernel
theorem dX7_way_22 : decode cX7_way 22 = .ok (.invokevirtual 62, 3) := by decide +kernel
theorem dX7_way_25 : decode cX7_way 25 = .ok (.aload_n 0, 1) := by decide +kernel
theorem dX7_way_26 : decode cX7_way 26 = .ok (.getfield 7, 3) := by decide +kernel
theorem dX7_way_29 : decode cX7_way 29 = .ok (.iconst 5, 1) := by decide +kernel
theorem dX7_way_30 : decode cX7_way 30 = .ok (.iaload, 1) := by decide +kernel
theorem dX7_way_31 : decode cX7_way 31 = .ok (.istore_n 2, 1) := by decide +kernel
theorem dX7_way_32 : decode cX7_way 32 = .ok (.aload_n 0, 1) := by decide +kernel
theorem dX7_way_33 : decode cX7_way 33 = .ok (.getfield 7, 3) := by decide +kernel
theorem dX7_way_36 : decode cX7_way 36 = .ok (.iconst 5, 1) := by decide +kernel
theorem dX7_way_37 : decode cX7_way 37 = .ok (.iload_n 1, 1) := by decide +kernel
theorem dX7_way_38 : decode cX7_way 38 = .ok (.iastore, 1) := by decide +kernel
theorem dX7_way_39 : decode cX7_way 39 = .ok (.iload_n 2, 1) := by decide +kernel
theorem dX7_way_40 : decode cX7_way 40 = .ok (.ireturn, 1) := by decide +kernel
theorem dX7_want_0 : decode cX7_want 0 = .ok (.aload_n 0, 1) := by decide +kernel
theorem dX7_want_1 : decode cX7_want 1 = .ok (.iload_n 1, 1) := by decide +kernel
theorem dX7_want_2 : decode cX7_want 2 = .ok (.iload_n 2, 1) := by decide +kernel
theorem dX7_want_3 : decode cX7_want 3 = .ok (.invokevirtual 68, 3) := by decide +kernel
theorem dX7_want_6 : decode cX7_want 6 = .ok (.ifCond .eq 13, 3) := by decide +kernel
theorem dX7_want_9 : decode cX7_want 9 = .ok (.iload_n 3, 1) := by decide +kernel
theorem dX7_want_10 : decode cX7_want 10 = .ok (.iconst 0, 1) := by decide +kernel
theorem dX7_want_11 : decode cX7_want 11 = .ok (.bipush 99, 2) := by decide +kernel
theorem dX7_want_13 : decode cX7_want 13 = .ok (.invokestatic 37, 3) := by decide +kernel
theorem dX7_want_16 : decode cX7_want 16 = .ok (.ifCond .ne 5, 3) := by decide +kernel
theorem dX7_want_19 : decode cX7_want 19 = .ok (.iconst (-1), 1) := by decide +kernel
theorem dX7_want_20 : decode cX7_want 20 = .ok (.ireturn, 1) := by decide +kernel
theorem dX7_want_21 : decode cX7_want 21 = .ok (.iload_n 1, 1) := by decide +kernel
theorem dX7_want_22 : decode cX7_want 22 = .ok (.iload_n 2, 1) := by decide +kernel
theorem dX7_want_23 : decode cX7_want 23 = .ok (.aload_n 0, 1) := by decide +kernel
theorem dX7_want_24 : decode cX7_want 24 = .ok (.getfield 7, 3) := by decide +kernel
theorem dX7_want_27 : decode cX7_want 27 = .ok (.iconst 0, 1) := by decide +kernel
theorem dX7_want_28 : decode cX7_want 28 = .ok (.iaload, 1) := by decide +kernel
theorem dX7_want_29 : decode cX7_want 29 = .ok (.imul, 1) := by decide +kernel
theorem dX7_want_30 : decode cX7_want 30 = .ok (.iadd, 1) := by decide +kernel
theorem dX7_want_31 : decode cX7_want 31 = .ok (.istore 4, 2) := by decide +kernel
theorem dX7_want_33 : decode cX7_want 33 = .ok (.aload_n 0, 1) := by decide +kernel
theorem dX7_want_34 : decode cX7_want 34 = .ok (.iload_n 1, 1) := by decide +kernel
theorem dX7_want_35 : decode cX7_want 35 = .ok (.iload_n 2, 1) := by decide +kernel
theorem dX7_want_36 : decode cX7_want 36 = .ok (.invokevirtual 49, 3) := by decide +kernel
theorem dX7_want_39 : decode cX7_want 39 = .ok (.iconst (-1), 1) := by decide +kernel
theorem dX7_want_40 : decode cX7_want 40 = .ok (.if_icmp .ne 18, 3) := by decide +kernel
theorem dX7_want_43 : decode cX7_want 43 = .ok (.aload_n 0, 1) := by decide +kernel
theorem dX7_want_44 : decode cX7_want 44 = .ok (.getfield 7, 3) := by decide +kernel
theorem dX7_want_47 : decode cX7_want 47 = .ok (.sipush 164, 3) := by decide +kernel
theorem dX7_want_50 : decode cX7_want 50 = .ok (.iload 4, 2) := by decide +kernel
theorem dX7_want_52 : decode cX7_want 52 = .ok (.iadd, 1) := by decide +kernel
theorem dX7_want_53 : decode cX7_want 53 = .ok (.iaload, 1) := by decide +kernel
theorem dX7_want_54 : decode cX7_want 54 = .ok (.iconst (-1), 1) := by decide +kernel
theorem dX7_want_55 : decode cX7_want 55 = .ok (.if_icmp .eq 6, 3) := by decide +kernel
theorem dX7_want_58 : decode cX7_want 58 = .ok (.bipush (-2), 2) := by decide +kernel
theorem dX7_want_60 : decode cX7_want 60 = .ok (.ireturn, 1) := by decide +kernel
theorem dX7_want_61 : decode cX7_want 61 = .ok (.aload_n 0, 1) := by decide +kernel
theorem dX7_want_62 : decode cX7_want 62 = .ok (.invokevirtual 62, 3) := by decide +kernel
theorem dX7_want_65 : decode cX7_want 65 = .ok (.aload_n 0, 1) := by decide +kernel
theorem dX7_want_66 : decode cX7_want 66 = .ok (.getfield 7, 3) := by decide +kernel
theorem dX7_want_69 : decode cX7_want 69 = .ok (.bipush 20, 2) := by decide +kernel
theorem dX7_want_71 : decode cX7_want 71 = .ok (.iload 4, 2) := by decide +kernel
theorem dX7_want_73 : decode cX7_want 73 = .ok (.iadd, 1) := by decide +kernel
theorem dX7_want_74 : decode cX7_want 74 = .ok (.iaload, 1) := by decide +kernel
theorem dX7_want_75 : decode cX7_want 75 = .ok (.istore 5, 2) := by decide +kernel
theorem dX7_want_77 : decode cX7_want 77 = .ok (.aload_n 0, 1) := by decide +kernel
theorem dX7_want_78 : decode cX7_want 78 = .ok (.getfield 7, 3) := by decide +kernel
theorem dX7_want_81 : decode cX7_want 81 = .ok (.bipush 20, 2) := by decide +kernel
theorem dX7_want_83 : decode cX7_want 83 = .ok (.iload 4, 2) := by decide +kernel
theorem dX7_want_85 : decode cX7_want 85 = .ok (.iadd, 1) := by decide +kernel
theorem dX7_want_86 : decode cX7_want 86 = .ok (.iload_n 3, 1) := by decide +kernel
theorem dX7_want_87 : decode cX7_want 87 = .ok (.iastore, 1) := by decide +kernel
theorem dX7_want_88 : decode cX7_want 88 = .ok (.iload 5, 2) := by decide +kernel
theorem dX7_want_90 : decode cX7_want 90 = .ok (.ireturn, 1) := by decide +kernel
theorem dX7_difference_0 : decode cX7_difference 0 = .ok (.aload_n 0, 1) := by decide +kernel
theorem dX7_difference_1 : decode cX7_difference 1 = .ok (.iload_n 1, 1) := by decide +kernel
theorem dX7_difference_2 : decode cX7_difference 2 = .ok (.invokevirtual 72, 3) := by decide +kernel
theorem dX7_difference_5 : decode cX7_difference 5 = .ok (.aload_n 0, 1) := by decide +kernel
theorem dX7_difference_6 : decode cX7_difference 6 = .ok (.getfield 7, 3) := by decide +kernel
theorem dX7_difference_9 : decode cX7_difference 9 = .ok (.sipush 164, 3) := by decide +kernel
theorem dX7_difference_12 : decode cX7_difference 12 = .ok (.iload_n 1, 1) := by decide +kernel
theorem dX7_difference_13 : decode cX7_difference 13 = .ok (.iadd, 1) := by decide +kernel
theorem dX7_difference_14 : decode cX7_difference 14 = .ok (.iaload, 1) := by decide +kernel
theorem dX7_difference_15 : decode cX7_difference 15 = .ok (.isub, 1) := by decide +kernel
theorem dX7_difference_16 : decode cX7_difference 16 = .ok (.invokestatic 75, 3) := by decide +kernel
theorem dX7_difference_19 : decode cX7_difference 19 = .ok (.ireturn, 1) := by decide +kernel
theorem dX7_cellOf_0 : decode cX7_cellOf 0 = .ok (.iload_n 1, 1) := by decide +kernel
theorem dX7_cellOf_1 : decode cX7_cellOf 1 = .ok (.iload_n 2, 1) := by decide +kernel
theorem dX7_cellOf_2 : decode cX7_cellOf 2 = .ok (.aload_n 0, 1) := by decide +kernel
theorem dX7_cellOf_3 : decode cX7_cellOf 3 = .ok (.getfield 7, 3) := by decide +kernel
theorem dX7_cellOf_6 : decode cX7_cellOf 6 = .ok (.iconst 0, 1) := by decide +kernel
theorem dX7_cellOf_7 : decode cX7_cellOf 7 = .ok (.iaload, 1) := by decide +kernel
theorem dX7_cellOf_8 : decode cX7_cellOf 8 = .ok (.imul, 1) := by decide +kernel
theorem dX7_cellOf_9 : decode cX7_cellOf 9 = .ok (.iadd, 1) := by decide +kernel
theorem dX7_cellOf_10 : decode cX7_cellOf 10 = .ok (.istore 4, 2) := by decide +kernel
theorem dX7_cellOf_12 : decode cX7_cellOf 12 = .ok (.iload_n 3, 1) := by decide +kernel
theorem dX7_cellOf_13 : decode cX7_cellOf 13 = .ok (.tableswitch 93 0 2 #[27, 34, 66], 27) := by decide +kernel
theorem dX7_cellOf_40 : decode cX7_cellOf 40 = .ok (.aload_n 0, 1) := by decide +kernel
theorem dX7_cellOf_41 : decode cX7_cellOf 41 = .ok (.iload 4, 2) := by decide +kernel
theorem dX7_cellOf_43 : decode cX7_cellOf 43 = .ok (.invokevirtual 72, 3) := by decide +kernel
theorem dX7_cellOf_46 : decode cX7_cellOf 46 = .ok (.ireturn, 1) := by decide +kernel
theorem dX7_cellOf_47 : decode cX7_cellOf 47 = .ok (.aload_n 0, 1) := by decide +kernel
theorem dX7_cellOf_48 : decode cX7_cellOf 48 = .ok (.getfield 7, 3) := by decide +kernel
theorem dX7_cellOf_51 : decode cX7_cellOf 51 = .ok (.sipush 164, 3) := by decide +kernel
theorem dX7_cellOf_54 : decode cX7_cellOf 54 = .ok (.iload 4, 2) := by decide +kernel
theorem dX7_cellOf_56 : decode cX7_cellOf 56 = .ok (.iadd, 1) := by decide +kernel
theorem dX7_cellOf_57 : decode cX7_cellOf 57 = .ok (.iaload, 1) := by decide +kernel
theorem dX7_cellOf_58 : decode cX7_cellOf 58 = .ok (.iconst (-1), 1) := by decide +kernel
theorem dX7_cellOf_59 : decode cX7_cellOf 59 = .ok (.if_icmp .ne 8, 3) := by decide +kernel
theorem dX7_cellOf_62 : decode cX7_cellOf 62 = .ok (.bipush (-4), 2) := by decide +kernel
theorem dX7_cellOf_64 : decode cX7_cellOf 64 = .ok (.goto 14, 3) := by decide +kernel
theorem dX7_cellOf_67 : decode cX7_cellOf 67 = .ok (.aload_n 0, 1) := by decide +kernel
theorem dX7_cellOf_68 : decode cX7_cellOf 68 = .ok (.getfield 7, 3) := by decide +kernel
theorem dX7_cellOf_71 : decode cX7_cellOf 71 = .ok (.sipush 164, 3) := by decide +kernel
theorem dX7_cellOf_74 : decode cX7_cellOf 74 = .ok (.iload 4, 2) := by decide +kernel
theorem dX7_cellOf_76 : decode cX7_cellOf 76 = .ok (.iadd, 1) := by decide +kernel
theorem dX7_cellOf_77 : decode cX7_cellOf 77 = .ok (.iaload, 1) := by decide +kernel
theorem dX7_cellOf_78 : decode cX7_cellOf 78 = .ok (.ireturn, 1) := by decide +kernel
theorem dX7_cellOf_79 : decode cX7_cellOf 79 = .ok (.aload_n 0, 1) := by decide +kernel
theorem dX7_cellOf_80 : decode cX7_cellOf 80 = .ok (.getfield 7, 3) := by decide +kernel
theorem dX7_cellOf_83 : decode cX7_cellOf 83 = .ok (.sipush 164, 3) := by decide +kernel
theorem dX7_cellOf_86 : decode cX7_cellOf 86 = .ok (.iload 4, 2) := by decide +kernel
theorem dX7_cellOf_88 : decode cX7_cellOf 88 = .ok (.iadd, 1) := by decide +kernel
theorem dX7_cellOf_89 : decode cX7_cellOf 89 = .ok (.iaload, 1) := by decide +kernel
theorem dX7_cellOf_90 : decode cX7_cellOf 90 = .ok (.iconst (-1), 1) := by decide +kernel
theorem dX7_cellOf_91 : decode cX7_cellOf 91 = .ok (.if_icmp .ne 8, 3) := by decide +kernel
theorem dX7_cellOf_94 : decode cX7_cellOf 94 = .ok (.bipush (-4), 2) := by decide +kernel
theorem dX7_cellOf_96 : decode cX7_cellOf 96 = .ok (.goto 9, 3) := by decide +kernel
theorem dX7_cellOf_99 : decode cX7_cellOf 99 = .ok (.aload_n 0, 1) := by decide +kernel
theorem dX7_cellOf_100 : decode cX7_cellOf 100 = .ok (.iload 4, 2) := by decide +kernel
theorem dX7_cellOf_102 : decode cX7_cellOf 102 = .ok (.invokevirtual 78, 3) := by decide +kernel
theorem dX7_cellOf_105 : decode cX7_cellOf 105 = .ok (.ireturn, 1) := by decide +kernel
theorem dX7_cellOf_106 : decode cX7_cellOf 106 = .ok (.aload_n 0, 1) := by decide +kernel
theorem dX7_cellOf_107 : decode cX7_cellOf 107 = .ok (.iload_n 1, 1) := by decide +kernel
theorem dX7_cellOf_108 : decode cX7_cellOf 108 = .ok (.iload_n 2, 1) := by decide +kernel
theorem dX7_cellOf_109 : decode cX7_cellOf 109 = .ok (.invokevirtual 49, 3) := by decide +kernel
theorem dX7_cellOf_112 : decode cX7_cellOf 112 = .ok (.iconst (-1), 1) := by decide +kernel
theorem dX7_cellOf_113 : decode cX7_cellOf 113 = .ok (.if_icmp .ne 8, 3) := by decide +kernel
theorem dX7_cellOf_116 : decode cX7_cellOf 116 = .ok (.bipush (-4), 2) := by decide +kernel
theorem dX7_cellOf_118 : decode cX7_cellOf 118 = .ok (.goto 9, 3) := by decide +kernel
theorem dX7_cellOf_121 : decode cX7_cellOf 121 = .ok (.aload_n 0, 1) := by decide +kernel
theorem dX7_cellOf_122 : decode cX7_cellOf 122 = .ok (.iload_n 1, 1) := by decide +kernel
theorem dX7_cellOf_123 : decode cX7_cellOf 123 = .ok (.iload_n 2, 1) := by decide +kernel
theorem dX7_cellOf_124 : decode cX7_cellOf 124 = .ok (.invokevirtual 49, 3) := by decide +kernel
theorem dX7_cellOf_127 : decode cX7_cellOf 127 = .ok (.ireturn, 1) := by decide +kernel
theorem dX7_cell_0 : decode cX7_cell 0 = .ok (.aload_n 0, 1) := by decide +kernel
theorem dX7_cell_1 : decode cX7_cell 1 = .ok (.iload_n 1, 1) := by decide +kernel
theorem dX7_cell_2 : decode cX7_cell 2 = .ok (.iload_n 2, 1) := by decide +kernel
theorem dX7_cell_3 : decode cX7_cell 3 = .ok (.invokevirtual 68, 3) := by decide +kernel
theorem dX7_cell_6 : decode cX7_cell 6 = .ok (.ifCond .eq 22, 3) := by decide +kernel
theorem dX7_cell_9 : decode cX7_cell 9 = .ok (.iload_n 3, 1) := by decide +kernel
theorem dX7_cell_10 : decode cX7_cell 10 = .ok (.iconst 0, 1) := by decide +kernel
theorem dX7_cell_11 : decode cX7_cell 11 = .ok (.iconst 3, 1) := by decide +kernel
theorem dX7_cell_12 : decode cX7_cell 12 = .ok (.invokestatic 37, 3) := by decide +kernel
theorem dX7_cell_15 : decode cX7_cell 15 = .ok (.ifCond .eq 13, 3) := by decide +kernel
theorem dX7_cell_18 : decode cX7_cell 18 = .ok (.aload_n 0, 1) := by decide +kernel
theorem dX7_cell_19 : decode cX7_cell 19 = .ok (.iload_n 1, 1) := by decide +kernel
theorem dX7_cell_20 : decode cX7_cell 20 = .ok (.iload_n 2, 1) := by decide +kernel
theorem dX7_cell_21 : decode cX7_cell 21 = .ok (.iload_n 3, 1) := by decide +kernel
theorem dX7_cell_22 : decode cX7_cell 22 = .ok (.invokevirtual 81, 3) := by decide +kernel
theorem dX7_cell_25 : decode cX7_cell 25 = .ok (.goto 4, 3) := by decide +kernel
theorem dX7_cell_28 : decode cX7_cell 28 = .ok (.iconst (-1), 1) := by decide +kernel
theorem dX7_cell_29 : decode cX7_cell 29 = .ok (.ireturn, 1) := by decide +kernel
theorem dX7_differences_0 : decode cX7_differences 0 = .ok (.iconst 0, 1) := by decide +kernel
theorem dX7_differences_1 : decode cX7_differences 1 = .ok (.istore_n 2, 1) := by decide +kernel
theorem dX7_differences_2 : decode cX7_differences 2 = .ok (.bipush (-4), 2) := by decide +kernel
theorem dX7_differences_4 : decode cX7_differences 4 = .ok (.istore_n 3, 1) := by decide +kernel
theorem dX7_differences_5 : decode cX7_differences 5 = .ok (.iconst 0, 1) := by decide +kernel
theorem dX7_differences_6 : decode cX7_differences 6 = .ok (.istore 4, 2) := by decide +kernel
theorem dX7_differences_8 : decode cX7_differences 8 = .ok (.iload 4, 2) := by decide +kernel
theorem dX7_differences_10 : decode cX7_differences 10 = .ok (.aload_n 0, 1) := by decide +kernel
theorem dX7_differences_11 : decode cX7_differences 11 = .ok (.invokevirtual 41, 3) := by decide +kernel
theorem dX7_differences_14 : decode cX7_differences 14 = .ok (.if_icmp .ge 54, 3) := by decide +kernel
theorem dX7_differences_17 : decode cX7_differences 17 = .ok (.aload_n 0, 1) := by decide +kernel
theorem dX7_differences_18 : decode cX7_differences 18 = .ok (.getfield 7, 3) := by decide +kernel
theorem dX7_differences_21 : decode cX7_differences 21 = .ok (.sipush 164, 3) := by decide +kernel
theorem dX7_differences_24 : decode cX7_differences 24 = .ok (.iload 4, 2) := by decide +kernel
theorem dX7_differences_26 : decode cX7_differences 26 = .ok (.iadd, 1) := by decide +kernel
theorem dX7_differences_27 : decode cX7_differences 27 = .ok (.iaload, 1) := by decide +kernel
theorem dX7_differences_28 : decode cX7_differences 28 = .ok (.iconst (-1), 1) := by decide +kernel
theorem dX7_differences_29 : decode cX7_differences 29 = .ok (.if_icmp .eq 33, 3) := by decide +kernel
theorem dX7_differences_32 : decode cX7_differences 32 = .ok (.iload_n 2, 1) := by decide +kernel
theorem dX7_differences_33 : decode cX7_differences 33 = .ok (.aload_n 0, 1) := by decide +kernel
theorem dX7_differences_34 : decode cX7_differences 34 = .ok (.iload 4, 2) := by decide +kernel
theorem dX7_differences_36 : decode cX7_differences 36 = .ok (.invokevirtual 78, 3) := by decide +kernel
theorem dX7_differences_39 : decode cX7_differences 39 = .ok (.iadd, 1) := by decide +kernel
theorem dX7_differences_40 : decode cX7_differences 40 = .ok (.istore_n 2, 1) := by decide +kernel
theorem dX7_differences_41 : decode cX7_differences 41 = .ok (.aload_n 0, 1) := by decide +kernel
theorem dX7_differences_42 : decode cX7_differences 42 = .ok (.iload 4, 2) := by decide +kernel
theorem dX7_differences_44 : decode cX7_differences 44 = .ok (.invokevirtual 78, 3) := by decide +kernel
theorem dX7_differences_47 : decode cX7_differences 47 = .ok (.iload_n 3, 1) := by decide +kernel
theorem dX7_differences_48 : decode cX7_differences 48 = .ok (.if_icmp .le 12, 3) := by decide +kernel
theorem dX7_differences_51 : decode cX7_differences 51 = .ok (.aload_n 0, 1) := by decide +kernel
theorem dX7_differences_52 : decode cX7_differences 52 = .ok (.iload 4, 2) := by decide +kernel
theorem dX7_differences_54 : decode cX7_differences 54 = .ok (.invokevirtual 78, 3) := by decide +kernel
theorem dX7_differences_57 : decode cX7_differences 57 = .ok (.goto 4, 3) := by decide +kernel
theorem dX7_differences_60 : decode cX7_differences 60 = .ok (.iload_n 3, 1) := by decide +kernel
theorem dX7_differences_61 : decode cX7_differences 61 = .ok (.istore_n 3, 1) := by decide +kernel
theorem dX7_differences_62 : decode cX7_differences 62 = .ok (.iinc 4 1, 3) := by decide +kernel
theorem dX7_differences_65 : decode cX7_differences 65 = .ok (.goto (-57), 3) := by decide +kernel
theorem dX7_differences_68 : decode cX7_differences 68 = .ok (.iload_n 1, 1) := by decide +kernel
theorem dX7_differences_69 : decode cX7_differences 69 = .ok (.ifCond .eq 7, 3) := by decide +kernel
theorem dX7_differences_72 : decode cX7_differences 72 = .ok (.iload_n 3, 1) := by decide +kernel
theorem dX7_differences_73 : decode cX7_differences 73 = .ok (.goto 4, 3) := by decide +kernel
theorem dX7_differences_76 : decode cX7_differences 76 = .ok (.iload_n 2, 1) := by decide +kernel
theorem dX7_differences_77 : decode cX7_differences 77 = .ok (.ireturn, 1) := by decide +kernel
theorem dX7_account_0 : decode cX7_account 0 = .ok (.iconst 0, 1) := by decide +kernel
theorem dX7_account_1 : decode cX7_account 1 = .ok (.istore_n 2, 1) := by decide +kernel
theorem dX7_account_2 : decode cX7_account 2 = .ok (.iconst 0, 1) := by decide +kernel
theorem dX7_account_3 : decode cX7_account 3 = .ok (.istore_n 3, 1) := by decide +kernel
theorem dX7_account_4 : decode cX7_account 4 = .ok (.iconst 0, 1) := by decide +kernel
theorem dX7_account_5 : decode cX7_account 5 = .ok (.istore 4, 2) := by decide +kernel
theorem dX7_account_7 : decode cX7_account 7 = .ok (.iload 4, 2) := by decide +kernel
theorem dX7_account_9 : decode cX7_account 9 = .ok (.aload_n 0, 1) := by decide +kernel
theorem dX7_account_10 : decode cX7_account 10 = .ok (.getfield 7, 3) := by decide +kernel
theorem dX7_account_13 : decode cX7_account 13 = .ok (.bipush 6, 2) := by decide +kernel
theorem dX7_account_15 : decode cX7_account 15 = .ok (.iaload, 1) := by decide +kernel
theorem dX7_account_16 : decode cX7_account 16 = .ok (.if_icmp .ge 28, 3) := by decide +kernel
theorem dX7_account_19 : decode cX7_account 19 = .ok (.iload_n 2, 1) := by decide +kernel
theorem dX7_account_20 : decode cX7_account 20 = .ok (.aload_n 0, 1) := by decide +kernel
theorem dX7_account_21 : decode cX7_account 21 = .ok (.iload 4, 2) := by decide +kernel
theorem dX7_account_23 : decode cX7_account 23 = .ok (.iconst 0, 1) := by decide +kernel
theorem dX7_account_24 : decode cX7_account 24 = .ok (.invokevirtual 85, 3) := by decide +kernel
theorem dX7_account_27 : decode cX7_account 27 = .ok (.iadd, 1) := by decide +kernel
theorem dX7_account_28 : decode cX7_account 28 = .ok (.istore_n 2, 1) := by decide +kernel
theorem dX7_account_29 : decode cX7_account 29 = .ok (.iload_n 3, 1) := by decide +kernel
theorem dX7_account_30 : decode cX7_account 30 = .ok (.aload_n 0, 1) := by decide +kernel
theorem dX7_account_31 : decode cX7_account 31 = .ok (.iload 4, 2) := by decide +kernel
theorem dX7_account_33 : decode cX7_account 33 = .ok (.invokevirtual 88, 3) := by decide +kernel
theorem dX7_account_36 : decode cX7_account 36 = .ok (.iadd, 1) := by decide +kernel
theorem dX7_account_37 : decode cX7_account 37 = .ok (.istore_n 3, 1) := by decide +kernel
theorem dX7_account_38 : decode cX7_account 38 = .ok (.iinc 4 1, 3) := by decide +kernel
theorem dX7_account_41 : decode cX7_account 41 = .ok (.goto (-34), 3) := by decide +kernel
theorem dX7_account_44 : decode cX7_account 44 = .ok (.iload_n 1, 1) := by decide +kernel
theorem dX7_account_45 : decode cX7_account 45 = .ok (.tableswitch 59 0 3 #[31, 33, 35, 47], 31) := by decide +kernel
theorem dX7_account_76 : decode cX7_account 76 = .ok (.iload_n 2, 1) := by decide +kernel
theorem dX7_account_77 : decode cX7_account 77 = .ok (.ireturn, 1) := by decide +kernel
theorem dX7_account_78 : decode cX7_account 78 = .ok (.iload_n 3, 1) := by decide +kernel
theorem dX7_account_79 : decode cX7_account 79 = .ok (.ireturn, 1) := by decide +kernel
theorem dX7_account_80 : decode cX7_account 80 = .ok (.aload_n 0, 1) := by decide +kernel
theorem dX7_account_81 : decode cX7_account 81 = .ok (.getfield 7, 3) := by decide +kernel
theorem dX7_account_84 : decode cX7_account 84 = .ok (.iconst 2, 1) := by decide +kernel
theorem dX7_account_85 : decode cX7_account 85 = .ok (.iaload, 1) := by decide +kernel
theorem dX7_account_86 : decode cX7_account 86 = .ok (.aload_n 0, 1) := by decide +kernel
theorem dX7_account_87 : decode cX7_account 87 = .ok (.invokevirtual 65, 3) := by decide +kernel
theorem dX7_account_90 : decode cX7_account 90 = .ok (.imul, 1) := by decide +kernel
theorem dX7_account_91 : decode cX7_account 91 = .ok (.ireturn, 1) := by decide +kernel
theorem dX7_account_92 : decode cX7_account 92 = .ok (.aload_n 0, 1) := by decide +kernel
theorem dX7_account_93 : decode cX7_account 93 = .ok (.getfield 7, 3) := by decide +kernel
theorem dX7_account_96 : decode cX7_account 96 = .ok (.iconst 2, 1) := by decide +kernel
theorem dX7_account_97 : decode cX7_account 97 = .ok (.iaload, 1) := by decide +kernel
theorem dX7_account_98 : decode cX7_account 98 = .ok (.aload_n 0, 1) := by decide +kernel
theorem dX7_account_99 : decode cX7_account 99 = .ok (.invokevirtual 59, 3) := by decide +kernel
theorem dX7_account_102 : decode cX7_account 102 = .ok (.imul, 1) := by decide +kernel
theorem dX7_account_103 : decode cX7_account 103 = .ok (.ireturn, 1) := by decide +kernel
theorem dX7_account_104 : decode cX7_account 104 = .ok (.aload_n 0, 1) := by decide +kernel
theorem dX7_account_105 : decode cX7_account 105 = .ok (.getfield 7, 3) := by decide +kernel
theorem dX7_account_108 : decode cX7_account 108 = .ok (.bipush 9, 2) := by decide +kernel
theorem dX7_account_110 : decode cX7_account 110 = .ok (.iload_n 1, 1) := by decide +kernel
theorem dX7_account_111 : decode cX7_account 111 = .ok (.iadd, 1) := by decide +kernel
theorem dX7_account_112 : decode cX7_account 112 = .ok (.iconst 4, 1) := by decide +kernel
theorem dX7_account_113 : decode cX7_account 113 = .ok (.isub, 1) := by decide +kernel
theorem dX7_account_114 : decode cX7_account 114 = .ok (.iaload, 1) := by decide +kernel
theorem dX7_account_115 : decode cX7_account 115 = .ok (.ireturn, 1) := by decide +kernel
theorem dX7_count_0 : decode cX7_count 0 = .ok (.iload_n 1, 1) := by decide +kernel
theorem dX7_count_1 : decode cX7_count 1 = .ok (.tableswitch 189 0 16 #[83, 83, 90, 95, 95, 104, 117, 122, 122, 138, 146, 151, 159, 167, 172, 177, 177], 83) := by decide +kernel
theorem dX7_count_84 : decode cX7_count 84 = .ok (.aload_n 0, 1) := by decide +kernel
theorem dX7_count_85 : decode cX7_count 85 = .ok (.getfield 7, 3) := by decide +kernel
theorem dX7_count_88 : decode cX7_count 88 = .ok (.iload_n 1, 1) := by decide +kernel
theorem dX7_count_89 : decode cX7_count 89 = .ok (.iaload, 1) := by decide +kernel
theorem dX7_count_90 : decode cX7_count 90 = .ok (.ireturn, 1) := by decide +kernel
theorem dX7_count_91 : decode cX7_count 91 = .ok (.aload_n 0, 1) := by decide +kernel
theorem dX7_count_92 : decode cX7_count 92 = .ok (.invokevirtual 56, 3) := by decide +kernel
theorem dX7_count_95 : decode cX7_count 95 = .ok (.ireturn, 1) := by decide +kernel
theorem dX7_count_96 : decode cX7_count 96 = .ok (.aload_n 0, 1) := by decide +kernel
theorem dX7_count_97 : decode cX7_count 97 = .ok (.getfield 7, 3) := by decide +kernel
theorem dX7_count_100 : decode cX7_count 100 = .ok (.iload_n 1, 1) := by decide +kernel
theorem dX7_count_101 : decode cX7_count 101 = .ok (.iconst 1, 1) := by decide +kernel
theorem dX7_count_102 : decode cX7_count 102 = .ok (.iadd, 1) := by decide +kernel
theorem dX7_count_103 : decode cX7_count 103 = .ok (.iaload, 1) := by decide +kernel
theorem dX7_count_104 : decode cX7_count 104 = .ok (.ireturn, 1) := by decide +kernel
theorem dX7_count_105 : decode cX7_count 105 = .ok (.aload_n 0, 1) := by decide +kernel
theorem dX7_count_106 : decode cX7_count 106 = .ok (.invokevirtual 91, 3) := by decide +kernel
theorem dX7_count_109 : decode cX7_count 109 = .ok (.ifCond .eq 7, 3) := by decide +kernel
theorem dX7_count_112 : decode cX7_count 112 = .ok (.iconst 1, 1) := by decide +kernel
theorem dX7_count_113 : decode cX7_count 113 = .ok (.goto 4, 3) := by decide +kernel
theorem dX7_count_116 : decode cX7_count 116 = .ok (.iconst 0, 1) := by decide +kernel
theorem dX7_count_117 : decode cX7_count 117 = .ok (.ireturn, 1) := by decide +kernel
theorem dX7_count_118 : decode cX7_count 118 = .ok (.aload_n 0, 1) := by decide +kernel
theorem dX7_count_119 : decode cX7_count 119 = .ok (.invokevirtual 59, 3) := by decide +kernel
theorem dX7_count_122 : decode cX7_count 122 = .ok (.ireturn, 1) := by decide +kernel
theorem dX7_count_123 : decode cX7_count 123 = .ok (.aload_n 0, 1) := by decide +kernel
theorem dX7_count_124 : decode cX7_count 124 = .ok (.iload_n 1, 1) := by decide +kernel
theorem dX7_count_125 : decode cX7_count 125 = .ok (.bipush 8, 2) := by decide +kernel
theorem dX7_count_127 : decode cX7_count 127 = .ok (.if_icmp .ne 7, 3) := by decide +kernel
theorem dX7_count_130 : decode cX7_count 130 = .ok (.iconst 1, 1) := by decide +kernel
theorem dX7_count_131 : decode cX7_count 131 = .ok (.goto 4, 3) := by decide +kernel
theorem dX7_count_134 : decode cX7_count 134 = .ok (.iconst 0, 1) := by decide +kernel
theorem dX7_count_135 : decode cX7_count 135 = .ok (.invokevirtual 95, 3) := by decide +kernel
theorem dX7_count_138 : decode cX7_count 138 = .ok (.ireturn, 1) := by decide +kernel
theorem dX7_count_139 : decode cX7_count 139 = .ok (.aload_n 0, 1) := by decide +kernel
theorem dX7_count_140 : decode cX7_count 140 = .ok (.getfield 7, 3) := by decide +kernel
theorem dX7_count_143 : decode cX7_count 143 = .ok (.bipush 6, 2) := by decide +kernel
theorem dX7_count_145 : decode cX7_count 145 = .ok (.iaload, 1) := by decide +kernel
theorem dX7_count_146 : decode cX7_count 146 = .ok (.ireturn, 1) := by decide +kernel
theorem dX7_count_147 : decode cX7_count 147 = .ok (.aload_n 0, 1) := by decide +kernel
theorem dX7_count_148 : decode cX7_count 148 = .ok (.invokevirtual 65, 3) := by decide +kernel
theorem dX7_count_151 : decode cX7_count 151 = .ok (.ireturn, 1) := by decide +kernel
theorem dX7_count_152 : decode cX7_count 152 = .ok (.aload_n 0, 1) := by decide +kernel
theorem dX7_count_153 : decode cX7_count 153 = .ok (.getfield 7, 3) := by decide +kernel
theorem dX7_count_156 : decode cX7_count 156 = .ok (.bipush 8, 2) := by decide +kernel
theorem dX7_count_158 : decode cX7_count 158 = .ok (.iaload, 1) := by decide +kernel
theorem dX7_count_159 : decode cX7_count 159 = .ok (.ireturn, 1) := by decide +kernel
theorem dX7_count_160 : decode cX7_count 160 = .ok (.aload_n 0, 1) := by decide +kernel
theorem dX7_count_161 : decode cX7_count 161 = .ok (.getfield 7, 3) := by decide +kernel
theorem dX7_count_164 : decode cX7_count 164 = .ok (.bipush 7, 2) := by decide +kernel
theorem dX7_count_166 : decode cX7_count 166 = .ok (.iaload, 1) := by decide +kernel
theorem dX7_count_167 : decode cX7_count 167 = .ok (.ireturn, 1) := by decide +kernel
theorem dX7_count_168 : decode cX7_count 168 = .ok (.aload_n 0, 1) := by decide +kernel
theorem dX7_count_169 : decode cX7_count 169 = .ok (.getfield 29, 3) := by decide +kernel
theorem dX7_count_172 : decode cX7_count 172 = .ok (.ireturn, 1) := by decide +kernel
theorem dX7_count_173 : decode cX7_count 173 = .ok (.aload_n 0, 1) := by decide +kernel
theorem dX7_count_174 : decode cX7_count 174 = .ok (.getfield 99, 3) := by decide +kernel
theorem dX7_count_177 : decode cX7_count 177 = .ok (.ireturn, 1) := by decide +kernel
theorem dX7_count_178 : decode cX7_count 178 = .ok (.aload_n 0, 1) := by decide +kernel
theorem dX7_count_179 : decode cX7_count 179 = .ok (.getfield 7, 3) := by decide +kernel
theorem dX7_count_182 : decode cX7_count 182 = .ok (.iconst 2, 1) := by decide +kernel
theorem dX7_count_183 : decode cX7_count 183 = .ok (.iload_n 1, 1) := by decide +kernel
theorem dX7_count_184 : decode cX7_count 184 = .ok (.iadd, 1) := by decide +kernel
theorem dX7_count_185 : decode cX7_count 185 = .ok (.bipush 15, 2) := by decide +kernel
theorem dX7_count_187 : decode cX7_count 187 = .ok (.isub, 1) := by decide +kernel
theorem dX7_count_188 : decode cX7_count 188 = .ok (.iaload, 1) := by decide +kernel
theorem dX7_count_189 : decode cX7_count 189 = .ok (.ireturn, 1) := by decide +kernel
theorem dX7_count_190 : decode cX7_count 190 = .ok (.iload_n 1, 1) := by decide +kernel
theorem dX7_count_191 : decode cX7_count 191 = .ok (.bipush 20, 2) := by decide +kernel
theorem dX7_count_193 : decode cX7_count 193 = .ok (.bipush 26, 2) := by decide +kernel
theorem dX7_count_195 : decode cX7_count 195 = .ok (.invokestatic 37, 3) := by decide +kernel
theorem dX7_count_198 : decode cX7_count 198 = .ok (.ifCond .eq 14, 3) := by decide +kernel
theorem dX7_count_201 : decode cX7_count 201 = .ok (.aload_n 0, 1) := by decide +kernel
theorem dX7_count_202 : decode cX7_count 202 = .ok (.iload_n 1, 1) := by decide +kernel
theorem dX7_count_203 : decode cX7_count 203 = .ok (.bipush 20, 2) := by decide +kernel
theorem dX7_count_205 : decode cX7_count 205 = .ok (.isub, 1) := by decide +kernel
theorem dX7_count_206 : decode cX7_count 206 = .ok (.invokevirtual 102, 3) := by decide +kernel
theorem dX7_count_209 : decode cX7_count 209 = .ok (.goto 4, 3) := by decide +kernel
theorem dX7_count_212 : decode cX7_count 212 = .ok (.iconst (-1), 1) := by decide +kernel
theorem dX7_count_213 : decode cX7_count 213 = .ok (.ireturn, 1) := by decide +kernel
theorem dX7_shade_0 : decode cX7_shade 0 = .ok (.iload_n 1, 1) := by decide +kernel
theorem dX7_shade_1 : decode cX7_shade 1 = .ok (.ifCond .ge 5, 3) := by decide +kernel
theorem dX7_shade_4 : decode cX7_shade 4 = .ok (.iconst (-1), 1) := by decide +kernel
theorem dX7_shade_5 : decode cX7_shade 5 = .ok (.ireturn, 1) := by decide +kernel
theorem dX7_shade_6 : decode cX7_shade 6 = .ok (.iload_n 1, 1) := by decide +kernel
theorem dX7_shade_7 : decode cX7_shade 7 = .ok (.aload_n 0, 1) := by decide +kernel
theorem dX7_shade_8 : decode cX7_shade 8 = .ok (.getfield 7, 3) := by decide +kernel
theorem dX7_shade_11 : decode cX7_shade 11 = .ok (.iconst 4, 1) := by decide +kernel
theorem dX7_shade_12 : decode cX7_shade 12 = .ok (.iaload, 1) := by decide +kernel
theorem dX7_shade_13 : decode cX7_shade 13 = .ok (.if_icmp .ge 15, 3) := by decide +kernel
theorem dX7_shade_16 : decode cX7_shade 16 = .ok (.aload_n 0, 1) := by decide +kernel
theorem dX7_shade_17 : decode cX7_shade 17 = .ok (.getfield 7, 3) := by decide +kernel
theorem dX7_shade_20 : decode cX7_shade 20 = .ok (.bipush 12, 2) := by decide +kernel
theorem dX7_shade_22 : decode cX7_shade 22 = .ok (.iload_n 1, 1) := by decide +kernel
theorem dX7_shade_23 : decode cX7_shade 23 = .ok (.iadd, 1) := by decide +kernel
theorem dX7_shade_24 : decode cX7_shade 24 = .ok (.iaload, 1) := by decide +kernel
theorem dX7_shade_25 : decode cX7_shade 25 = .ok (.goto 5, 3) := by decide +kernel
theorem dX7_shade_28 : decode cX7_shade 28 = .ok (.bipush (-4), 2) := by decide +kernel
theorem dX7_shade_30 : decode cX7_shade 30 = .ok (.ireturn, 1) := by decide +kernel
theorem dX7_undo_0 : decode cX7_undo 0 = .ok (.aload_n 0, 1) := by decide +kernel
theorem dX7_undo_1 : decode cX7_undo 1 = .ok (.getfield 29, 3) := by decide +kernel
theorem dX7_undo_4 : decode cX7_undo 4 = .ok (.ifCond .ne 6, 3) := by decide +kernel
theorem dX7_undo_7 : decode cX7_undo 7 = .ok (.bipush (-2), 2) := by decide +kernel
theorem dX7_undo_9 : decode cX7_undo 9 = .ok (.ireturn, 1) := by decide +kernel
theorem dX7_undo_10 : decode cX7_undo 10 = .ok (.aload_n 0, 1) := by decide +kernel
theorem dX7_undo_11 : decode cX7_undo 11 = .ok (.dup, 1) := by decide +kernel
theorem dX7_undo_12 : decode cX7_undo 12 = .ok (.getfield 29, 3) := by decide +kernel
theorem dX7_undo_15 : decode cX7_undo 15 = .ok (.iconst 1, 1) := by decide +kernel
theorem dX7_undo_16 : decode cX7_undo 16 = .ok (.isub, 1) := by decide +kernel
theorem dX7_undo_17 : decode cX7_undo 17 = .ok (.putfield 29, 3) := by decide +kernel
theorem dX7_undo_20 : decode cX7_undo 20 = .ok (.aload_n 0, 1) := by decide +kernel
theorem dX7_undo_21 : decode cX7_undo 21 = .ok (.getfield 16, 3) := by decide +kernel
theorem dX7_undo_24 : decode cX7_undo 24 = .ok (.sipush 518, 3) := by decide +kernel
theorem dX7_undo_27 : decode cX7_undo 27 = .ok (.aload_n 0, 1) := by decide +kernel
theorem dX7_undo_28 : decode cX7_undo 28 = .ok (.getfield 29, 3) := by decide +kernel
theorem dX7_undo_31 : decode cX7_undo 31 = .ok (.imul, 1) := by decide +kernel
theorem dX7_undo_32 : decode cX7_undo 32 = .ok (.aload_n 0, 1) := by decide +kernel
theorem dX7_undo_33 : decode cX7_undo 33 = .ok (.getfield 7, 3) := by decide +kernel
theorem dX7_undo_36 : decode cX7_undo 36 = .ok (.iconst 0, 1) := by decide +kernel
theorem dX7_undo_37 : decode cX7_undo 37 = .ok (.invokestatic 33, 3) := by decide +kernel
theorem dX7_undo_40 : decode cX7_undo 40 = .ok (.aload_n 0, 1) := by decide +kernel
theorem dX7_undo_41 : decode cX7_undo 41 = .ok (.getfield 29, 3) := by decide +kernel
theorem dX7_undo_44 : decode cX7_undo 44 = .ok (.ireturn, 1) := by decide +kernel
theorem dX7_of_0 : decode cX7_of 0 = .ok (.aload_n 0, 1) := by decide +kernel
theorem dX7_of_1 : decode cX7_of 1 = .ok (.getfield 7, 3) := by decide +kernel
theorem dX7_of_4 : decode cX7_of 4 = .ok (.sipush 408, 3) := by decide +kernel
theorem dX7_of_7 : decode cX7_of 7 = .ok (.bipush 11, 2) := by decide +kernel
theorem dX7_of_9 : decode cX7_of 9 = .ok (.iload_n 1, 1) := by decide +kernel
theorem dX7_of_10 : decode cX7_of 10 = .ok (.imul, 1) := by decide +kernel
theorem dX7_of_11 : decode cX7_of 11 = .ok (.iadd, 1) := by decide +kernel
theorem dX7_of_12 : decode cX7_of 12 = .ok (.iload_n 2, 1) := by decide +kernel
theorem dX7_of_13 : decode cX7_of 13 = .ok (.iadd, 1) := by decide +kernel
theorem dX7_of_14 : decode cX7_of 14 = .ok (.iaload, 1) := by decide +kernel
theorem dX7_of_15 : decode cX7_of 15 = .ok (.ireturn, 1) := by decide +kernel
theorem dX7_put_0 : decode cX7_put 0 = .ok (.aload_n 0, 1) := by decide +kernel
theorem dX7_put_1 : decode cX7_put 1 = .ok (.getfield 7, 3) := by decide +kernel
theorem dX7_put_4 : decode cX7_put 4 = .ok (.sipush 408, 3) := by decide +kernel
theorem dX7_put_7 : decode cX7_put 7 = .ok (.bipush 11, 2) := by decide +kernel
theorem dX7_put_9 : decode cX7_put 9 = .ok (.iload_n 1, 1) := by decide +kernel
theorem dX7_put_10 : decode cX7_put 10 = .ok (.imul, 1) := by decide +kernel
theorem dX7_put_11 : decode cX7_put 11 = .ok (.iadd, 1) := by decide +kernel
theorem dX7_put_12 : decode cX7_put 12 = .ok (.iload_n 2, 1) := by decide +kernel
theorem dX7_put_13 : decode cX7_put 13 = .ok (.iadd, 1) := by decide +kernel
theorem dX7_put_14 : decode cX7_put 14 = .ok (.iload_n 3, 1) := by decide +kernel
theorem dX7_put_15 : decode cX7_put 15 = .ok (.iastore, 1) := by decide +kernel
theorem dX7_put_16 : decode cX7_put 16 = .ok (.return_, 1) := by decide +kernel
theorem dX7_isStrip_0 : decode cX7_isStrip 0 = .ok (.iload_n 1, 1) := by decide +kernel
theorem dX7_isStrip_1 : decode cX7_isStrip 1 = .ok (.iconst 0, 1) := by decide +kernel
theorem dX7_isStrip_2 : decode cX7_isStrip 2 = .ok (.aload_n 0, 1) := by decide +kernel
theorem dX7_isStrip_3 : decode cX7_isStrip 3 = .ok (.getfield 7, 3) := by decide +kernel
theorem dX7_isStrip_6 : decode cX7_isStrip 6 = .ok (.bipush 6, 2) := by decide +kernel
theorem dX7_isStrip_8 : decode cX7_isStrip 8 = .ok (.iaload, 1) := by decide +kernel
theorem dX7_isStrip_9 : decode cX7_isStrip 9 = .ok (.iconst 1, 1) := by decide +kernel
theorem dX7_isStrip_10 : decode cX7_isStrip 10 = .ok (.isub, 1) := by decide +kernel
theorem dX7_isStrip_11 : decode cX7_isStrip 11 = .ok (.invokestatic 37, 3) := by decide +kernel
theorem dX7_isStrip_14 : decode cX7_isStrip 14 = .ok (.ireturn, 1) := by decide +kernel
theorem dX7_left_0 : decode cX7_left 0 = .ok (.aload_n 0, 1) := by decide +kernel
theorem dX7_left_1 : decode cX7_left 1 = .ok (.iload_n 1, 1) := by decide +kernel
theorem dX7_left_2 : decode cX7_left 2 = .ok (.iconst 0, 1) := by decide +kernel
theorem dX7_left_3 : decode cX7_left 3 = .ok (.invokevirtual 85, 3) := by decide +kernel
theorem dX7_left_6 : decode cX7_left 6 = .ok (.aload_n 0, 1) := by decide +kernel
theorem dX7_left_7 : decode cX7_left 7 = .ok (.iload_n 1, 1) := by decide +kernel
theorem dX7_left_8 : decode cX7_left 8 = .ok (.iconst 2, 1) := by decide +kernel
theorem dX7_left_9 : decode cX7_left 9 = .ok (.invokevirtual 85, 3) := by decide +kernel
theorem dX7_left_12 : decode cX7_left 12 = .ok (.isub, 1) := by decide +kernel
theorem dX7_left_13 : decode cX7_left 13 = .ok (.ireturn, 1) := by decide +kernel
theorem dX7_strip_0 : decode cX7_strip 0 = .ok (.iload_n 1, 1) := by decide +kernel
theorem dX7_strip_1 : decode cX7_strip 1 = .ok (.bipush 20, 2) := by decide +kernel
theorem dX7_strip_3 : decode cX7_strip 3 = .ok (.sipush 1000, 3) := by decide +kernel
theorem dX7_strip_6 : decode cX7_strip 6 = .ok (.invokestatic 37, 3) := by decide +kernel
theorem dX7_strip_9 : decode cX7_strip 9 = .ok (.ifCond .eq 13, 3) := by decide +kernel
theorem dX7_strip_12 : decode cX7_strip 12 = .ok (.iload_n 2, 1) := by decide +kernel
theorem dX7_strip_13 : decode cX7_strip 13 = .ok (.iconst 0, 1) := by decide +kernel
theorem dX7_strip_14 : decode cX7_strip 14 = .ok (.bipush 99, 2) := by decide +kernel
theorem dX7_strip_16 : decode cX7_strip 16 = .ok (.invokestatic 37, 3) := by decide +kernel
theorem dX7_strip_19 : decode cX7_strip 19 = .ok (.ifCond .ne 5, 3) := by decide +kernel
theorem dX7_strip_22 : decode cX7_strip 22 = .ok (.iconst (-1), 1) := by decide +kernel
theorem dX7_strip_23 : decode cX7_strip 23 = .ok (.ireturn, 1) := by decide +kernel
theorem dX7_strip_24 : decode cX7_strip 24 = .ok (.aload_n 0, 1) := by decide +kernel
theorem dX7_strip_25 : decode cX7_strip 25 = .ok (.getfield 7, 3) := by decide +kernel
theorem dX7_strip_28 : decode cX7_strip 28 = .ok (.bipush 6, 2) := by decide +kernel
theorem dX7_strip_30 : decode cX7_strip 30 = .ok (.iaload, 1) := by decide +kernel
theorem dX7_strip_31 : decode cX7_strip 31 = .ok (.bipush 10, 2) := by decide +kernel
theorem dX7_strip_33 : decode cX7_strip 33 = .ok (.if_icmp .ne 6, 3) := by decide +kernel
theorem dX7_strip_36 : decode cX7_strip 36 = .ok (.bipush (-3), 2) := by decide +kernel
theorem dX7_strip_38 : decode cX7_strip 38 = .ok (.ireturn, 1) := by decide +kernel
theorem dX7_strip_39 : decode cX7_strip 39 = .ok (.aload_n 0, 1) := by decide +kernel
theorem dX7_strip_40 : decode cX7_strip 40 = .ok (.invokevirtual 62, 3) := by decide +kernel
theorem dX7_strip_43 : decode cX7_strip 43 = .ok (.aload_n 0, 1) := by decide +kernel
theorem dX7_strip_44 : decode cX7_strip 44 = .ok (.getfield 7, 3) := by decide +kernel
theorem dX7_strip_47 : decode cX7_strip 47 = .ok (.bipush 6, 2) := by decide +kernel
theorem dX7_strip_49 : decode cX7_strip 49 = .ok (.iaload, 1) := by decide +kernel
theorem dX7_strip_50 : decode cX7_strip 50 = .ok (.istore_n 3, 1) := by decide +kernel
theorem dX7_strip_51 : decode cX7_strip 51 = .ok (.aload_n 0, 1) := by decide +kernel
theorem dX7_strip_52 : decode cX7_strip 52 = .ok (.getfield 7, 3) := by decide +kernel
theorem dX7_strip_55 : decode cX7_strip 55 = .ok (.bipush 6, 2) := by decide +kernel
theorem dX7_strip_57 : decode cX7_strip 57 = .ok (.dup2, 1) := by decide +kernel
theorem dX7_strip_58 : decode cX7_strip 58 = .ok (.iaload, 1) := by decide +kernel
theorem dX7_strip_59 : decode cX7_strip 59 = .ok (.iconst 1, 1) := by decide +kernel
theorem dX7_strip_60 : decode cX7_strip 60 = .ok (.iadd, 1) := by decide +kernel
theorem dX7_strip_61 : decode cX7_strip 61 = .ok (.iastore, 1) := by decide +kernel
theorem dX7_strip_62 : decode cX7_strip 62 = .ok (.aload_n 0, 1) := by decide +kernel
theorem dX7_strip_63 : decode cX7_strip 63 = .ok (.iload_n 3, 1) := by decide +kernel
theorem dX7_strip_64 : decode cX7_strip 64 = .ok (.iconst 0, 1) := by decide +kernel
theorem dX7_strip_65 : decode cX7_strip 65 = .ok (.iload_n 1, 1) := by decide +kernel
theorem dX7_strip_66 : decode cX7_strip 66 = .ok (.invokevirtual 105, 3) := by decide +kernel
theorem dX7_strip_69 : decode cX7_strip 69 = .ok (.aload_n 0, 1) := by decide +kernel
theorem dX7_strip_70 : decode cX7_strip 70 = .ok (.iload_n 3, 1) := by decide +kernel
theorem dX7_strip_71 : decode cX7_strip 71 = .ok (.iconst 1, 1) := by decide +kernel
theorem dX7_strip_72 : decode cX7_strip 72 = .ok (.iload_n 2, 1) := by decide +kernel
theorem dX7_strip_73 : decode cX7_strip 73 = .ok (.invokevirtual 105, 3) := by decide +kernel
theorem dX7_strip_76 : decode cX7_strip 76 = .ok (.aload_n 0, 1) := by decide +kernel
theorem dX7_strip_77 : decode cX7_strip 77 = .ok (.iload_n 3, 1) := by decide +kernel
theorem dX7_strip_78 : decode cX7_strip 78 = .ok (.iconst 2, 1) := by decide +kernel
theorem dX7_strip_79 : decode cX7_strip 79 = .ok (.iconst 0, 1) := by decide +kernel
theorem dX7_strip_80 : decode cX7_strip 80 = .ok (.invokevirtual 105, 3) := by decide +kernel
theorem dX7_strip_83 : decode cX7_strip 83 = .ok (.aload_n 0, 1) := by decide +kernel
theorem dX7_strip_84 : decode cX7_strip 84 = .ok (.iload_n 3, 1) := by decide +kernel
theorem dX7_strip_85 : decode cX7_strip 85 = .ok (.iconst 3, 1) := by decide +kernel
theorem dX7_strip_86 : decode cX7_strip 86 = .ok (.iconst 0, 1) := by decide +kernel
theorem dX7_strip_87 : decode cX7_strip 87 = .ok (.invokevirtual 105, 3) := by decide +kernel
theorem dX7_strip_90 : decode cX7_strip 90 = .ok (.aload_n 0, 1) := by decide +kernel
theorem dX7_strip_91 : decode cX7_strip 91 = .ok (.iload_n 3, 1) := by decide +kernel
theorem dX7_strip_92 : decode cX7_strip 92 = .ok (.iconst 4, 1) := by decide +kernel
theorem dX7_strip_93 : decode cX7_strip 93 = .ok (.iconst 0, 1) := by decide +kernel
theorem dX7_strip_94 : decode cX7_strip 94 = .ok (.invokevirtual 105, 3) := by decide +kernel
theorem dX7_strip_97 : decode cX7_strip 97 = .ok (.iload_n 3, 1) := by decide +kernel
theorem dX7_strip_98 : decode cX7_strip 98 = .ok (.ireturn, 1) := by decide +kernel
theorem dX7_hasFlaw_0 : decode cX7_hasFlaw 0 = .ok (.iconst 0, 1) := by decide +kernel
theorem dX7_hasFlaw_1 : decode cX7_hasFlaw 1 = .ok (.istore 4, 2) := by decide +kernel
theorem dX7_hasFlaw_3 : decode cX7_hasFlaw 3 = .ok (.iconst 0, 1) := by decide +kernel
theorem dX7_hasFlaw_4 : decode cX7_hasFlaw 4 = .ok (.istore 5, 2) := by decide +kernel
theorem dX7_hasFlaw_6 : decode cX7_hasFlaw 6 = .ok (.iload 5, 2) := by decide +kernel
theorem dX7_hasFlaw_8 : decode cX7_hasFlaw 8 = .ok (.aload_n 0, 1) := by decide +kernel
theorem dX7_hasFlaw_9 : decode cX7_hasFlaw 9 = .ok (.iload_n 1, 1) := by decide +kernel
theorem dX7_hasFlaw_10 : decode cX7_hasFlaw 10 = .ok (.iconst 3, 1) := by decide +kernel
theorem dX7_hasFlaw_11 : decode cX7_hasFlaw 11 = .ok (.invokevirtual 85, 3) := by decide +kernel
theorem dX7_hasFlaw_14 : decode cX7_hasFlaw 14 = .ok (.if_icmp .ge 40, 3) := by decide +kernel
theorem dX7_hasFlaw_17 : decode cX7_hasFlaw 17 = .ok (.iload 4, 2) := by decide +kernel
theorem dX7_hasFlaw_19 : decode cX7_hasFlaw 19 = .ok (.ifCond .ne 22, 3) := by decide +kernel
theorem dX7_hasFlaw_22 : decode cX7_hasFlaw 22 = .ok (.aload_n 0, 1) := by decide +kernel
theorem dX7_hasFlaw_23 : decode cX7_hasFlaw 23 = .ok (.iload_n 1, 1) := by decide +kernel
theorem dX7_hasFlaw_24 : decode cX7_hasFlaw 24 = .ok (.iconst 5, 1) := by decide +kernel
theorem dX7_hasFlaw_25 : decode cX7_hasFlaw 25 = .ok (.iload 5, 2) := by decide +kernel
theorem dX7_hasFlaw_27 : decode cX7_hasFlaw 27 = .ok (.iadd, 1) := by decide +kernel
theorem dX7_hasFlaw_28 : decode cX7_hasFlaw 28 = .ok (.invokevirtual 85, 3) := by decide +kernel
theorem dX7_hasFlaw_31 : decode cX7_hasFlaw 31 = .ok (.iload_n 2, 1) := by decide +kernel
theorem dX7_hasFlaw_32 : decode cX7_hasFlaw 32 = .ok (.iload_n 3, 1) := by decide +kernel
theorem dX7_hasFlaw_33 : decode cX7_hasFlaw 33 = .ok (.iconst 1, 1) := by decide +kernel
theorem dX7_hasFlaw_34 : decode cX7_hasFlaw 34 = .ok (.isub, 1) := by decide +kernel
theorem dX7_hasFlaw_35 : decode cX7_hasFlaw 35 = .ok (.invokestatic 37, 3) := by decide +kernel
theorem dX7_hasFlaw_38 : decode cX7_hasFlaw 38 = .ok (.ifCond .eq 7, 3) := by decide +kernel
theorem dX7_hasFlaw_41 : decode cX7_hasFlaw 41 = .ok (.iconst 1, 1) := by decide +kernel
theorem dX7_hasFlaw_42 : decode cX7_hasFlaw 42 = .ok (.goto 4, 3) := by decide +kernel
theorem dX7_hasFlaw_45 : decode cX7_hasFlaw 45 = .ok (.iconst 0, 1) := by decide +kernel
theorem dX7_hasFlaw_46 : decode cX7_hasFlaw 46 = .ok (.istore 4, 2) := by decide +kernel
theorem dX7_hasFlaw_48 : decode cX7_hasFlaw 48 = .ok (.iinc 5 1, 3) := by decide +kernel
theorem dX7_hasFlaw_51 : decode cX7_hasFlaw 51 = .ok (.goto (-45), 3) := by decide +kernel
theorem dX7_hasFlaw_54 : decode cX7_hasFlaw 54 = .ok (.iload 4, 2) := by decide +kernel
theorem dX7_hasFlaw_56 : decode cX7_hasFlaw 56 = .ok (.ireturn, 1) := by decide +kernel
theorem dX7_flaw_0 : decode cX7_flaw 0 = .ok (.aload_n 0, 1) := by decide +kernel
theorem dX7_flaw_1 : decode cX7_flaw 1 = .ok (.iload_n 1, 1) := by decide +kernel
theorem dX7_flaw_2 : decode cX7_flaw 2 = .ok (.invokevirtual 109, 3) := by decide +kernel
theorem dX7_flaw_5 : decode cX7_flaw 5 = .ok (.ifCond .eq 14, 3) := by decide +kernel
theorem dX7_flaw_8 : decode cX7_flaw 8 = .ok (.iload_n 2, 1) := by decide +kernel
theorem dX7_flaw_9 : decode cX7_flaw 9 = .ok (.iconst 0, 1) := by decide +kernel
theorem dX7_flaw_10 : decode cX7_flaw 10 = .ok (.sipush 999, 3) := by decide +kernel
theorem dX7_flaw_13 : decode cX7_flaw 13 = .ok (.invokestatic 37, 3) := by decide +kernel
theorem dX7_flaw_16 : decode cX7_flaw 16 = .ok (.ifCond .ne 5, 3) := by decide +kernel
theorem dX7_flaw_19 : decode cX7_flaw 19 = .ok (.iconst (-1), 1) := by decide +kernel
theorem dX7_flaw_20 : decode cX7_flaw 20 = .ok (.ireturn, 1) := by decide +kernel
theorem dX7_flaw_21 : decode cX7_flaw 21 = .ok (.iload_n 2, 1) := by decide +kernel
theorem dX7_flaw_22 : decode cX7_flaw 22 = .ok (.aload_n 0, 1) := by decide +kernel
theorem dX7_flaw_23 : decode cX7_flaw 23 = .ok (.iload_n 1, 1) := by decide +kernel
theorem dX7_flaw_24 : decode cX7_flaw 24 = .ok (.iconst 2, 1) := by decide +kernel
theorem dX7_flaw_25 : decode cX7_flaw 25 = .ok (.invokevirtual 85, 3) := by decide +kernel
theorem dX7_flaw_28 : decode cX7_flaw 28 = .ok (.aload_n 0, 1) := by decide +kernel
theorem dX7_flaw_29 : decode cX7_flaw 29 = .ok (.iload_n 1, 1) := by decide +kernel
theorem dX7_flaw_30 : decode cX7_flaw 30 = .ok (.iconst 0, 1) := by decide +kernel
theorem dX7_flaw_31 : decode cX7_flaw 31 = .ok (.invokevirtual 85, 3) := by decide +kernel
theorem dX7_flaw_34 : decode cX7_flaw 34 = .ok (.iconst 1, 1) := by decide +kernel
theorem dX7_flaw_35 : decode cX7_flaw 35 = .ok (.isub, 1) := by decide +kernel
theorem dX7_flaw_36 : decode cX7_flaw 36 = .ok (.invokestatic 37, 3) := by decide +kernel
theorem dX7_flaw_39 : decode cX7_flaw 39 = .ok (.ifCond .eq 15, 3) := by decide +kernel
theorem dX7_flaw_42 : decode cX7_flaw 42 = .ok (.aload_n 0, 1) := by decide +kernel
theorem dX7_flaw_43 : decode cX7_flaw 43 = .ok (.iload_n 1, 1) := by decide +kernel
theorem dX7_flaw_44 : decode cX7_flaw 44 = .ok (.iload_n 2, 1) := by decide +kernel
theorem dX7_flaw_45 : decode cX7_flaw 45 = .ok (.iload_n 2, 1) := by decide +kernel
theorem dX7_flaw_46 : decode cX7_flaw 46 = .ok (.iconst 1, 1) := by decide +kernel
theorem dX7_flaw_47 : decode cX7_flaw 47 = .ok (.iadd, 1) := by decide +kernel
theorem dX7_flaw_48 : decode cX7_flaw 48 = .ok (.invokevirtual 113, 3) := by decide +kernel
theorem dX7_flaw_51 : decode cX7_flaw 51 = .ok (.ifCond .eq 6, 3) := by decide +kernel
theorem dX7_flaw_54 : decode cX7_flaw 54 = .ok (.bipush (-2), 2) := by decide +kernel
theorem dX7_flaw_56 : decode cX7_flaw 56 = .ok (.ireturn, 1) := by decide +kernel
theorem dX7_flaw_57 : decode cX7_flaw 57 = .ok (.aload_n 0, 1) := by decide +kernel
theorem dX7_flaw_58 : decode cX7_flaw 58 = .ok (.iload_n 1, 1) := by decide +kernel
theorem dX7_flaw_59 : decode cX7_flaw 59 = .ok (.iconst 3, 1) := by decide +kernel
theorem dX7_flaw_60 : decode cX7_flaw 60 = .ok (.invokevirtual 85, 3) := by decide +kernel
theorem dX7_flaw_63 : decode cX7_flaw 63 = .ok (.bipush 6, 2) := by decide +kernel
theorem dX7_flaw_65 : decode cX7_flaw 65 = .ok (.if_icmp .ne 6, 3) := by decide +kernel
theorem dX7_flaw_68 : decode cX7_flaw 68 = .ok (.bipush (-3), 2) := by decide +kernel
theorem dX7_flaw_70 : decode cX7_flaw 70 = .ok (.ireturn, 1) := by decide +kernel
theorem dX7_flaw_71 : decode cX7_flaw 71 = .ok (.aload_n 0, 1) := by decide +kernel
theorem dX7_flaw_72 : decode cX7_flaw 72 = .ok (.invokevirtual 62, 3) := by decide +kernel
theorem dX7_flaw_75 : decode cX7_flaw 75 = .ok (.aload_n 0, 1) := by decide +kernel
theorem dX7_flaw_76 : decode cX7_flaw 76 = .ok (.iload_n 1, 1) := by decide +kernel
theorem dX7_flaw_77 : decode cX7_flaw 77 = .ok (.iconst 5, 1) := by decide +kernel
theorem dX7_flaw_78 : decode cX7_flaw 78 = .ok (.aload_n 0, 1) := by decide +kernel
theorem dX7_flaw_79 : decode cX7_flaw 79 = .ok (.iload_n 1, 1) := by decide +kernel
theorem dX7_flaw_80 : decode cX7_flaw 80 = .ok (.iconst 3, 1) := by decide +kernel
theorem dX7_flaw_81 : decode cX7_flaw 81 = .ok (.invokevirtual 85, 3) := by decide +kernel
theorem dX7_flaw_84 : decode cX7_flaw 84 = .ok (.iadd, 1) := by decide +kernel
theorem dX7_flaw_85 : decode cX7_flaw 85 = .ok (.iload_n 2, 1) := by decide +kernel
theorem dX7_flaw_86 : decode cX7_flaw 86 = .ok (.invokevirtual 105, 3) := by decide +kernel
theorem dX7_flaw_89 : decode cX7_flaw 89 = .ok (.aload_n 0, 1) := by decide +kernel
theorem dX7_flaw_90 : decode cX7_flaw 90 = .ok (.iload_n 1, 1) := by decide +kernel
theorem dX7_flaw_91 : decode cX7_flaw 91 = .ok (.iconst 3, 1) := by decide +kernel
theorem dX7_flaw_92 : decode cX7_flaw 92 = .ok (.aload_n 0, 1) := by decide +kernel
theorem dX7_flaw_93 : decode cX7_flaw 93 = .ok (.iload_n 1, 1) := by decide +kernel
theorem dX7_flaw_94 : decode cX7_flaw 94 = .ok (.iconst 3, 1) := by decide +kernel
theorem dX7_flaw_95 : decode cX7_flaw 95 = .ok (.invokevirtual 85, 3) := by decide +kernel
theorem dX7_flaw_98 : decode cX7_flaw 98 = .ok (.iconst 1, 1) := by decide +kernel
theorem dX7_flaw_99 : decode cX7_flaw 99 = .ok (.iadd, 1) := by decide +kernel
theorem dX7_flaw_100 : decode cX7_flaw 100 = .ok (.invokevirtual 105, 3) := by decide +kernel
theorem dX7_flaw_103 : decode cX7_flaw 103 = .ok (.aload_n 0, 1) := by decide +kernel
theorem dX7_flaw_104 : decode cX7_flaw 104 = .ok (.iload_n 1, 1) := by decide +kernel
theorem dX7_flaw_105 : decode cX7_flaw 105 = .ok (.iconst 3, 1) := by decide +kernel
theorem dX7_flaw_106 : decode cX7_flaw 106 = .ok (.invokevirtual 85, 3) := by decide +kernel
theorem dX7_flaw_109 : decode cX7_flaw 109 = .ok (.ireturn, 1) := by decide +kernel
theorem dX7_canCut_0 : decode cX7_canCut 0 = .ok (.aload_n 0, 1) := by decide +kernel
theorem dX7_canCut_1 : decode cX7_canCut 1 = .ok (.iload_n 1, 1) := by decide +kernel
theorem dX7_canCut_2 : decode cX7_canCut 2 = .ok (.invokevirtual 88, 3) := by decide +kernel
theorem dX7_canCut_5 : decode cX7_canCut 5 = .ok (.aload_n 0, 1) := by decide +kernel
theorem dX7_canCut_6 : decode cX7_canCut 6 = .ok (.getfield 7, 3) := by decide +kernel
theorem dX7_canCut_9 : decode cX7_canCut 9 = .ok (.iconst 2, 1) := by decide +kernel
theorem dX7_canCut_10 : decode cX7_canCut 10 = .ok (.iaload, 1) := by decide +kernel
theorem dX7_canCut_11 : decode cX7_canCut 11 = .ok (.if_icmp .lt 7, 3) := by decide +kernel
theorem dX7_canCut_14 : decode cX7_canCut 14 = .ok (.iconst 1, 1) := by decide +kernel
theorem dX7_canCut_15 : decode cX7_canCut 15 = .ok (.goto 4, 3) := by decide +kernel
theorem dX7_canCut_18 : decode cX7_canCut 18 = .ok (.iconst 0, 1) := by decide +kernel
theorem dX7_canCut_19 : decode cX7_canCut 19 = .ok (.ireturn, 1) := by decide +kernel
theorem dX7_cuts_0 : decode cX7_cuts 0 = .ok (.aload_n 0, 1) := by decide +kernel
theorem dX7_cuts_1 : decode cX7_cuts 1 = .ok (.iload_n 1, 1) := by decide +kernel
theorem dX7_cuts_2 : decode cX7_cuts 2 = .ok (.iconst 2, 1) := by decide +kernel
theorem dX7_cuts_3 : decode cX7_cuts 3 = .ok (.invokevirtual 85, 3) := by decide +kernel
theorem dX7_cuts_6 : decode cX7_cuts 6 = .ok (.istore_n 2, 1) := by decide +kernel
theorem dX7_cuts_7 : decode cX7_cuts 7 = .ok (.aload_n 0, 1) := by decide +kernel
theorem dX7_cuts_8 : decode cX7_cuts 8 = .ok (.iload_n 1, 1) := by decide +kernel
theorem dX7_cuts_9 : decode cX7_cuts 9 = .ok (.iload_n 2, 1) := by decide +kernel
theorem dX7_cuts_10 : decode cX7_cuts 10 = .ok (.iload_n 2, 1) := by decide +kernel
theorem dX7_cuts_11 : decode cX7_cuts 11 = .ok (.aload_n 0, 1) := by decide +kernel
theorem dX7_cuts_12 : decode cX7_cuts 12 = .ok (.getfield 7, 3) := by decide +kernel
theorem dX7_cuts_15 : decode cX7_cuts 15 = .ok (.iconst 2, 1) := by decide +kernel
theorem dX7_cuts_16 : decode cX7_cuts 16 = .ok (.iaload, 1) := by decide +kernel
theorem dX7_cuts_17 : decode cX7_cuts 17 = .ok (.iadd, 1) := by decide +kernel
theorem dX7_cuts_18 : decode cX7_cuts 18 = .ok (.invokevirtual 113, 3) := by decide +kernel
theorem dX7_cuts_21 : decode cX7_cuts 21 = .ok (.ifCond .ne 7, 3) := by decide +kernel
theorem dX7_cuts_24 : decode cX7_cuts 24 = .ok (.iconst 1, 1) := by decide +kernel
theorem dX7_cuts_25 : decode cX7_cuts 25 = .ok (.goto 4, 3) := by decide +kernel
theorem dX7_cuts_28 : decode cX7_cuts 28 = .ok (.iconst 0, 1) := by decide +kernel
theorem dX7_cuts_29 : decode cX7_cuts 29 = .ok (.istore_n 3, 1) := by decide +kernel
theorem dX7_cuts_30 : decode cX7_cuts 30 = .ok (.aload_n 0, 1) := by decide +kernel
theorem dX7_cuts_31 : decode cX7_cuts 31 = .ok (.getfield 7, 3) := by decide +kernel
theorem dX7_cuts_34 : decode cX7_cuts 34 = .ok (.iconst 3, 1) := by decide +kernel
theorem dX7_cuts_35 : decode cX7_cuts 35 = .ok (.iaload, 1) := by decide +kernel
theorem dX7_cuts_36 : decode cX7_cuts 36 = .ok (.aload_n 0, 1) := by decide +kernel
theorem dX7_cuts_37 : decode cX7_cuts 37 = .ok (.iload_n 1, 1) := by decide +kernel
theorem dX7_cuts_38 : decode cX7_cuts 38 = .ok (.invokevirtual 88, 3) := by decide +kernel
theorem dX7_cuts_41 : decode cX7_cuts 41 = .ok (.aload_n 0, 1) := by decide +kernel
theorem dX7_cuts_42 : decode cX7_cuts 42 = .ok (.getfield 7, 3) := by decide +kernel
theorem dX7_cuts_45 : decode cX7_cuts 45 = .ok (.iconst 2, 1) := by decide +kernel
theorem dX7_cuts_46 : decode cX7_cuts 46 = .ok (.iaload, 1) := by decide +kernel
theorem dX7_cuts_47 : decode cX7_cuts 47 = .ok (.isub, 1) := by decide +kernel
theorem dX7_cuts_48 : decode cX7_cuts 48 = .ok (.invokestatic 45, 3) := by decide +kernel
theorem dX7_cuts_51 : decode cX7_cuts 51 = .ok (.istore 4, 2) := by decide +kernel
theorem dX7_cuts_53 : decode cX7_cuts 53 = .ok (.aload_n 0, 1) := by decide +kernel
theorem dX7_cuts_54 : decode cX7_cuts 54 = .ok (.iload_n 1, 1) := by decide +kernel
theorem dX7_cuts_55 : decode cX7_cuts 55 = .ok (.iconst 2, 1) := by decide +kernel
theorem dX7_cuts_56 : decode cX7_cuts 56 = .ok (.iload_n 2, 1) := by decide +kernel
theorem dX7_cuts_57 : decode cX7_cuts 57 = .ok (.aload_n 0, 1) := by decide +kernel
theorem dX7_cuts_58 : decode cX7_cuts 58 = .ok (.getfield 7, 3) := by decide +kernel
theorem dX7_cuts_61 : decode cX7_cuts 61 = .ok (.iconst 2, 1) := by decide +kernel
theorem dX7_cuts_62 : decode cX7_cuts 62 = .ok (.iaload, 1) := by decide +kernel
theorem dX7_cuts_63 : decode cX7_cuts 63 = .ok (.iadd, 1) := by decide +kernel
theorem dX7_cuts_64 : decode cX7_cuts 64 = .ok (.iload 4, 2) := by decide +kernel
theorem dX7_cuts_66 : decode cX7_cuts 66 = .ok (.iadd, 1) := by decide +kernel
theorem dX7_cuts_67 : decode cX7_cuts 67 = .ok (.invokevirtual 105, 3) := by decide +kernel
theorem dX7_cuts_70 : decode cX7_cuts 70 = .ok (.aload_n 0, 1) := by decide +kernel
theorem dX7_cuts_71 : decode cX7_cuts 71 = .ok (.getfield 7, 3) := by decide +kernel
theorem dX7_cuts_74 : decode cX7_cuts 74 = .ok (.bipush 10, 2) := by decide +kernel
theorem dX7_cuts_76 : decode cX7_cuts 76 = .ok (.dup2, 1) := by decide +kernel
theorem dX7_cuts_77 : decode cX7_cuts 77 = .ok (.iaload, 1) := by decide +kernel
theorem dX7_cuts_78 : decode cX7_cuts 78 = .ok (.iload 4, 2) := by decide +kernel
theorem dX7_cuts_80 : decode cX7_cuts 80 = .ok (.iadd, 1) := by decide +kernel
theorem dX7_cuts_81 : decode cX7_cuts 81 = .ok (.iastore, 1) := by decide +kernel
theorem dX7_cuts_82 : decode cX7_cuts 82 = .ok (.aload_n 0, 1) := by decide +kernel
theorem dX7_cuts_83 : decode cX7_cuts 83 = .ok (.getfield 7, 3) := by decide +kernel
theorem dX7_cuts_86 : decode cX7_cuts 86 = .ok (.bipush 8, 2) := by decide +kernel
theorem dX7_cuts_88 : decode cX7_cuts 88 = .ok (.dup2, 1) := by decide +kernel
theorem dX7_cuts_89 : decode cX7_cuts 89 = .ok (.iaload, 1) := by decide +kernel
theorem dX7_cuts_90 : decode cX7_cuts 90 = .ok (.iload_n 3, 1) := by decide +kernel
theorem dX7_cuts_91 : decode cX7_cuts 91 = .ok (.ifCond .eq 7, 3) := by decide +kernel
theorem dX7_cuts_94 : decode cX7_cuts 94 = .ok (.iconst 0, 1) := by decide +kernel
theorem dX7_cuts_95 : decode cX7_cuts 95 = .ok (.goto 4, 3) := by decide +kernel
theorem dX7_cuts_98 : decode cX7_cuts 98 = .ok (.iconst 1, 1) := by decide +kernel
theorem dX7_cuts_99 : decode cX7_cuts 99 = .ok (.iadd, 1) := by decide +kernel
theorem dX7_cuts_100 : decode cX7_cuts 100 = .ok (.iastore, 1) := by decide +kernel
theorem dX7_cuts_101 : decode cX7_cuts 101 = .ok (.aload_n 0, 1) := by decide +kernel
theorem dX7_cuts_102 : decode cX7_cuts 102 = .ok (.getfield 7, 3) := by decide +kernel
theorem dX7_cuts_105 : decode cX7_cuts 105 = .ok (.bipush 9, 2) := by decide +kernel
theorem dX7_cuts_107 : decode cX7_cuts 107 = .ok (.dup2, 1) := by decide +kernel
theorem dX7_cuts_108 : decode cX7_cuts 108 = .ok (.iaload, 1) := by decide +kernel
theorem dX7_cuts_109 : decode cX7_cuts 109 = .ok (.iload_n 3, 1) := by decide +kernel
theorem dX7_cuts_110 : decode cX7_cuts 110 = .ok (.ifCond .eq 7, 3) := by decide +kernel
theorem dX7_cuts_113 : decode cX7_cuts 113 = .ok (.iconst 0, 1) := by decide +kernel
theorem dX7_cuts_114 : decode cX7_cuts 114 = .ok (.goto 9, 3) := by decide +kernel
theorem dX7_cuts_117 : decode cX7_cuts 117 = .ok (.aload_n 0, 1) := by decide +kernel
theorem dX7_cuts_118 : decode cX7_cuts 118 = .ok (.getfield 7, 3) := by decide +kernel
theorem dX7_cuts_121 : decode cX7_cuts 121 = .ok (.iconst 2, 1) := by decide +kernel
theorem dX7_cuts_122 : decode cX7_cuts 122 = .ok (.iaload, 1) := by decide +kernel
theorem dX7_cuts_123 : decode cX7_cuts 123 = .ok (.iadd, 1) := by decide +kernel
theorem dX7_cuts_124 : decode cX7_cuts 124 = .ok (.iastore, 1) := by decide +kernel
theorem dX7_cuts_125 : decode cX7_cuts 125 = .ok (.aload_n 0, 1) := by decide +kernel
theorem dX7_cuts_126 : decode cX7_cuts 126 = .ok (.iload_n 1, 1) := by decide +kernel
theorem dX7_cuts_127 : decode cX7_cuts 127 = .ok (.iconst 4, 1) := by decide +kernel
theorem dX7_cuts_128 : decode cX7_cuts 128 = .ok (.aload_n 0, 1) := by decide +kernel
theorem dX7_cuts_129 : decode cX7_cuts 129 = .ok (.iload_n 1, 1) := by decide +kernel
theorem dX7_cuts_130 : decode cX7_cuts 130 = .ok (.iconst 4, 1) := by decide +kernel
theorem dX7_cuts_131 : decode cX7_cuts 131 = .ok (.invokevirtual 85, 3) := by decide +kernel
theorem dX7_cuts_134 : decode cX7_cuts 134 = .ok (.iload_n 3, 1) := by decide +kernel
theorem dX7_cuts_135 : decode cX7_cuts 135 = .ok (.ifCond .eq 7, 3) := by decide +kernel
theorem dX7_cuts_138 : decode cX7_cuts 138 = .ok (.iconst 1, 1) := by decide +kernel
theorem dX7_cuts_139 : decode cX7_cuts 139 = .ok (.goto 4, 3) := by decide +kernel
theorem dX7_cuts_142 : decode cX7_cuts 142 = .ok (.iconst 0, 1) := by decide +kernel
theorem dX7_cuts_143 : decode cX7_cuts 143 = .ok (.iadd, 1) := by decide +kernel
theorem dX7_cuts_144 : decode cX7_cuts 144 = .ok (.invokevirtual 105, 3) := by decide +kernel
theorem dX7_cuts_147 : decode cX7_cuts 147 = .ok (.iload_n 3, 1) := by decide +kernel
theorem dX7_cuts_148 : decode cX7_cuts 148 = .ok (.ireturn, 1) := by decide +kernel
theorem dX7_cut_0 : decode cX7_cut 0 = .ok (.aload_n 0, 1) := by decide +kernel
theorem dX7_cut_1 : decode cX7_cut 1 = .ok (.iload_n 1, 1) := by decide +kernel
theorem dX7_cut_2 : decode cX7_cut 2 = .ok (.invokevirtual 109, 3) := by decide +kernel
theorem dX7_cut_5 : decode cX7_cut 5 = .ok (.ifCond .ne 5, 3) := by decide +kernel
theorem dX7_cut_8 : decode cX7_cut 8 = .ok (.iconst (-1), 1) := by decide +kernel
theorem dX7_cut_9 : decode cX7_cut 9 = .ok (.ireturn, 1) := by decide +kernel
theorem dX7_cut_10 : decode cX7_cut 10 = .ok (.aload_n 0, 1) := by decide +kernel
theorem dX7_cut_11 : decode cX7_cut 11 = .ok (.iload_n 1, 1) := by decide +kernel
theorem dX7_cut_12 : decode cX7_cut 12 = .ok (.invokevirtual 116, 3) := by decide +kernel
theorem dX7_cut_15 : decode cX7_cut 15 = .ok (.ifCond .ne 6, 3) := by decide +kernel
theorem dX7_cut_18 : decode cX7_cut 18 = .ok (.bipush (-2), 2) := by decide +kernel
theorem dX7_cut_20 : decode cX7_cut 20 = .ok (.ireturn, 1) := by decide +kernel
theorem dX7_cut_21 : decode cX7_cut 21 = .ok (.aload_n 0, 1) := by decide +kernel
theorem dX7_cut_22 : decode cX7_cut 22 = .ok (.invokevirtual 62, 3) := by decide +kernel
theorem dX7_cut_25 : decode cX7_cut 25 = .ok (.aload_n 0, 1) := by decide +kernel
theorem dX7_cut_26 : decode cX7_cut 26 = .ok (.iload_n 1, 1) := by decide +kernel
theorem dX7_cut_27 : decode cX7_cut 27 = .ok (.invokevirtual 119, 3) := by decide +kernel
theorem dX7_cut_30 : decode cX7_cut 30 = .ok (.istore_n 2, 1) := by decide +kernel
theorem dX7_cut_31 : decode cX7_cut 31 = .ok (.aload_n 0, 1) := by decide +kernel
theorem dX7_cut_32 : decode cX7_cut 32 = .ok (.getfield 7, 3) := by decide +kernel
theorem dX7_cut_35 : decode cX7_cut 35 = .ok (.sipush 308, 3) := by decide +kernel
theorem dX7_cut_38 : decode cX7_cut 38 = .ok (.aload_n 0, 1) := by decide +kernel
theorem dX7_cut_39 : decode cX7_cut 39 = .ok (.iload_n 1, 1) := by decide +kernel
theorem dX7_cut_40 : decode cX7_cut 40 = .ok (.iconst 1, 1) := by decide +kernel
theorem dX7_cut_41 : decode cX7_cut 41 = .ok (.invokevirtual 85, 3) := by decide +kernel
theorem dX7_cut_44 : decode cX7_cut 44 = .ok (.iadd, 1) := by decide +kernel
theorem dX7_cut_45 : decode cX7_cut 45 = .ok (.dup2, 1) := by decide +kernel
theorem dX7_cut_46 : decode cX7_cut 46 = .ok (.iaload, 1) := by decide +kernel
theorem dX7_cut_47 : decode cX7_cut 47 = .ok (.iload_n 2, 1) := by decide +kernel
theorem dX7_cut_48 : decode cX7_cut 48 = .ok (.ifCond .eq 7, 3) := by decide +kernel
theorem dX7_cut_51 : decode cX7_cut 51 = .ok (.iconst 1, 1) := by decide +kernel
theorem dX7_cut_52 : decode cX7_cut 52 = .ok (.goto 4, 3) := by decide +kernel
theorem dX7_cut_55 : decode cX7_cut 55 = .ok (.iconst 0, 1) := by decide +kernel
theorem dX7_cut_56 : decode cX7_cut 56 = .ok (.iadd, 1) := by decide +kernel
theorem dX7_cut_57 : decode cX7_cut 57 = .ok (.iastore, 1) := by decide +kernel
theorem dX7_cut_58 : decode cX7_cut 58 = .ok (.iload_n 2, 1) := by decide +kernel
theorem dX7_cut_59 : decode cX7_cut 59 = .ok (.ifCond .eq 7, 3) := by decide +kernel
theorem dX7_cut_62 : decode cX7_cut 62 = .ok (.iconst 1, 1) := by decide +kernel
theorem dX7_cut_63 : decode cX7_cut 63 = .ok (.goto 4, 3) := by decide +kernel
theorem dX7_cut_66 : decode cX7_cut 66 = .ok (.iconst 0, 1) := by decide +kernel
theorem dX7_cut_67 : decode cX7_cut 67 = .ok (.ireturn, 1) := by decide +kernel
theorem dX7_still_0 : decode cX7_still 0 = .ok (.iconst 0, 1) := by decide +kernel
theorem dX7_still_1 : decode cX7_still 1 = .ok (.istore_n 3, 1) := by decide +kernel
theorem dX7_still_2 : decode cX7_still 2 = .ok (.aload_n 0, 1) := by decide +kernel
theorem dX7_still_3 : decode cX7_still 3 = .ok (.iload_n 1, 1) := by decide +kernel
theorem dX7_still_4 : decode cX7_still 4 = .ok (.iconst 2, 1) := by decide +kernel
theorem dX7_still_5 : decode cX7_still 5 = .ok (.invokevirtual 85, 3) := by decide +kernel
theorem dX7_still_8 : decode cX7_still 8 = .ok (.istore 4, 2) := by decide +kernel
theorem dX7_still_10 : decode cX7_still 10 = .ok (.iload 4, 2) := by decide +kernel
theorem dX7_still_12 : decode cX7_still 12 = .ok (.aload_n 0, 1) := by decide +kernel
theorem dX7_still_13 : decode cX7_still 13 = .ok (.getfield 7, 3) := by decide +kernel
theorem dX7_still_16 : decode cX7_still 16 = .ok (.iconst 2, 1) := by decide +kernel
theorem dX7_still_17 : decode cX7_still 17 = .ok (.iaload, 1) := by decide +kernel
theorem dX7_still_18 : decode cX7_still 18 = .ok (.iadd, 1) := by decide +kernel
theorem dX7_still_19 : decode cX7_still 19 = .ok (.aload_n 0, 1) := by decide +kernel
theorem dX7_still_20 : decode cX7_still 20 = .ok (.iload_n 1, 1) := by decide +kernel
theorem dX7_still_21 : decode cX7_still 21 = .ok (.iconst 0, 1) := by decide +kernel
theorem dX7_still_22 : decode cX7_still 22 = .ok (.invokevirtual 85, 3) := by decide +kernel
theorem dX7_still_25 : decode cX7_still 25 = .ok (.if_icmp .gt 55, 3) := by decide +kernel
theorem dX7_still_28 : decode cX7_still 28 = .ok (.iload_n 3, 1) := by decide +kernel
theorem dX7_still_29 : decode cX7_still 29 = .ok (.iload_n 2, 1) := by decide +kernel
theorem dX7_still_30 : decode cX7_still 30 = .ok (.ifCond .eq 26, 3) := by decide +kernel
theorem dX7_still_33 : decode cX7_still 33 = .ok (.aload_n 0, 1) := by decide +kernel
theorem dX7_still_34 : decode cX7_still 34 = .ok (.iload_n 1, 1) := by decide +kernel
theorem dX7_still_35 : decode cX7_still 35 = .ok (.iload 4, 2) := by decide +kernel
theorem dX7_still_37 : decode cX7_still 37 = .ok (.iload 4, 2) := by decide +kernel
theorem dX7_still_39 : decode cX7_still 39 = .ok (.aload_n 0, 1) := by decide +kernel
theorem dX7_still_40 : decode cX7_still 40 = .ok (.getfield 7, 3) := by decide +kernel
theorem dX7_still_43 : decode cX7_still 43 = .ok (.iconst 2, 1) := by decide +kernel
theorem dX7_still_44 : decode cX7_still 44 = .ok (.iaload, 1) := by decide +kernel
theorem dX7_still_45 : decode cX7_still 45 = .ok (.iadd, 1) := by decide +kernel
theorem dX7_still_46 : decode cX7_still 46 = .ok (.invokevirtual 113, 3) := by decide +kernel
theorem dX7_still_49 : decode cX7_still 49 = .ok (.ifCond .eq 7, 3) := by decide +kernel
theorem dX7_still_52 : decode cX7_still 52 = .ok (.iconst 0, 1) := by decide +kernel
theorem dX7_still_53 : decode cX7_still 53 = .ok (.goto 4, 3) := by decide +kernel
theorem dX7_still_56 : decode cX7_still 56 = .ok (.iconst 1, 1) := by decide +kernel
theorem dX7_still_57 : decode cX7_still 57 = .ok (.iadd, 1) := by decide +kernel
theorem dX7_still_58 : decode cX7_still 58 = .ok (.istore_n 3, 1) := by decide +kernel
theorem dX7_still_59 : decode cX7_still 59 = .ok (.iload 4, 2) := by decide +kernel
theorem dX7_still_61 : decode cX7_still 61 = .ok (.aload_n 0, 1) := by decide +kernel
theorem dX7_still_62 : decode cX7_still 62 = .ok (.getfield 7, 3) := by decide +kernel
theorem dX7_still_65 : decode cX7_still 65 = .ok (.iconst 2, 1) := by decide +kernel
theorem dX7_still_66 : decode cX7_still 66 = .ok (.iaload, 1) := by decide +kernel
theorem dX7_still_67 : decode cX7_still 67 = .ok (.aload_n 0, 1) := by decide +kernel
theorem dX7_still_68 : decode cX7_still 68 = .ok (.getfield 7, 3) := by decide +kernel
theorem dX7_still_71 : decode cX7_still 71 = .ok (.iconst 3, 1) := by decide +kernel
theorem dX7_still_72 : decode cX7_still 72 = .ok (.iaload, 1) := by decide +kernel
theorem dX7_still_73 : decode cX7_still 73 = .ok (.iadd, 1) := by decide +kernel
theorem dX7_still_74 : decode cX7_still 74 = .ok (.iadd, 1) := by decide +kernel
theorem dX7_still_75 : decode cX7_still 75 = .ok (.istore 4, 2) := by decide +kernel
theorem dX7_still_77 : decode cX7_still 77 = .ok (.goto (-67), 3) := by decide +kernel
theorem dX7_still_80 : decode cX7_still 80 = .ok (.iload_n 3, 1) := by decide +kernel
theorem dX7_still_81 : decode cX7_still 81 = .ok (.ireturn, 1) := by decide +kernel
theorem dX7_partOf_0 : decode cX7_partOf 0 = .ok (.iload_n 2, 1) := by decide +kernel
theorem dX7_partOf_1 : decode cX7_partOf 1 = .ok (.tableswitch 71 2 6 #[35, 41, 48, 48, 64], 35) := by decide +kernel
theorem dX7_partOf_36 : decode cX7_partOf 36 = .ok (.aload_n 0, 1) := by decide +kernel
theorem dX7_partOf_37 : decode cX7_partOf 37 = .ok (.iload_n 1, 1) := by decide +kernel
theorem dX7_partOf_38 : decode cX7_partOf 38 = .ok (.invokevirtual 88, 3) := by decide +kernel
theorem dX7_partOf_41 : decode cX7_partOf 41 = .ok (.ireturn, 1) := by decide +kernel
theorem dX7_partOf_42 : decode cX7_partOf 42 = .ok (.aload_n 0, 1) := by decide +kernel
theorem dX7_partOf_43 : decode cX7_partOf 43 = .ok (.iload_n 1, 1) := by decide +kernel
theorem dX7_partOf_44 : decode cX7_partOf 44 = .ok (.iconst 3, 1) := by decide +kernel
theorem dX7_partOf_45 : decode cX7_partOf 45 = .ok (.invokevirtual 85, 3) := by decide +kernel
theorem dX7_partOf_48 : decode cX7_partOf 48 = .ok (.ireturn, 1) := by decide +kernel
theorem dX7_partOf_49 : decode cX7_partOf 49 = .ok (.aload_n 0, 1) := by decide +kernel
theorem dX7_partOf_50 : decode cX7_partOf 50 = .ok (.iload_n 1, 1) := by decide +kernel
theorem dX7_partOf_51 : decode cX7_partOf 51 = .ok (.iload_n 2, 1) := by decide +kernel
theorem dX7_partOf_52 : decode cX7_partOf 52 = .ok (.iconst 5, 1) := by decide +kernel
theorem dX7_partOf_53 : decode cX7_partOf 53 = .ok (.if_icmp .ne 7, 3) := by decide +kernel
theorem dX7_partOf_56 : decode cX7_partOf 56 = .ok (.iconst 1, 1) := by decide +kernel
theorem dX7_partOf_57 : decode cX7_partOf 57 = .ok (.goto 4, 3) := by decide +kernel
theorem dX7_partOf_60 : decode cX7_partOf 60 = .ok (.iconst 0, 1) := by decide +kernel
theorem dX7_partOf_61 : decode cX7_partOf 61 = .ok (.invokevirtual 122, 3) := by decide +kernel
theorem dX7_partOf_64 : decode cX7_partOf 64 = .ok (.ireturn, 1) := by decide +kernel
theorem dX7_partOf_65 : decode cX7_partOf 65 = .ok (.aload_n 0, 1) := by decide +kernel
theorem dX7_partOf_66 : decode cX7_partOf 66 = .ok (.iload_n 1, 1) := by decide +kernel
theorem dX7_partOf_67 : decode cX7_partOf 67 = .ok (.iconst 4, 1) := by decide +kernel
theorem dX7_partOf_68 : decode cX7_partOf 68 = .ok (.invokevirtual 85, 3) := by decide +kernel
theorem dX7_partOf_71 : decode cX7_partOf 71 = .ok (.ireturn, 1) := by decide +kernel
theorem dX7_partOf_72 : decode cX7_partOf 72 = .ok (.aload_n 0, 1) := by decide +kernel
theorem dX7_partOf_73 : decode cX7_partOf 73 = .ok (.iload_n 1, 1) := by decide +kernel
theorem dX7_partOf_74 : decode cX7_partOf 74 = .ok (.iload_n 2, 1) := by decide +kernel
theorem dX7_partOf_75 : decode cX7_partOf 75 = .ok (.invokevirtual 85, 3) := by decide +kernel
theorem dX7_partOf_78 : decode cX7_partOf 78 = .ok (.ireturn, 1) := by decide +kernel
theorem dX7_stripOf_0 : decode cX7_stripOf 0 = .ok (.aload_n 0, 1) := by decide +kernel
theorem dX7_stripOf_1 : decode cX7_stripOf 1 = .ok (.iload_n 1, 1) := by decide +kernel
theorem dX7_stripOf_2 : decode cX7_stripOf 2 = .ok (.invokevirtual 109, 3) := by decide +kernel
theorem dX7_stripOf_5 : decode cX7_stripOf 5 = .ok (.ifCond .eq 22, 3) := by decide +kernel
theorem dX7_stripOf_8 : decode cX7_stripOf 8 = .ok (.iload_n 2, 1) := by decide +kernel
theorem dX7_stripOf_9 : decode cX7_stripOf 9 = .ok (.iconst 0, 1) := by decide +kernel
theorem dX7_stripOf_10 : decode cX7_stripOf 10 = .ok (.bipush 6, 2) := by decide +kernel
theorem dX7_stripOf_12 : decode cX7_stripOf 12 = .ok (.invokestatic 37, 3) := by decide +kernel
theorem dX7_stripOf_15 : decode cX7_stripOf 15 = .ok (.ifCond .eq 12, 3) := by decide +kernel
theorem dX7_stripOf_18 : decode cX7_stripOf 18 = .ok (.aload_n 0, 1) := by decide +kernel
theorem dX7_stripOf_19 : decode cX7_stripOf 19 = .ok (.iload_n 1, 1) := by decide +kernel
theorem dX7_stripOf_20 : decode cX7_stripOf 20 = .ok (.iload_n 2, 1) := by decide +kernel
theorem dX7_stripOf_21 : decode cX7_stripOf 21 = .ok (.invokevirtual 126, 3) := by decide +kernel
theorem dX7_stripOf_24 : decode cX7_stripOf 24 = .ok (.goto 4, 3) := by decide +kernel
theorem dX7_stripOf_27 : decode cX7_stripOf 27 = .ok (.iconst (-1), 1) := by decide +kernel
theorem dX7_stripOf_28 : decode cX7_stripOf 28 = .ok (.ireturn, 1) := by decide +kernel
theorem dX7_source_0 : decode cX7_source 0 = .ok (.iconst 0, 1) := by decide +kernel
theorem dX7_source_1 : decode cX7_source 1 = .ok (.istore_n 2, 1) := by decide +kernel
theorem dX7_source_2 : decode cX7_source 2 = .ok (.iload_n 2, 1) := by decide +kernel
theorem dX7_source_3 : decode cX7_source 3 = .ok (.aload_n 0, 1) := by decide +kernel
theorem dX7_source_4 : decode cX7_source 4 = .ok (.getfield 7, 3) := by decide +kernel
theorem dX7_source_7 : decode cX7_source 7 = .ok (.bipush 6, 2) := by decide +kernel
theorem dX7_source_9 : decode cX7_source 9 = .ok (.iaload, 1) := by decide +kernel
theorem dX7_source_10 : decode cX7_source 10 = .ok (.if_icmp .ge 30, 3) := by decide +kernel
theorem dX7_source_13 : decode cX7_source 13 = .ok (.aload_n 0, 1) := by decide +kernel
theorem dX7_source_14 : decode cX7_source 14 = .ok (.iload_n 2, 1) := by decide +kernel
theorem dX7_source_15 : decode cX7_source 15 = .ok (.iconst 1, 1) := by decide +kernel
theorem dX7_source_16 : decode cX7_source 16 = .ok (.invokevirtual 85, 3) := by decide +kernel
theorem dX7_source_19 : decode cX7_source 19 = .ok (.iload_n 1, 1) := by decide +kernel
theorem dX7_source_20 : decode cX7_source 20 = .ok (.if_icmp .ne 14, 3) := by decide +kernel
theorem dX7_source_23 : decode cX7_source 23 = .ok (.aload_n 0, 1) := by decide +kernel
theorem dX7_source_24 : decode cX7_source 24 = .ok (.iload_n 2, 1) := by decide +kernel
theorem dX7_source_25 : decode cX7_source 25 = .ok (.iconst 1, 1) := by decide +kernel
theorem dX7_source_26 : decode cX7_source 26 = .ok (.invokevirtual 122, 3) := by decide +kernel
theorem dX7_source_29 : decode cX7_source 29 = .ok (.ifCond .le 5, 3) := by decide +kernel
theorem dX7_source_32 : decode cX7_source 32 = .ok (.iload_n 2, 1) := by decide +kernel
theorem dX7_source_33 : decode cX7_source 33 = .ok (.ireturn, 1) := by decide +kernel
theorem dX7_source_34 : decode cX7_source 34 = .ok (.iinc 2 1, 3) := by decide +kernel
theorem dX7_source_37 : decode cX7_source 37 = .ok (.goto (-35), 3) := by decide +kernel
theorem dX7_source_40 : decode cX7_source 40 = .ok (.iconst (-1), 1) := by decide +kernel
theorem dX7_source_41 : decode cX7_source 41 = .ok (.ireturn, 1) := by decide +kernel
theorem dX7_nearestTo_0 : decode cX7_nearestTo 0 = .ok (.iconst 0, 1) := by decide +kernel
theorem dX7_nearestTo_1 : decode cX7_nearestTo 1 = .ok (.istore_n 2, 1) := by decide +kernel
theorem dX7_nearestTo_2 : decode cX7_nearestTo 2 = .ok (.iload_n 2, 1) := by decide +kernel
theorem dX7_nearestTo_3 : decode cX7_nearestTo 3 = .ok (.bipush 100, 2) := by decide +kernel
theorem dX7_nearestTo_5 : decode cX7_nearestTo 5 = .ok (.if_icmp .ge 80, 3) := by decide +kernel
theorem dX7_nearestTo_8 : decode cX7_nearestTo 8 = .ok (.iload_n 1, 1) := by decide +kernel
theorem dX7_nearestTo_9 : decode cX7_nearestTo 9 = .ok (.iload_n 2, 1) := by decide +kernel
theorem dX7_nearestTo_10 : decode cX7_nearestTo 10 = .ok (.isub, 1) := by decide +kernel
theorem dX7_nearestTo_11 : decode cX7_nearestTo 11 = .ok (.istore_n 3, 1) := by decide +kernel
theorem dX7_nearestTo_12 : decode cX7_nearestTo 12 = .ok (.iload_n 1, 1) := by decide +kernel
theorem dX7_nearestTo_13 : decode cX7_nearestTo 13 = .ok (.iload_n 2, 1) := by decide +kernel
theorem dX7_nearestTo_14 : decode cX7_nearestTo 14 = .ok (.iadd, 1) := by decide +kernel
theorem dX7_nearestTo_15 : decode cX7_nearestTo 15 = .ok (.istore 4, 2) := by decide +kernel
theorem dX7_nearestTo_17 : decode cX7_nearestTo 17 = .ok (.iload_n 3, 1) := by decide +kernel
theorem dX7_nearestTo_18 : decode cX7_nearestTo 18 = .ok (.ifCond .lt 27, 3) := by decide +kernel
theorem dX7_nearestTo_21 : decode cX7_nearestTo 21 = .ok (.aload_n 0, 1) := by decide +kernel
theorem dX7_nearestTo_22 : decode cX7_nearestTo 22 = .ok (.getfield 7, 3) := by decide +kernel
theorem dX7_nearestTo_25 : decode cX7_nearestTo 25 = .ok (.sipush 308, 3) := by decide +kernel
theorem dX7_nearestTo_28 : decode cX7_nearestTo 28 = .ok (.iload_n 3, 1) := by decide +kernel
theorem dX7_nearestTo_29 : decode cX7_nearestTo 29 = .ok (.iadd, 1) := by decide +kernel
theorem dX7_nearestTo_30 : decode cX7_nearestTo 30 = .ok (.iaload, 1) := by decide +kernel
theorem dX7_nearestTo_31 : decode cX7_nearestTo 31 = .ok (.ifCond .gt 12, 3) := by decide +kernel
theorem dX7_nearestTo_34 : decode cX7_nearestTo 34 = .ok (.aload_n 0, 1) := by decide +kernel
theorem dX7_nearestTo_35 : decode cX7_nearestTo 35 = .ok (.iload_n 3, 1) := by decide +kernel
theorem dX7_nearestTo_36 : decode cX7_nearestTo 36 = .ok (.invokevirtual 129, 3) := by decide +kernel
theorem dX7_nearestTo_39 : decode cX7_nearestTo 39 = .ok (.iconst (-1), 1) := by decide +kernel
theorem dX7_nearestTo_40 : decode cX7_nearestTo 40 = .ok (.if_icmp .eq 5, 3) := by decide +kernel
theorem dX7_nearestTo_43 : decode cX7_nearestTo 43 = .ok (.iload_n 3, 1) := by decide +kernel
theorem dX7_nearestTo_44 : decode cX7_nearestTo 44 = .ok (.ireturn, 1) := by decide +kernel
theorem dX7_nearestTo_45 : decode cX7_nearestTo 45 = .ok (.iload 4, 2) := by decide +kernel
theorem dX7_nearestTo_47 : decode cX7_nearestTo 47 = .ok (.bipush 100, 2) := by decide +kernel
theorem dX7_nearestTo_49 : decode cX7_nearestTo 49 = .ok (.if_icmp .ge 30, 3) := by decide +kernel
theorem dX7_nearestTo_52 : decode cX7_nearestTo 52 = .ok (.aload_n 0, 1) := by decide +kernel
theorem dX7_nearestTo_53 : decode cX7_nearestTo 53 = .ok (.getfield 7, 3) := by decide +kernel
theorem dX7_nearestTo_56 : decode cX7_nearestTo 56 = .ok (.sipush 308, 3) := by decide +kernel
theorem dX7_nearestTo_59 : decode cX7_nearestTo 59 = .ok (.iload 4, 2) := by decide +kernel
theorem dX7_nearestTo_61 : decode cX7_nearestTo 61 = .ok (.iadd, 1) := by decide +kernel
theorem dX7_nearestTo_62 : decode cX7_nearestTo 62 = .ok (.iaload, 1) := by decide +kernel
theorem dX7_nearestTo_63 : decode cX7_nearestTo 63 = .ok (.ifCond .gt 13, 3) := by decide +kernel
theorem dX7_nearestTo_66 : decode cX7_nearestTo 66 = .ok (.aload_n 0, 1) := by decide +kernel
theorem dX7_nearestTo_67 : decode cX7_nearestTo 67 = .ok (.iload 4, 2) := by decide +kernel
theorem dX7_nearestTo_69 : decode cX7_nearestTo 69 = .ok (.invokevirtual 129, 3) := by decide +kernel
theorem dX7_nearestTo_72 : decode cX7_nearestTo 72 = .ok (.iconst (-1), 1) := by decide +kernel
theorem dX7_nearestTo_73 : decode cX7_nearestTo 73 = .ok (.if_icmp .eq 6, 3) := by decide +kernel
theorem dX7_nearestTo_76 : decode cX7_nearestTo 76 = .ok (.iload 4, 2) := by decide +kernel
theorem dX7_nearestTo_78 : decode cX7_nearestTo 78 = .ok (.ireturn, 1) := by decide +kernel
theorem dX7_nearestTo_79 : decode cX7_nearestTo 79 = .ok (.iinc 2 1, 3) := by decide +kernel
theorem dX7_nearestTo_82 : decode cX7_nearestTo 82 = .ok (.goto (-80), 3) := by decide +kernel
theorem dX7_nearestTo_85 : decode cX7_nearestTo 85 = .ok (.iconst (-1), 1) := by decide +kernel
theorem dX7_nearestTo_86 : decode cX7_nearestTo 86 = .ok (.ireturn, 1) := by decide +kernel
theorem dX7_lays_0 : decode cX7_lays 0 = .ok (.aload_n 0, 1) := by decide +kernel
theorem dX7_lays_1 : decode cX7_lays 1 = .ok (.aload_n 0, 1) := by decide +kernel
theorem dX7_lays_2 : decode cX7_lays 2 = .ok (.iload_n 1, 1) := by decide +kernel
theorem dX7_lays_3 : decode cX7_lays 3 = .ok (.invokevirtual 72, 3) := by decide +kernel
theorem dX7_lays_6 : decode cX7_lays 6 = .ok (.invokevirtual 132, 3) := by decide +kernel
theorem dX7_lays_9 : decode cX7_lays 9 = .ok (.istore_n 2, 1) := by decide +kernel
theorem dX7_lays_10 : decode cX7_lays 10 = .ok (.iload_n 2, 1) := by decide +kernel
theorem dX7_lays_11 : decode cX7_lays 11 = .ok (.iconst (-1), 1) := by decide +kernel
theorem dX7_lays_12 : decode cX7_lays 12 = .ok (.if_icmp .ne 5, 3) := by decide +kernel
theorem dX7_lays_15 : decode cX7_lays 15 = .ok (.iconst (-1), 1) := by decide +kernel
theorem dX7_lays_16 : decode cX7_lays 16 = .ok (.ireturn, 1) := by decide +kernel
theorem dX7_lays_17 : decode cX7_lays 17 = .ok (.aload_n 0, 1) := by decide +kernel
theorem dX7_lays_18 : decode cX7_lays 18 = .ok (.getfield 7, 3) := by decide +kernel
theorem dX7_lays_21 : decode cX7_lays 21 = .ok (.sipush 308, 3) := by decide +kernel
theorem dX7_lays_24 : decode cX7_lays 24 = .ok (.iload_n 2, 1) := by decide +kernel
theorem dX7_lays_25 : decode cX7_lays 25 = .ok (.iadd, 1) := by decide +kernel
theorem dX7_lays_26 : decode cX7_lays 26 = .ok (.iaload, 1) := by decide +kernel
theorem dX7_lays_27 : decode cX7_lays 27 = .ok (.ifCond .le 20, 3) := by decide +kernel
theorem dX7_lays_30 : decode cX7_lays 30 = .ok (.aload_n 0, 1) := by decide +kernel
theorem dX7_lays_31 : decode cX7_lays 31 = .ok (.getfield 7, 3) := by decide +kernel
theorem dX7_lays_34 : decode cX7_lays 34 = .ok (.sipush 308, 3) := by decide +kernel
theorem dX7_lays_37 : decode cX7_lays 37 = .ok (.iload_n 2, 1) := by decide +kernel
theorem dX7_lays_38 : decode cX7_lays 38 = .ok (.iadd, 1) := by decide +kernel
theorem dX7_lays_39 : decode cX7_lays 39 = .ok (.dup2, 1) := by decide +kernel
theorem dX7_lays_40 : decode cX7_lays 40 = .ok (.iaload, 1) := by decide +kernel
theorem dX7_lays_41 : decode cX7_lays 41 = .ok (.iconst 1, 1) := by decide +kernel
theorem dX7_lays_42 : decode cX7_lays 42 = .ok (.isub, 1) := by decide +kernel
theorem dX7_lays_43 : decode cX7_lays 43 = .ok (.iastore, 1) := by decide +kernel
theorem dX7_lays_44 : decode cX7_lays 44 = .ok (.goto 27, 3) := by decide +kernel
theorem dX7_lays_47 : decode cX7_lays 47 = .ok (.aload_n 0, 1) := by decide +kernel
theorem dX7_lays_48 : decode cX7_lays 48 = .ok (.iload_n 2, 1) := by decide +kernel
theorem dX7_lays_49 : decode cX7_lays 49 = .ok (.invokevirtual 129, 3) := by decide +kernel
theorem dX7_lays_52 : decode cX7_lays 52 = .ok (.istore_n 3, 1) := by decide +kernel
theorem dX7_lays_53 : decode cX7_lays 53 = .ok (.iconst 0, 1) := by decide +kernel
theorem dX7_lays_54 : decode cX7_lays 54 = .ok (.istore 4, 2) := by decide +kernel
theorem dX7_lays_56 : decode cX7_lays 56 = .ok (.iload 4, 2) := by decide +kernel
theorem dX7_lays_58 : decode cX7_lays 58 = .ok (.ifCond .ne 13, 3) := by decide +kernel
theorem dX7_lays_61 : decode cX7_lays 61 = .ok (.aload_n 0, 1) := by decide +kernel
theorem dX7_lays_62 : decode cX7_lays 62 = .ok (.iload_n 3, 1) := by decide +kernel
theorem dX7_lays_63 : decode cX7_lays 63 = .ok (.invokevirtual 119, 3) := by decide +kernel
theorem dX7_lays_66 : decode cX7_lays 66 = .ok (.istore 4, 2) := by decide +kernel
theorem dX7_lays_68 : decode cX7_lays 68 = .ok (.goto (-12), 3) := by decide +kernel
theorem dX7_lays_71 : decode cX7_lays 71 = .ok (.aload_n 0, 1) := by decide +kernel
theorem dX7_lays_72 : decode cX7_lays 72 = .ok (.getfield 7, 3) := by decide +kernel
theorem dX7_lays_75 : decode cX7_lays 75 = .ok (.sipush 164, 3) := by decide +kernel
theorem dX7_lays_78 : decode cX7_lays 78 = .ok (.iload_n 1, 1) := by decide +kernel
theorem dX7_lays_79 : decode cX7_lays 79 = .ok (.iadd, 1) := by decide +kernel
theorem dX7_lays_80 : decode cX7_lays 80 = .ok (.iload_n 2, 1) := by decide +kernel
theorem dX7_lays_81 : decode cX7_lays 81 = .ok (.iastore, 1) := by decide +kernel
theorem dX7_lays_82 : decode cX7_lays 82 = .ok (.iload_n 2, 1) := by decide +kernel
theorem dX7_lays_83 : decode cX7_lays 83 = .ok (.ireturn, 1) := by decide +kernel
theorem dX7_lay_0 : decode cX7_lay 0 = .ok (.aload_n 0, 1) := by decide +kernel
theorem dX7_lay_1 : decode cX7_lay 1 = .ok (.iload_n 1, 1) := by decide +kernel
theorem dX7_lay_2 : decode cX7_lay 2 = .ok (.iload_n 2, 1) := by decide +kernel
theorem dX7_lay_3 : decode cX7_lay 3 = .ok (.invokevirtual 68, 3) := by decide +kernel
theorem dX7_lay_6 : decode cX7_lay 6 = .ok (.ifCond .ne 5, 3) := by decide +kernel
theorem dX7_lay_9 : decode cX7_lay 9 = .ok (.iconst (-1), 1) := by decide +kernel
theorem dX7_lay_10 : decode cX7_lay 10 = .ok (.ireturn, 1) := by decide +kernel
theorem dX7_lay_11 : decode cX7_lay 11 = .ok (.iload_n 1, 1) := by decide +kernel
theorem dX7_lay_12 : decode cX7_lay 12 = .ok (.iload_n 2, 1) := by decide +kernel
theorem dX7_lay_13 : decode cX7_lay 13 = .ok (.aload_n 0, 1) := by decide +kernel
theorem dX7_lay_14 : decode cX7_lay 14 = .ok (.getfield 7, 3) := by decide +kernel
theorem dX7_lay_17 : decode cX7_lay 17 = .ok (.iconst 0, 1) := by decide +kernel
theorem dX7_lay_18 : decode cX7_lay 18 = .ok (.iaload, 1) := by decide +kernel
theorem dX7_lay_19 : decode cX7_lay 19 = .ok (.imul, 1) := by decide +kernel
theorem dX7_lay_20 : decode cX7_lay 20 = .ok (.iadd, 1) := by decide +kernel
theorem dX7_lay_21 : decode cX7_lay 21 = .ok (.istore_n 3, 1) := by decide +kernel
theorem dX7_lay_22 : decode cX7_lay 22 = .ok (.aload_n 0, 1) := by decide +kernel
theorem dX7_lay_23 : decode cX7_lay 23 = .ok (.getfield 7, 3) := by decide +kernel
theorem dX7_lay_26 : decode cX7_lay 26 = .ok (.sipush 164, 3) := by decide +kernel
theorem dX7_lay_29 : decode cX7_lay 29 = .ok (.iload_n 3, 1) := by decide +kernel
theorem dX7_lay_30 : decode cX7_lay 30 = .ok (.iadd, 1) := by decide +kernel
theorem dX7_lay_31 : decode cX7_lay 31 = .ok (.iaload, 1) := by decide +kernel
theorem dX7_lay_32 : decode cX7_lay 32 = .ok (.iconst (-1), 1) := by decide +kernel
theorem dX7_lay_33 : decode cX7_lay 33 = .ok (.if_icmp .ne 16, 3) := by decide +kernel
theorem dX7_lay_36 : decode cX7_lay 36 = .ok (.aload_n 0, 1) := by decide +kernel
theorem dX7_lay_37 : decode cX7_lay 37 = .ok (.aload_n 0, 1) := by decide +kernel
theorem dX7_lay_38 : decode cX7_lay 38 = .ok (.iload_n 3, 1) := by decide +kernel
theorem dX7_lay_39 : decode cX7_lay 39 = .ok (.invokevirtual 72, 3) := by decide +kernel
theorem dX7_lay_42 : decode cX7_lay 42 = .ok (.invokevirtual 132, 3) := by decide +kernel
theorem dX7_lay_45 : decode cX7_lay 45 = .ok (.iconst (-1), 1) := by decide +kernel
theorem dX7_lay_46 : decode cX7_lay 46 = .ok (.if_icmp .ne 6, 3) := by decide +kernel
theorem dX7_lay_49 : decode cX7_lay 49 = .ok (.bipush (-2), 2) := by decide +kernel
theorem dX7_lay_51 : decode cX7_lay 51 = .ok (.ireturn, 1) := by decide +kernel
theorem dX7_lay_52 : decode cX7_lay 52 = .ok (.aload_n 0, 1) := by decide +kernel
theorem dX7_lay_53 : decode cX7_lay 53 = .ok (.invokevirtual 62, 3) := by decide +kernel
theorem dX7_lay_56 : decode cX7_lay 56 = .ok (.aload_n 0, 1) := by decide +kernel
theorem dX7_lay_57 : decode cX7_lay 57 = .ok (.iload_n 3, 1) := by decide +kernel
theorem dX7_lay_58 : decode cX7_lay 58 = .ok (.invokevirtual 135, 3) := by decide +kernel
theorem dX7_lay_61 : decode cX7_lay 61 = .ok (.ireturn, 1) := by decide +kernel
theorem dX7_laysIfEmpty_0 : decode cX7_laysIfEmpty 0 = .ok (.aload_n 0, 1) := by decide +kernel
theorem dX7_laysIfEmpty_1 : decode cX7_laysIfEmpty 1 = .ok (.getfield 7, 3) := by decide +kernel
theorem dX7_laysIfEmpty_4 : decode cX7_laysIfEmpty 4 = .ok (.sipush 164, 3) := by decide +kernel
theorem dX7_laysIfEmpty_7 : decode cX7_laysIfEmpty 7 = .ok (.iload_n 1, 1) := by decide +kernel
theorem dX7_laysIfEmpty_8 : decode cX7_laysIfEmpty 8 = .ok (.iadd, 1) := by decide +kernel
theorem dX7_laysIfEmpty_9 : decode cX7_laysIfEmpty 9 = .ok (.iaload, 1) := by decide +kernel
theorem dX7_laysIfEmpty_10 : decode cX7_laysIfEmpty 10 = .ok (.iconst (-1), 1) := by decide +kernel
theorem dX7_laysIfEmpty_11 : decode cX7_laysIfEmpty 11 = .ok (.if_icmp .ne 16, 3) := by decide +kernel
theorem dX7_laysIfEmpty_14 : decode cX7_laysIfEmpty 14 = .ok (.aload_n 0, 1) := by decide +kernel
theorem dX7_laysIfEmpty_15 : decode cX7_laysIfEmpty 15 = .ok (.iload_n 1, 1) := by decide +kernel
theorem dX7_laysIfEmpty_16 : decode cX7_laysIfEmpty 16 = .ok (.invokevirtual 135, 3) := by decide +kernel
theorem dX7_laysIfEmpty_19 : decode cX7_laysIfEmpty 19 = .ok (.iconst (-1), 1) := by decide +kernel
theorem dX7_laysIfEmpty_20 : decode cX7_laysIfEmpty 20 = .ok (.if_icmp .eq 7, 3) := by decide +kernel
theorem dX7_laysIfEmpty_23 : decode cX7_laysIfEmpty 23 = .ok (.iconst 1, 1) := by decide +kernel
theorem dX7_laysIfEmpty_24 : decode cX7_laysIfEmpty 24 = .ok (.goto 4, 3) := by decide +kernel
theorem dX7_laysIfEmpty_27 : decode cX7_laysIfEmpty 27 = .ok (.iconst 0, 1) := by decide +kernel
theorem dX7_laysIfEmpty_28 : decode cX7_laysIfEmpty 28 = .ok (.ireturn, 1) := by decide +kernel
theorem dX7_laysAll_0 : decode cX7_laysAll 0 = .ok (.iconst 0, 1) := by decide +kernel
theorem dX7_laysAll_1 : decode cX7_laysAll 1 = .ok (.istore_n 1, 1) := by decide +kernel
theorem dX7_laysAll_2 : decode cX7_laysAll 2 = .ok (.aload_n 0, 1) := by decide +kernel
theorem dX7_laysAll_3 : decode cX7_laysAll 3 = .ok (.getfield 7, 3) := by decide +kernel
theorem dX7_laysAll_6 : decode cX7_laysAll 6 = .ok (.iconst 0, 1) := by decide +kernel
theorem dX7_laysAll_7 : decode cX7_laysAll 7 = .ok (.iaload, 1) := by decide +kernel
theorem dX7_laysAll_8 : decode cX7_laysAll 8 = .ok (.iconst 1, 1) := by decide +kernel
theorem dX7_laysAll_9 : decode cX7_laysAll 9 = .ok (.isub, 1) := by decide +kernel
theorem dX7_laysAll_10 : decode cX7_laysAll 10 = .ok (.istore_n 2, 1) := by decide +kernel
theorem dX7_laysAll_11 : decode cX7_laysAll 11 = .ok (.aload_n 0, 1) := by decide +kernel
theorem dX7_laysAll_12 : decode cX7_laysAll 12 = .ok (.getfield 7, 3) := by decide +kernel
theorem dX7_laysAll_15 : decode cX7_laysAll 15 = .ok (.iconst 1, 1) := by decide +kernel
theorem dX7_laysAll_16 : decode cX7_laysAll 16 = .ok (.iaload, 1) := by decide +kernel
theorem dX7_laysAll_17 : decode cX7_laysAll 17 = .ok (.iconst 1, 1) := by decide +kernel
theorem dX7_laysAll_18 : decode cX7_laysAll 18 = .ok (.isub, 1) := by decide +kernel
theorem dX7_laysAll_19 : decode cX7_laysAll 19 = .ok (.istore_n 3, 1) := by decide +kernel
theorem dX7_laysAll_20 : decode cX7_laysAll 20 = .ok (.iconst 0, 1) := by decide +kernel
theorem dX7_laysAll_21 : decode cX7_laysAll 21 = .ok (.istore 4, 2) := by decide +kernel
theorem dX7_laysAll_23 : decode cX7_laysAll 23 = .ok (.iload 4, 2) := by decide +kernel
theorem dX7_laysAll_25 : decode cX7_laysAll 25 = .ok (.aload_n 0, 1) := by decide +kernel
theorem dX7_laysAll_26 : decode cX7_laysAll 26 = .ok (.invokevirtual 56, 3) := by decide +kernel
theorem dX7_laysAll_29 : decode cX7_laysAll 29 = .ok (.if_icmp .ge 126, 3) := by decide +kernel
theorem dX7_laysAll_32 : decode cX7_laysAll 32 = .ok (.iload 4, 2) := by decide +kernel
theorem dX7_laysAll_34 : decode cX7_laysAll 34 = .ok (.iload_n 2, 1) := by decide +kernel
theorem dX7_laysAll_35 : decode cX7_laysAll 35 = .ok (.if_icmp .ge 8, 3) := by decide +kernel
theorem dX7_laysAll_38 : decode cX7_laysAll 38 = .ok (.iload 4, 2) := by decide +kernel
theorem dX7_laysAll_40 : decode cX7_laysAll 40 = .ok (.goto 37, 3) := by decide +kernel
theorem dX7_laysAll_43 : decode cX7_laysAll 43 = .ok (.iload 4, 2) := by decide +kernel
theorem dX7_laysAll_45 : decode cX7_laysAll 45 = .ok (.iload_n 2, 1) := by decide +kernel
theorem dX7_laysAll_46 : decode cX7_laysAll 46 = .ok (.iload_n 3, 1) := by decide +kernel
theorem dX7_laysAll_47 : decode cX7_laysAll 47 = .ok (.iadd, 1) := by decide +kernel
theorem dX7_laysAll_48 : decode cX7_laysAll 48 = .ok (.if_icmp .ge 7, 3) := by decide +kernel
theorem dX7_laysAll_51 : decode cX7_laysAll 51 = .ok (.iload_n 2, 1) := by decide +kernel
theorem dX7_laysAll_52 : decode cX7_laysAll 52 = .ok (.goto 25, 3) := by decide +kernel
theorem dX7_laysAll_55 : decode cX7_laysAll 55 = .ok (.iload 4, 2) := by decide +kernel
theorem dX7_laysAll_57 : decode cX7_laysAll 57 = .ok (.iconst 2, 1) := by decide +kernel
theorem dX7_laysAll_58 : decode cX7_laysAll 58 = .ok (.iload_n 2, 1) := by decide +kernel
theorem dX7_laysAll_59 : decode cX7_laysAll 59 = .ok (.imul, 1) := by decide +kernel
theorem dX7_laysAll_60 : decode cX7_laysAll 60 = .ok (.iload_n 3, 1) := by decide +kernel
theorem dX7_laysAll_61 : decode cX7_laysAll 61 = .ok (.iadd, 1) := by decide +kernel
theorem dX7_laysAll_62 : decode cX7_laysAll 62 = .ok (.if_icmp .ge 14, 3) := by decide +kernel
theorem dX7_laysAll_65 : decode cX7_laysAll 65 = .ok (.iconst 2, 1) := by decide +kernel
theorem dX7_laysAll_66 : decode cX7_laysAll 66 = .ok (.iload_n 2, 1) := by decide +kernel
theorem dX7_laysAll_67 : decode cX7_laysAll 67 = .ok (.imul, 1) := by decide +kernel
theorem dX7_laysAll_68 : decode cX7_laysAll 68 = .ok (.iload_n 3, 1) := by decide +kernel
theorem dX7_laysAll_69 : decode cX7_laysAll 69 = .ok (.iadd, 1) := by decide +kernel
theorem dX7_laysAll_70 : decode cX7_laysAll 70 = .ok (.iload 4, 2) := by decide +kernel
theorem dX7_laysAll_72 : decode cX7_laysAll 72 = .ok (.isub, 1) := by decide +kernel
theorem dX7_laysAll_73 : decode cX7_laysAll 73 = .ok (.goto 4, 3) := by decide +kernel
theorem dX7_laysAll_76 : decode cX7_laysAll 76 = .ok (.iconst 0, 1) := by decide +kernel
theorem dX7_laysAll_77 : decode cX7_laysAll 77 = .ok (.istore 5, 2) := by decide +kernel
theorem dX7_laysAll_79 : decode cX7_laysAll 79 = .ok (.iload 4, 2) := by decide +kernel
theorem dX7_laysAll_81 : decode cX7_laysAll 81 = .ok (.iload_n 2, 1) := by decide +kernel
theorem dX7_laysAll_82 : decode cX7_laysAll 82 = .ok (.if_icmp .ge 7, 3) := by decide +kernel
theorem dX7_laysAll_85 : decode cX7_laysAll 85 = .ok (.iconst 0, 1) := by decide +kernel
theorem dX7_laysAll_86 : decode cX7_laysAll 86 = .ok (.goto 42, 3) := by decide +kernel
theorem dX7_laysAll_89 : decode cX7_laysAll 89 = .ok (.iload 4, 2) := by decide +kernel
theorem dX7_laysAll_91 : decode cX7_laysAll 91 = .ok (.iload_n 2, 1) := by decide +kernel
theorem dX7_laysAll_92 : decode cX7_laysAll 92 = .ok (.iload_n 3, 1) := by decide +kernel
theorem dX7_laysAll_93 : decode cX7_laysAll 93 = .ok (.iadd, 1) := by decide +kernel
theorem dX7_laysAll_94 : decode cX7_laysAll 94 = .ok (.if_icmp .ge 10, 3) := by decide +kernel
theorem dX7_laysAll_97 : decode cX7_laysAll 97 = .ok (.iload 4, 2) := by decide +kernel
theorem dX7_laysAll_99 : decode cX7_laysAll 99 = .ok (.iload_n 2, 1) := by decide +kernel
theorem dX7_laysAll_100 : decode cX7_laysAll 100 = .ok (.isub, 1) := by decide +kernel
theorem dX7_laysAll_101 : decode cX7_laysAll 101 = .ok (.goto 27, 3) := by decide +kernel
theorem dX7_laysAll_104 : decode cX7_laysAll 104 = .ok (.iload 4, 2) := by decide +kernel
theorem dX7_laysAll_106 : decode cX7_laysAll 106 = .ok (.iconst 2, 1) := by decide +kernel
theorem dX7_laysAll_107 : decode cX7_laysAll 107 = .ok (.iload_n 2, 1) := by decide +kernel
theorem dX7_laysAll_108 : decode cX7_laysAll 108 = .ok (.imul, 1) := by decide +kernel
theorem dX7_laysAll_109 : decode cX7_laysAll 109 = .ok (.iload_n 3, 1) := by decide +kernel
theorem dX7_laysAll_110 : decode cX7_laysAll 110 = .ok (.iadd, 1) := by decide +kernel
theorem dX7_laysAll_111 : decode cX7_laysAll 111 = .ok (.if_icmp .ge 7, 3) := by decide +kernel
theorem dX7_laysAll_114 : decode cX7_laysAll 114 = .ok (.iload_n 3, 1) := by decide +kernel
theorem dX7_laysAll_115 : decode cX7_laysAll 115 = .ok (.goto 13, 3) := by decide +kernel
theorem dX7_laysAll_118 : decode cX7_laysAll 118 = .ok (.iconst 2, 1) := by decide +kernel
theorem dX7_laysAll_119 : decode cX7_laysAll 119 = .ok (.iload_n 2, 1) := by decide +kernel
theorem dX7_laysAll_120 : decode cX7_laysAll 120 = .ok (.imul, 1) := by decide +kernel
theorem dX7_laysAll_121 : decode cX7_laysAll 121 = .ok (.iconst 2, 1) := by decide +kernel
theorem dX7_laysAll_122 : decode cX7_laysAll 122 = .ok (.iload_n 3, 1) := by decide +kernel
theorem dX7_laysAll_123 : decode cX7_laysAll 123 = .ok (.imul, 1) := by decide +kernel
theorem dX7_laysAll_124 : decode cX7_laysAll 124 = .ok (.iadd, 1) := by decide +kernel
theorem dX7_laysAll_125 : decode cX7_laysAll 125 = .ok (.iload 4, 2) := by decide +kernel
theorem dX7_laysAll_127 : decode cX7_laysAll 127 = .ok (.isub, 1) := by decide +kernel
theorem dX7_laysAll_128 : decode cX7_laysAll 128 = .ok (.istore 6, 2) := by decide +kernel
theorem dX7_laysAll_130 : decode cX7_laysAll 130 = .ok (.iload_n 1, 1) := by decide +kernel
theorem dX7_laysAll_131 : decode cX7_laysAll 131 = .ok (.aload_n 0, 1) := by decide +kernel
theorem dX7_laysAll_132 : decode cX7_laysAll 132 = .ok (.iload 5, 2) := by decide +kernel
theorem dX7_laysAll_134 : decode cX7_laysAll 134 = .ok (.iload 6, 2) := by decide +kernel
theorem dX7_laysAll_136 : decode cX7_laysAll 136 = .ok (.aload_n 0, 1) := by decide +kernel
theorem dX7_laysAll_137 : decode cX7_laysAll 137 = .ok (.getfield 7, 3) := by decide +kernel
theorem dX7_laysAll_140 : decode cX7_laysAll 140 = .ok (.iconst 0, 1) := by decide +kernel
theorem dX7_laysAll_141 : decode cX7_laysAll 141 = .ok (.iaload, 1) := by decide +kernel
theorem dX7_laysAll_142 : decode cX7_laysAll 142 = .ok (.imul, 1) := by decide +kernel
theorem dX7_laysAll_143 : decode cX7_laysAll 143 = .ok (.iadd, 1) := by decide +kernel
theorem dX7_laysAll_144 : decode cX7_laysAll 144 = .ok (.invokevirtual 138, 3) := by decide +kernel
theorem dX7_laysAll_147 : decode cX7_laysAll 147 = .ok (.iadd, 1) := by decide +kernel
theorem dX7_laysAll_148 : decode cX7_laysAll 148 = .ok (.istore_n 1, 1) := by decide +kernel
theorem dX7_laysAll_149 : decode cX7_laysAll 149 = .ok (.iinc 4 1, 3) := by decide +kernel
theorem dX7_laysAll_152 : decode cX7_laysAll 152 = .ok (.goto (-129), 3) := by decide +kernel
theorem dX7_laysAll_155 : decode cX7_laysAll 155 = .ok (.iconst 0, 1) := by decide +kernel
theorem dX7_laysAll_156 : decode cX7_laysAll 156 = .ok (.istore 4, 2) := by decide +kernel
theorem dX7_laysAll_158 : decode cX7_laysAll 158 = .ok (.iload 4, 2) := by decide +kernel
theorem dX7_laysAll_160 : decode cX7_laysAll 160 = .ok (.aload_n 0, 1) := by decide +kernel
theorem dX7_laysAll_161 : decode cX7_laysAll 161 = .ok (.invokevirtual 41, 3) := by decide +kernel
theorem dX7_laysAll_164 : decode cX7_laysAll 164 = .ok (.if_icmp .ge 18, 3) := by decide +kernel
theorem dX7_laysAll_167 : decode cX7_laysAll 167 = .ok (.iload_n 1, 1) := by decide +kernel
theorem dX7_laysAll_168 : decode cX7_laysAll 168 = .ok (.aload_n 0, 1) := by decide +kernel
theorem dX7_laysAll_169 : decode cX7_laysAll 169 = .ok (.iload 4, 2) := by decide +kernel
theorem dX7_laysAll_171 : decode cX7_laysAll 171 = .ok (.invokevirtual 138, 3) := by decide +kernel
theorem dX7_laysAll_174 : decode cX7_laysAll 174 = .ok (.iadd, 1) := by decide +kernel
theorem dX7_laysAll_175 : decode cX7_laysAll 175 = .ok (.istore_n 1, 1) := by decide +kernel
theorem dX7_laysAll_176 : decode cX7_laysAll 176 = .ok (.iinc 4 1, 3) := by decide +kernel
theorem dX7_laysAll_179 : decode cX7_laysAll 179 = .ok (.goto (-21), 3) := by decide +kernel
theorem dX7_laysAll_182 : decode cX7_laysAll 182 = .ok (.iload_n 1, 1) := by decide +kernel
theorem dX7_laysAll_183 : decode cX7_laysAll 183 = .ok (.ireturn, 1) := by decide +kernel
theorem dX7_layAll_0 : decode cX7_layAll 0 = .ok (.aload_n 0, 1) := by decide +kernel
theorem dX7_layAll_1 : decode cX7_layAll 1 = .ok (.invokevirtual 62, 3) := by decide +kernel
theorem dX7_layAll_4 : decode cX7_layAll 4 = .ok (.aload_n 0, 1) := by decide +kernel
theorem dX7_layAll_5 : decode cX7_layAll 5 = .ok (.invokevirtual 141, 3) := by decide +kernel
theorem dX7_layAll_8 : decode cX7_layAll 8 = .ok (.ireturn, 1) := by decide +kernel
theorem dX7_lift_0 : decode cX7_lift 0 = .ok (.aload_n 0, 1) := by decide +kernel
theorem dX7_lift_1 : decode cX7_lift 1 = .ok (.iload_n 1, 1) := by decide +kernel
theorem dX7_lift_2 : decode cX7_lift 2 = .ok (.iload_n 2, 1) := by decide +kernel
theorem dX7_lift_3 : decode cX7_lift 3 = .ok (.invokevirtual 68, 3) := by decide +kernel
theorem dX7_lift_6 : decode cX7_lift 6 = .ok (.ifCond .ne 5, 3) := by decide +kernel
theorem dX7_lift_9 : decode cX7_lift 9 = .ok (.iconst (-1), 1) := by decide +kernel
theorem dX7_lift_10 : decode cX7_lift 10 = .ok (.ireturn, 1) := by decide +kernel
theorem dX7_lift_11 : decode cX7_lift 11 = .ok (.iload_n 1, 1) := by decide +kernel
theorem dX7_lift_12 : decode cX7_lift 12 = .ok (.iload_n 2, 1) := by decide +kernel
theorem dX7_lift_13 : decode cX7_lift 13 = .ok (.aload_n 0, 1) := by decide +kernel
theorem dX7_lift_14 : decode cX7_lift 14 = .ok (.getfield 7, 3) := by decide +kernel
theorem dX7_lift_17 : decode cX7_lift 17 = .ok (.iconst 0, 1) := by decide +kernel
theorem dX7_lift_18 : decode cX7_lift 18 = .ok (.iaload, 1) := by decide +kernel
theorem dX7_lift_19 : decode cX7_lift 19 = .ok (.imul, 1) := by decide +kernel
theorem dX7_lift_20 : decode cX7_lift 20 = .ok (.iadd, 1) := by decide +kernel
theorem dX7_lift_21 : decode cX7_lift 21 = .ok (.istore_n 3, 1) := by decide +kernel
theorem dX7_lift_22 : decode cX7_lift 22 = .ok (.aload_n 0, 1) := by decide +kernel
theorem dX7_lift_23 : decode cX7_lift 23 = .ok (.getfield 7, 3) := by decide +kernel
theorem dX7_lift_26 : decode cX7_lift 26 = .ok (.sipush 164, 3) := by decide +kernel
theorem dX7_lift_29 : decode cX7_lift 29 = .ok (.iload_n 3, 1) := by decide +kernel
theorem dX7_lift_30 : decode cX7_lift 30 = .ok (.iadd, 1) := by decide +kernel
theorem dX7_lift_31 : decode cX7_lift 31 = .ok (.iaload, 1) := by decide +kernel
theorem dX7_lift_32 : decode cX7_lift 32 = .ok (.iconst (-1), 1) := by decide +kernel
theorem dX7_lift_33 : decode cX7_lift 33 = .ok (.if_icmp .ne 6, 3) := by decide +kernel
theorem dX7_lift_36 : decode cX7_lift 36 = .ok (.bipush (-2), 2) := by decide +kernel
theorem dX7_lift_38 : decode cX7_lift 38 = .ok (.ireturn, 1) := by decide +kernel
theorem dX7_lift_39 : decode cX7_lift 39 = .ok (.aload_n 0, 1) := by decide +kernel
theorem dX7_lift_40 : decode cX7_lift 40 = .ok (.invokevirtual 62, 3) := by decide +kernel
theorem dX7_lift_43 : decode cX7_lift 43 = .ok (.aload_n 0, 1) := by decide +kernel
theorem dX7_lift_44 : decode cX7_lift 44 = .ok (.getfield 7, 3) := by decide +kernel
theorem dX7_lift_47 : decode cX7_lift 47 = .ok (.bipush 7, 2) := by decide +kernel
theorem dX7_lift_49 : decode cX7_lift 49 = .ok (.dup2, 1) := by decide +kernel
theorem dX7_lift_50 : decode cX7_lift 50 = .ok (.iaload, 1) := by decide +kernel
theorem dX7_lift_51 : decode cX7_lift 51 = .ok (.iconst 1, 1) := by decide +kernel
theorem dX7_lift_52 : decode cX7_lift 52 = .ok (.iadd, 1) := by decide +kernel
theorem dX7_lift_53 : decode cX7_lift 53 = .ok (.iastore, 1) := by decide +kernel
theorem dX7_lift_54 : decode cX7_lift 54 = .ok (.aload_n 0, 1) := by decide +kernel
theorem dX7_lift_55 : decode cX7_lift 55 = .ok (.getfield 7, 3) := by decide +kernel
theorem dX7_lift_58 : decode cX7_lift 58 = .ok (.bipush 7, 2) := by decide +kernel
theorem dX7_lift_60 : decode cX7_lift 60 = .ok (.iaload, 1) := by decide +kernel
theorem dX7_lift_61 : decode cX7_lift 61 = .ok (.iconst 3, 1) := by decide +kernel
theorem dX7_lift_62 : decode cX7_lift 62 = .ok (.irem, 1) := by decide +kernel
theorem dX7_lift_63 : decode cX7_lift 63 = .ok (.ifCond .eq 7, 3) := by decide +kernel
theorem dX7_lift_66 : decode cX7_lift 66 = .ok (.iconst 1, 1) := by decide +kernel
theorem dX7_lift_67 : decode cX7_lift 67 = .ok (.goto 4, 3) := by decide +kernel
theorem dX7_lift_70 : decode cX7_lift 70 = .ok (.iconst 0, 1) := by decide +kernel
theorem dX7_lift_71 : decode cX7_lift 71 = .ok (.istore 4, 2) := by decide +kernel
theorem dX7_lift_73 : decode cX7_lift 73 = .ok (.aload_n 0, 1) := by decide +kernel
theorem dX7_lift_74 : decode cX7_lift 74 = .ok (.getfield 7, 3) := by decide +kernel
theorem dX7_lift_77 : decode cX7_lift 77 = .ok (.sipush 308, 3) := by decide +kernel
theorem dX7_lift_80 : decode cX7_lift 80 = .ok (.aload_n 0, 1) := by decide +kernel
theorem dX7_lift_81 : decode cX7_lift 81 = .ok (.getfield 7, 3) := by decide +kernel
theorem dX7_lift_84 : decode cX7_lift 84 = .ok (.sipush 164, 3) := by decide +kernel
theorem dX7_lift_87 : decode cX7_lift 87 = .ok (.iload_n 3, 1) := by decide +kernel
theorem dX7_lift_88 : decode cX7_lift 88 = .ok (.iadd, 1) := by decide +kernel
theorem dX7_lift_89 : decode cX7_lift 89 = .ok (.iaload, 1) := by decide +kernel
theorem dX7_lift_90 : decode cX7_lift 90 = .ok (.iadd, 1) := by decide +kernel
theorem dX7_lift_91 : decode cX7_lift 91 = .ok (.dup2, 1) := by decide +kernel
theorem dX7_lift_92 : decode cX7_lift 92 = .ok (.iaload, 1) := by decide +kernel
theorem dX7_lift_93 : decode cX7_lift 93 = .ok (.iload 4, 2) := by decide +kernel
theorem dX7_lift_95 : decode cX7_lift 95 = .ok (.ifCond .eq 7, 3) := by decide +kernel
theorem dX7_lift_98 : decode cX7_lift 98 = .ok (.iconst 1, 1) := by decide +kernel
theorem dX7_lift_99 : decode cX7_lift 99 = .ok (.goto 4, 3) := by decide +kernel
theorem dX7_lift_102 : decode cX7_lift 102 = .ok (.iconst 0, 1) := by decide +kernel
theorem dX7_lift_103 : decode cX7_lift 103 = .ok (.iadd, 1) := by decide +kernel
theorem dX7_lift_104 : decode cX7_lift 104 = .ok (.iastore, 1) := by decide +kernel
theorem dX7_lift_105 : decode cX7_lift 105 = .ok (.aload_n 0, 1) := by decide +kernel
theorem dX7_lift_106 : decode cX7_lift 106 = .ok (.getfield 7, 3) := by decide +kernel
theorem dX7_lift_109 : decode cX7_lift 109 = .ok (.bipush 8, 2) := by decide +kernel
theorem dX7_lift_111 : decode cX7_lift 111 = .ok (.dup2, 1) := by decide +kernel
theorem dX7_lift_112 : decode cX7_lift 112 = .ok (.iaload, 1) := by decide +kernel
theorem dX7_lift_113 : decode cX7_lift 113 = .ok (.iload 4, 2) := by decide +kernel
theorem dX7_lift_115 : decode cX7_lift 115 = .ok (.ifCond .eq 7, 3) := by decide +kernel
theorem dX7_lift_118 : decode cX7_lift 118 = .ok (.iconst 0, 1) := by decide +kernel
theorem dX7_lift_119 : decode cX7_lift 119 = .ok (.goto 4, 3) := by decide +kernel
theorem dX7_lift_122 : decode cX7_lift 122 = .ok (.iconst 1, 1) := by decide +kernel
theorem dX7_lift_123 : decode cX7_lift 123 = .ok (.iadd, 1) := by decide +kernel
theorem dX7_lift_124 : decode cX7_lift 124 = .ok (.iastore, 1) := by decide +kernel
theorem dX7_lift_125 : decode cX7_lift 125 = .ok (.aload_n 0, 1) := by decide +kernel
theorem dX7_lift_126 : decode cX7_lift 126 = .ok (.getfield 7, 3) := by decide +kernel
theorem dX7_lift_129 : decode cX7_lift 129 = .ok (.bipush 9, 2) := by decide +kernel
theorem dX7_lift_131 : decode cX7_lift 131 = .ok (.dup2, 1) := by decide +kernel
theorem dX7_lift_132 : decode cX7_lift 132 = .ok (.iaload, 1) := by decide +kernel
theorem dX7_lift_133 : decode cX7_lift 133 = .ok (.iload 4, 2) := by decide +kernel
theorem dX7_lift_135 : decode cX7_lift 135 = .ok (.ifCond .eq 7, 3) := by decide +kernel
theorem dX7_lift_138 : decode cX7_lift 138 = .ok (.iconst 0, 1) := by decide +kernel
theorem dX7_lift_139 : decode cX7_lift 139 = .ok (.goto 9, 3) := by decide +kernel
theorem dX7_lift_142 : decode cX7_lift 142 = .ok (.aload_n 0, 1) := by decide +kernel
theorem dX7_lift_143 : decode cX7_lift 143 = .ok (.getfield 7, 3) := by decide +kernel
theorem dX7_lift_146 : decode cX7_lift 146 = .ok (.iconst 2, 1) := by decide +kernel
theorem dX7_lift_147 : decode cX7_lift 147 = .ok (.iaload, 1) := by decide +kernel
theorem dX7_lift_148 : decode cX7_lift 148 = .ok (.iadd, 1) := by decide +kernel
theorem dX7_lift_149 : decode cX7_lift 149 = .ok (.iastore, 1) := by decide +kernel
theorem dX7_lift_150 : decode cX7_lift 150 = .ok (.aload_n 0, 1) := by decide +kernel
theorem dX7_lift_151 : decode cX7_lift 151 = .ok (.getfield 7, 3) := by decide +kernel
theorem dX7_lift_154 : decode cX7_lift 154 = .ok (.sipush 164, 3) := by decide +kernel
theorem dX7_lift_157 : decode cX7_lift 157 = .ok (.iload_n 3, 1) := by decide +kernel
theorem dX7_lift_158 : decode cX7_lift 158 = .ok (.iadd, 1) := by decide +kernel
theorem dX7_lift_159 : decode cX7_lift 159 = .ok (.iconst (-1), 1) := by decide +kernel
theorem dX7_lift_160 : decode cX7_lift 160 = .ok (.iastore, 1) := by decide +kernel
theorem dX7_lift_161 : decode cX7_lift 161 = .ok (.iload 4, 2) := by decide +kernel
theorem dX7_lift_163 : decode cX7_lift 163 = .ok (.ifCond .eq 7, 3) := by decide +kernel
theorem dX7_lift_166 : decode cX7_lift 166 = .ok (.iconst 1, 1) := by decide +kernel
theorem dX7_lift_167 : decode cX7_lift 167 = .ok (.goto 4, 3) := by decide +kernel
theorem dX7_lift_170 : decode cX7_lift 170 = .ok (.iconst 0, 1) := by decide +kernel
theorem dX7_lift_171 : decode cX7_lift 171 = .ok (.ireturn, 1) := by decide +kernel
theorem dX7_nearest_0 : decode cX7_nearest 0 = .ok (.aload_n 0, 1) := by decide +kernel
theorem dX7_nearest_1 : decode cX7_nearest 1 = .ok (.iload_n 1, 1) := by decide +kernel
theorem dX7_nearest_2 : decode cX7_nearest 2 = .ok (.iload_n 2, 1) := by decide +kernel
theorem dX7_nearest_3 : decode cX7_nearest 3 = .ok (.invokevirtual 68, 3) := by decide +kernel
theorem dX7_nearest_6 : decode cX7_nearest 6 = .ok (.ifCond .ne 5, 3) := by decide +kernel
theorem dX7_nearest_9 : decode cX7_nearest 9 = .ok (.iconst (-1), 1) := by decide +kernel
theorem dX7_nearest_10 : decode cX7_nearest 10 = .ok (.ireturn, 1) := by decide +kernel
theorem dX7_nearest_11 : decode cX7_nearest 11 = .ok (.iload_n 1, 1) := by decide +kernel
theorem dX7_nearest_12 : decode cX7_nearest 12 = .ok (.iload_n 2, 1) := by decide +kernel
theorem dX7_nearest_13 : decode cX7_nearest 13 = .ok (.aload_n 0, 1) := by decide +kernel
theorem dX7_nearest_14 : decode cX7_nearest 14 = .ok (.getfield 7, 3) := by decide +kernel
theorem dX7_nearest_17 : decode cX7_nearest 17 = .ok (.iconst 0, 1) := by decide +kernel
theorem dX7_nearest_18 : decode cX7_nearest 18 = .ok (.iaload, 1) := by decide +kernel
theorem dX7_nearest_19 : decode cX7_nearest 19 = .ok (.imul, 1) := by decide +kernel
theorem dX7_nearest_20 : decode cX7_nearest 20 = .ok (.iadd, 1) := by decide +kernel
theorem dX7_nearest_21 : decode cX7_nearest 21 = .ok (.istore_n 3, 1) := by decide +kernel
theorem dX7_nearest_22 : decode cX7_nearest 22 = .ok (.aload_n 0, 1) := by decide +kernel
theorem dX7_nearest_23 : decode cX7_nearest 23 = .ok (.getfield 7, 3) := by decide +kernel
theorem dX7_nearest_26 : decode cX7_nearest 26 = .ok (.sipush 164, 3) := by decide +kernel
theorem dX7_nearest_29 : decode cX7_nearest 29 = .ok (.iload_n 3, 1) := by decide +kernel
theorem dX7_nearest_30 : decode cX7_nearest 30 = .ok (.iadd, 1) := by decide +kernel
theorem dX7_nearest_31 : decode cX7_nearest 31 = .ok (.iaload, 1) := by decide +kernel
theorem dX7_nearest_32 : decode cX7_nearest 32 = .ok (.iconst (-1), 1) := by decide +kernel
theorem dX7_nearest_33 : decode cX7_nearest 33 = .ok (.if_icmp .ne 15, 3) := by decide +kernel
theorem dX7_nearest_36 : decode cX7_nearest 36 = .ok (.aload_n 0, 1) := by decide +kernel
theorem dX7_nearest_37 : decode cX7_nearest 37 = .ok (.aload_n 0, 1) := by decide +kernel
theorem dX7_nearest_38 : decode cX7_nearest 38 = .ok (.iload_n 3, 1) := by decide +kernel
theorem dX7_nearest_39 : decode cX7_nearest 39 = .ok (.invokevirtual 72, 3) := by decide +kernel
theorem dX7_nearest_42 : decode cX7_nearest 42 = .ok (.invokevirtual 132, 3) := by decide +kernel
theorem dX7_nearest_45 : decode cX7_nearest 45 = .ok (.goto 4, 3) := by decide +kernel
theorem dX7_nearest_48 : decode cX7_nearest 48 = .ok (.iconst (-1), 1) := by decide +kernel
theorem dX7_nearest_49 : decode cX7_nearest 49 = .ok (.istore 4, 2) := by decide +kernel
theorem dX7_nearest_51 : decode cX7_nearest 51 = .ok (.iload 4, 2) := by decide +kernel
theorem dX7_nearest_53 : decode cX7_nearest 53 = .ok (.iconst (-1), 1) := by decide +kernel
theorem dX7_nearest_54 : decode cX7_nearest 54 = .ok (.if_icmp .ne 8, 3) := by decide +kernel
theorem dX7_nearest_57 : decode cX7_nearest 57 = .ok (.bipush (-4), 2) := by decide +kernel
theorem dX7_nearest_59 : decode cX7_nearest 59 = .ok (.goto 5, 3) := by decide +kernel
theorem dX7_nearest_62 : decode cX7_nearest 62 = .ok (.iload 4, 2) := by decide +kernel
theorem dX7_nearest_64 : decode cX7_nearest 64 = .ok (.ireturn, 1) := by decide +kernel
theorem dX7_readyOf_0 : decode cX7_readyOf 0 = .ok (.aload_n 0, 1) := by decide +kernel
theorem dX7_readyOf_1 : decode cX7_readyOf 1 = .ok (.getfield 7, 3) := by decide +kernel
theorem dX7_readyOf_4 : decode cX7_readyOf 4 = .ok (.sipush 308, 3) := by decide +kernel
theorem dX7_readyOf_7 : decode cX7_readyOf 7 = .ok (.iload_n 1, 1) := by decide +kernel
theorem dX7_readyOf_8 : decode cX7_readyOf 8 = .ok (.iadd, 1) := by decide +kernel
theorem dX7_readyOf_9 : decode cX7_readyOf 9 = .ok (.iaload, 1) := by decide +kernel
theorem dX7_readyOf_10 : decode cX7_readyOf 10 = .ok (.istore_n 2, 1) := by decide +kernel
theorem dX7_readyOf_11 : decode cX7_readyOf 11 = .ok (.iconst 0, 1) := by decide +kernel
theorem dX7_readyOf_12 : decode cX7_readyOf 12 = .ok (.istore_n 3, 1) := by decide +kernel
theorem dX7_readyOf_13 : decode cX7_readyOf 13 = .ok (.iload_n 3, 1) := by decide +kernel
theorem dX7_readyOf_14 : decode cX7_readyOf 14 = .ok (.aload_n 0, 1) := by decide +kernel
theorem dX7_readyOf_15 : decode cX7_readyOf 15 = .ok (.getfield 7, 3) := by decide +kernel
theorem dX7_readyOf_18 : decode cX7_readyOf 18 = .ok (.bipush 6, 2) := by decide +kernel
theorem dX7_readyOf_20 : decode cX7_readyOf 20 = .ok (.iaload, 1) := by decide +kernel
theorem dX7_readyOf_21 : decode cX7_readyOf 21 = .ok (.if_icmp .ge 32, 3) := by decide +kernel
theorem dX7_readyOf_24 : decode cX7_readyOf 24 = .ok (.iload_n 2, 1) := by decide +kernel
theorem dX7_readyOf_25 : decode cX7_readyOf 25 = .ok (.aload_n 0, 1) := by decide +kernel
theorem dX7_readyOf_26 : decode cX7_readyOf 26 = .ok (.iload_n 3, 1) := by decide +kernel
theorem dX7_readyOf_27 : decode cX7_readyOf 27 = .ok (.iconst 1, 1) := by decide +kernel
theorem dX7_readyOf_28 : decode cX7_readyOf 28 = .ok (.invokevirtual 85, 3) := by decide +kernel
theorem dX7_readyOf_31 : decode cX7_readyOf 31 = .ok (.iload_n 1, 1) := by decide +kernel
theorem dX7_readyOf_32 : decode cX7_readyOf 32 = .ok (.if_icmp .ne 12, 3) := by decide +kernel
theorem dX7_readyOf_35 : decode cX7_readyOf 35 = .ok (.aload_n 0, 1) := by decide +kernel
theorem dX7_readyOf_36 : decode cX7_readyOf 36 = .ok (.iload_n 3, 1) := by decide +kernel
theorem dX7_readyOf_37 : decode cX7_readyOf 37 = .ok (.iconst 1, 1) := by decide +kernel
theorem dX7_readyOf_38 : decode cX7_readyOf 38 = .ok (.invokevirtual 122, 3) := by decide +kernel
theorem dX7_readyOf_41 : decode cX7_readyOf 41 = .ok (.goto 4, 3) := by decide +kernel
theorem dX7_readyOf_44 : decode cX7_readyOf 44 = .ok (.iconst 0, 1) := by decide +kernel
theorem dX7_readyOf_45 : decode cX7_readyOf 45 = .ok (.iadd, 1) := by decide +kernel
theorem dX7_readyOf_46 : decode cX7_readyOf 46 = .ok (.istore_n 2, 1) := by decide +kernel
theorem dX7_readyOf_47 : decode cX7_readyOf 47 = .ok (.iinc 3 1, 3) := by decide +kernel
theorem dX7_readyOf_50 : decode cX7_readyOf 50 = .ok (.goto (-37), 3) := by decide +kernel
theorem dX7_readyOf_53 : decode cX7_readyOf 53 = .ok (.iload_n 2, 1) := by decide +kernel
theorem dX7_readyOf_54 : decode cX7_readyOf 54 = .ok (.ireturn, 1) := by decide +kernel
theorem dX7_ready_0 : decode cX7_ready 0 = .ok (.iload_n 1, 1) := by decide +kernel
theorem dX7_ready_1 : decode cX7_ready 1 = .ok (.iconst 0, 1) := by decide +kernel
theorem dX7_ready_2 : decode cX7_ready 2 = .ok (.bipush 99, 2) := by decide +kernel
theorem dX7_ready_4 : decode cX7_ready 4 = .ok (.invokestatic 37, 3) := by decide +kernel
theorem dX7_ready_7 : decode cX7_ready 7 = .ok (.ifCond .eq 11, 3) := by decide +kernel
theorem dX7_ready_10 : decode cX7_ready 10 = .ok (.aload_n 0, 1) := by decide +kernel
theorem dX7_ready_11 : decode cX7_ready 11 = .ok (.iload_n 1, 1) := by decide +kernel
theorem dX7_ready_12 : decode cX7_ready 12 = .ok (.invokevirtual 144, 3) := by decide +kernel
theorem dX7_ready_15 : decode cX7_ready 15 = .ok (.goto 4, 3) := by decide +kernel
theorem dX7_ready_18 : decode cX7_ready 18 = .ok (.iconst (-1), 1) := by decide +kernel
theorem dX7_ready_19 : decode cX7_ready 19 = .ok (.ireturn, 1) := by decide +kernel
theorem dX7_lacksOf_0 : decode cX7_lacksOf 0 = .ok (.iconst 0, 1) := by decide +kernel
theorem dX7_lacksOf_1 : decode cX7_lacksOf 1 = .ok (.istore_n 2, 1) := by decide +kernel
theorem dX7_lacksOf_2 : decode cX7_lacksOf 2 = .ok (.iconst 0, 1) := by decide +kernel
theorem dX7_lacksOf_3 : decode cX7_lacksOf 3 = .ok (.istore_n 3, 1) := by decide +kernel
theorem dX7_lacksOf_4 : decode cX7_lacksOf 4 = .ok (.iload_n 3, 1) := by decide +kernel
theorem dX7_lacksOf_5 : decode cX7_lacksOf 5 = .ok (.aload_n 0, 1) := by decide +kernel
theorem dX7_lacksOf_6 : decode cX7_lacksOf 6 = .ok (.invokevirtual 41, 3) := by decide +kernel
theorem dX7_lacksOf_9 : decode cX7_lacksOf 9 = .ok (.if_icmp .ge 40, 3) := by decide +kernel
theorem dX7_lacksOf_12 : decode cX7_lacksOf 12 = .ok (.iload_n 2, 1) := by decide +kernel
theorem dX7_lacksOf_13 : decode cX7_lacksOf 13 = .ok (.aload_n 0, 1) := by decide +kernel
theorem dX7_lacksOf_14 : decode cX7_lacksOf 14 = .ok (.getfield 7, 3) := by decide +kernel
theorem dX7_lacksOf_17 : decode cX7_lacksOf 17 = .ok (.sipush 164, 3) := by decide +kernel
theorem dX7_lacksOf_20 : decode cX7_lacksOf 20 = .ok (.iload_n 3, 1) := by decide +kernel
theorem dX7_lacksOf_21 : decode cX7_lacksOf 21 = .ok (.iadd, 1) := by decide +kernel
theorem dX7_lacksOf_22 : decode cX7_lacksOf 22 = .ok (.iaload, 1) := by decide +kernel
theorem dX7_lacksOf_23 : decode cX7_lacksOf 23 = .ok (.iconst (-1), 1) := by decide +kernel
theorem dX7_lacksOf_24 : decode cX7_lacksOf 24 = .ok (.if_icmp .ne 16, 3) := by decide +kernel
theorem dX7_lacksOf_27 : decode cX7_lacksOf 27 = .ok (.aload_n 0, 1) := by decide +kernel
theorem dX7_lacksOf_28 : decode cX7_lacksOf 28 = .ok (.iload_n 3, 1) := by decide +kernel
theorem dX7_lacksOf_29 : decode cX7_lacksOf 29 = .ok (.invokevirtual 72, 3) := by decide +kernel
theorem dX7_lacksOf_32 : decode cX7_lacksOf 32 = .ok (.iload_n 1, 1) := by decide +kernel
theorem dX7_lacksOf_33 : decode cX7_lacksOf 33 = .ok (.if_icmp .ne 7, 3) := by decide +kernel
theorem dX7_lacksOf_36 : decode cX7_lacksOf 36 = .ok (.iconst 1, 1) := by decide +kernel
theorem dX7_lacksOf_37 : decode cX7_lacksOf 37 = .ok (.goto 4, 3) := by decide +kernel
theorem dX7_lacksOf_40 : decode cX7_lacksOf 40 = .ok (.iconst 0, 1) := by decide +kernel
theorem dX7_lacksOf_41 : decode cX7_lacksOf 41 = .ok (.iadd, 1) := by decide +kernel
theorem dX7_lacksOf_42 : decode cX7_lacksOf 42 = .ok (.istore_n 2, 1) := by decide +kernel
theorem dX7_lacksOf_43 : decode cX7_lacksOf 43 = .ok (.iinc 3 1, 3) := by decide +kernel
theorem dX7_lacksOf_46 : decode cX7_lacksOf 46 = .ok (.goto (-42), 3) := by decide +kernel
theorem dX7_lacksOf_49 : decode cX7_lacksOf 49 = .ok (.iload_n 2, 1) := by decide +kernel
theorem dX7_lacksOf_50 : decode cX7_lacksOf 50 = .ok (.aload_n 0, 1) := by decide +kernel
theorem dX7_lacksOf_51 : decode cX7_lacksOf 51 = .ok (.iload_n 1, 1) := by decide +kernel
theorem dX7_lacksOf_52 : decode cX7_lacksOf 52 = .ok (.invokevirtual 144, 3) := by decide +kernel
theorem dX7_lacksOf_55 : decode cX7_lacksOf 55 = .ok (.isub, 1) := by decide +kernel
theorem dX7_lacksOf_56 : decode cX7_lacksOf 56 = .ok (.istore_n 2, 1) := by decide +kernel
theorem dX7_lacksOf_57 : decode cX7_lacksOf 57 = .ok (.iload_n 2, 1) := by decide +kernel
theorem dX7_lacksOf_58 : decode cX7_lacksOf 58 = .ok (.ifCond .ge 7, 3) := by decide +kernel
theorem dX7_lacksOf_61 : decode cX7_lacksOf 61 = .ok (.iconst 0, 1) := by decide +kernel
theorem dX7_lacksOf_62 : decode cX7_lacksOf 62 = .ok (.goto 4, 3) := by decide +kernel
theorem dX7_lacksOf_65 : decode cX7_lacksOf 65 = .ok (.iload_n 2, 1) := by decide +kernel
theorem dX7_lacksOf_66 : decode cX7_lacksOf 66 = .ok (.ireturn, 1) := by decide +kernel
theorem dX7_lacks_0 : decode cX7_lacks 0 = .ok (.iload_n 1, 1) := by decide +kernel
theorem dX7_lacks_1 : decode cX7_lacks 1 = .ok (.iconst 0, 1) := by decide +kernel
theorem dX7_lacks_2 : decode cX7_lacks 2 = .ok (.bipush 99, 2) := by decide +kernel
theorem dX7_lacks_4 : decode cX7_lacks 4 = .ok (.invokestatic 37, 3) := by decide +kernel
theorem dX7_lacks_7 : decode cX7_lacks 7 = .ok (.ifCond .eq 11, 3) := by decide +kernel
theorem dX7_lacks_10 : decode cX7_lacks 10 = .ok (.aload_n 0, 1) := by decide +kernel
theorem dX7_lacks_11 : decode cX7_lacks 11 = .ok (.iload_n 1, 1) := by decide +kernel
theorem dX7_lacks_12 : decode cX7_lacks 12 = .ok (.invokevirtual 147, 3) := by decide +kernel
theorem dX7_lacks_15 : decode cX7_lacks 15 = .ok (.goto 4, 3) := by decide +kernel
theorem dX7_lacks_18 : decode cX7_lacks 18 = .ok (.iconst (-1), 1) := by decide +kernel
theorem dX7_lacks_19 : decode cX7_lacks 19 = .ok (.ireturn, 1) := by decide +kernel
theorem dX7_stripFor_0 : decode cX7_stripFor 0 = .ok (.iload_n 1, 1) := by decide +kernel
theorem dX7_stripFor_1 : decode cX7_stripFor 1 = .ok (.iconst 0, 1) := by decide +kernel
theorem dX7_stripFor_2 : decode cX7_stripFor 2 = .ok (.bipush 99, 2) := by decide +kernel
theorem dX7_stripFor_4 : decode cX7_stripFor 4 = .ok (.invokestatic 37, 3) := by decide +kernel
theorem dX7_stripFor_7 : decode cX7_stripFor 7 = .ok (.ifCond .ne 5, 3) := by decide +kernel
theorem dX7_stripFor_10 : decode cX7_stripFor 10 = .ok (.iconst (-1), 1) := by decide +kernel
theorem dX7_stripFor_11 : decode cX7_stripFor 11 = .ok (.ireturn, 1) := by decide +kernel
theorem dX7_stripFor_12 : decode cX7_stripFor 12 = .ok (.aload_n 0, 1) := by decide +kernel
theorem dX7_stripFor_13 : decode cX7_stripFor 13 = .ok (.iload_n 1, 1) := by decide +kernel
theorem dX7_stripFor_14 : decode cX7_stripFor 14 = .ok (.invokevirtual 147, 3) := by decide +kernel
theorem dX7_stripFor_17 : decode cX7_stripFor 17 = .ok (.istore_n 2, 1) := by decide +kernel
theorem dX7_stripFor_18 : decode cX7_stripFor 18 = .ok (.iload_n 2, 1) := by decide +kernel
theorem dX7_stripFor_19 : decode cX7_stripFor 19 = .ok (.aload_n 0, 1) := by decide +kernel
theorem dX7_stripFor_20 : decode cX7_stripFor 20 = .ok (.getfield 7, 3) := by decide +kernel
theorem dX7_stripFor_23 : decode cX7_stripFor 23 = .ok (.iconst 2, 1) := by decide +kernel
theorem dX7_stripFor_24 : decode cX7_stripFor 24 = .ok (.iaload, 1) := by decide +kernel
theorem dX7_stripFor_25 : decode cX7_stripFor 25 = .ok (.imul, 1) := by decide +kernel
theorem dX7_stripFor_26 : decode cX7_stripFor 26 = .ok (.iload_n 2, 1) := by decide +kernel
theorem dX7_stripFor_27 : decode cX7_stripFor 27 = .ok (.iconst 1, 1) := by decide +kernel
theorem dX7_stripFor_28 : decode cX7_stripFor 28 = .ok (.isub, 1) := by decide +kernel
theorem dX7_stripFor_29 : decode cX7_stripFor 29 = .ok (.aload_n 0, 1) := by decide +kernel
theorem dX7_stripFor_30 : decode cX7_stripFor 30 = .ok (.getfield 7, 3) := by decide +kernel
theorem dX7_stripFor_33 : decode cX7_stripFor 33 = .ok (.iconst 3, 1) := by decide +kernel
theorem dX7_stripFor_34 : decode cX7_stripFor 34 = .ok (.iaload, 1) := by decide +kernel
theorem dX7_stripFor_35 : decode cX7_stripFor 35 = .ok (.imul, 1) := by decide +kernel
theorem dX7_stripFor_36 : decode cX7_stripFor 36 = .ok (.iadd, 1) := by decide +kernel
theorem dX7_stripFor_37 : decode cX7_stripFor 37 = .ok (.istore_n 3, 1) := by decide +kernel
theorem dX7_stripFor_38 : decode cX7_stripFor 38 = .ok (.iload_n 2, 1) := by decide +kernel
theorem dX7_stripFor_39 : decode cX7_stripFor 39 = .ok (.ifCond .ne 7, 3) := by decide +kernel
theorem dX7_stripFor_42 : decode cX7_stripFor 42 = .ok (.iconst 0, 1) := by decide +kernel
theorem dX7_stripFor_43 : decode cX7_stripFor 43 = .ok (.goto 27, 3) := by decide +kernel
theorem dX7_stripFor_46 : decode cX7_stripFor 46 = .ok (.iload_n 3, 1) := by decide +kernel
theorem dX7_stripFor_47 : decode cX7_stripFor 47 = .ok (.sipush 1000, 3) := by decide +kernel
theorem dX7_stripFor_50 : decode cX7_stripFor 50 = .ok (.if_icmp .le 8, 3) := by decide +kernel
theorem dX7_stripFor_53 : decode cX7_stripFor 53 = .ok (.bipush (-4), 2) := by decide +kernel
theorem dX7_stripFor_55 : decode cX7_stripFor 55 = .ok (.goto 15, 3) := by decide +kernel
theorem dX7_stripFor_58 : decode cX7_stripFor 58 = .ok (.iload_n 3, 1) := by decide +kernel
theorem dX7_stripFor_59 : decode cX7_stripFor 59 = .ok (.bipush 20, 2) := by decide +kernel
theorem dX7_stripFor_61 : decode cX7_stripFor 61 = .ok (.if_icmp .ge 8, 3) := by decide +kernel
theorem dX7_stripFor_64 : decode cX7_stripFor 64 = .ok (.bipush 20, 2) := by decide +kernel
theorem dX7_stripFor_66 : decode cX7_stripFor 66 = .ok (.goto 4, 3) := by decide +kernel
theorem dX7_stripFor_69 : decode cX7_stripFor 69 = .ok (.iload_n 3, 1) := by decide +kernel
theorem dX7_stripFor_70 : decode cX7_stripFor 70 = .ok (.ireturn, 1) := by decide +kernel
theorem dX7_ifLaid_0 : decode cX7_ifLaid 0 = .ok (.aload_n 0, 1) := by decide +kernel
theorem dX7_ifLaid_1 : decode cX7_ifLaid 1 = .ok (.getfield 7, 3) := by decide +kernel
theorem dX7_ifLaid_4 : decode cX7_ifLaid 4 = .ok (.iconst 0, 1) := by decide +kernel
theorem dX7_ifLaid_5 : decode cX7_ifLaid 5 = .ok (.aload_n 0, 1) := by decide +kernel
theorem dX7_ifLaid_6 : decode cX7_ifLaid 6 = .ok (.getfield 13, 3) := by decide +kernel
theorem dX7_ifLaid_9 : decode cX7_ifLaid 9 = .ok (.iconst 0, 1) := by decide +kernel
theorem dX7_ifLaid_10 : decode cX7_ifLaid 10 = .ok (.invokestatic 33, 3) := by decide +kernel
theorem dX7_ifLaid_13 : decode cX7_ifLaid 13 = .ok (.aload_n 0, 1) := by decide +kernel
theorem dX7_ifLaid_14 : decode cX7_ifLaid 14 = .ok (.invokevirtual 141, 3) := by decide +kernel
theorem dX7_ifLaid_17 : decode cX7_ifLaid 17 = .ok (.istore_n 1, 1) := by decide +kernel
theorem dX7_ifLaid_18 : decode cX7_ifLaid 18 = .ok (.aload_n 0, 1) := by decide +kernel
theorem dX7_ifLaid_19 : decode cX7_ifLaid 19 = .ok (.iconst 0, 1) := by decide +kernel
theorem dX7_ifLaid_20 : decode cX7_ifLaid 20 = .ok (.invokevirtual 95, 3) := by decide +kernel
theorem dX7_ifLaid_23 : decode cX7_ifLaid 23 = .ok (.istore_n 2, 1) := by decide +kernel
theorem dX7_ifLaid_24 : decode cX7_ifLaid 24 = .ok (.aload_n 0, 1) := by decide +kernel
theorem dX7_ifLaid_25 : decode cX7_ifLaid 25 = .ok (.getfield 13, 3) := by decide +kernel
theorem dX7_ifLaid_28 : decode cX7_ifLaid 28 = .ok (.iconst 0, 1) := by decide +kernel
theorem dX7_ifLaid_29 : decode cX7_ifLaid 29 = .ok (.aload_n 0, 1) := by decide +kernel
theorem dX7_ifLaid_30 : decode cX7_ifLaid 30 = .ok (.getfield 7, 3) := by decide +kernel
theorem dX7_ifLaid_33 : decode cX7_ifLaid 33 = .ok (.iconst 0, 1) := by decide +kernel
theorem dX7_ifLaid_34 : decode cX7_ifLaid 34 = .ok (.invokestatic 33, 3) := by decide +kernel
theorem dX7_ifLaid_37 : decode cX7_ifLaid 37 = .ok (.iload_n 2, 1) := by decide +kernel
theorem dX7_ifLaid_38 : decode cX7_ifLaid 38 = .ok (.ireturn, 1) := by decide +kernel
theorem dX7_type_0 : decode cX7_type 0 = .ok (.iload_n 1, 1) := by decide +kernel
theorem dX7_type_1 : decode cX7_type 1 = .ok (.bipush 32, 2) := by decide +kernel
theorem dX7_type_3 : decode cX7_type 3 = .ok (.bipush 126, 2) := by decide +kernel
theorem dX7_type_5 : decode cX7_type 5 = .ok (.invokestatic 37, 3) := by decide +kernel
theorem dX7_type_8 : decode cX7_type 8 = .ok (.ifCond .ne 5, 3) := by decide +kernel
theorem dX7_type_11 : decode cX7_type 11 = .ok (.iconst (-1), 1) := by decide +kernel
theorem dX7_type_12 : decode cX7_type 12 = .ok (.ireturn, 1) := by decide +kernel
theorem dX7_type_13 : decode cX7_type 13 = .ok (.aload_n 0, 1) := by decide +kernel
theorem dX7_type_14 : decode cX7_type 14 = .ok (.getfield 99, 3) := by decide +kernel
theorem dX7_type_17 : decode cX7_type 17 = .ok (.bipush 80, 2) := by decide +kernel
theorem dX7_type_19 : decode cX7_type 19 = .ok (.if_icmp .ne 6, 3) := by decide +kernel
theorem dX7_type_22 : decode cX7_type 22 = .ok (.bipush (-3), 2) := by decide +kernel
theorem dX7_type_24 : decode cX7_type 24 = .ok (.ireturn, 1) := by decide +kernel
theorem dX7_type_25 : decode cX7_type 25 = .ok (.aload_n 0, 1) := by decide +kernel
theorem dX7_type_26 : decode cX7_type 26 = .ok (.getfield 19, 3) := by decide +kernel
theorem dX7_type_29 : decode cX7_type 29 = .ok (.aload_n 0, 1) := by decide +kernel
theorem dX7_type_30 : decode cX7_type 30 = .ok (.getfield 99, 3) := by decide +kernel
theorem dX7_type_33 : decode cX7_type 33 = .ok (.iload_n 1, 1) := by decide +kernel
theorem dX7_type_34 : decode cX7_type 34 = .ok (.iastore, 1) := by decide +kernel
theorem dX7_type_35 : decode cX7_type 35 = .ok (.aload_n 0, 1) := by decide +kernel
theorem dX7_type_36 : decode cX7_type 36 = .ok (.dup, 1) := by decide +kernel
theorem dX7_type_37 : decode cX7_type 37 = .ok (.getfield 99, 3) := by decide +kernel
theorem dX7_type_40 : decode cX7_type 40 = .ok (.iconst 1, 1) := by decide +kernel
theorem dX7_type_41 : decode cX7_type 41 = .ok (.iadd, 1) := by decide +kernel
theorem dX7_type_42 : decode cX7_type 42 = .ok (.putfield 99, 3) := by decide +kernel
theorem dX7_type_45 : decode cX7_type 45 = .ok (.aload_n 0, 1) := by decide +kernel
theorem dX7_type_46 : decode cX7_type 46 = .ok (.getfield 99, 3) := by decide +kernel
theorem dX7_type_49 : decode cX7_type 49 = .ok (.ireturn, 1) := by decide +kernel
theorem dX7_clearText_0 : decode cX7_clearText 0 = .ok (.aload_n 0, 1) := by decide +kernel
theorem dX7_clearText_1 : decode cX7_clearText 1 = .ok (.getfield 99, 3) := by decide +kernel
theorem dX7_clearText_4 : decode cX7_clearText 4 = .ok (.istore_n 1, 1) := by decide +kernel
theorem dX7_clearText_5 : decode cX7_clearText 5 = .ok (.aload_n 0, 1) := by decide +kernel
theorem dX7_clearText_6 : decode cX7_clearText 6 = .ok (.iconst 0, 1) := by decide +kernel
theorem dX7_clearText_7 : decode cX7_clearText 7 = .ok (.putfield 99, 3) := by decide +kernel
theorem dX7_clearText_10 : decode cX7_clearText 10 = .ok (.iload_n 1, 1) := by decide +kernel
theorem dX7_clearText_11 : decode cX7_clearText 11 = .ok (.ireturn, 1) := by decide +kernel
theorem dX7_faultNow_0 : decode cX7_faultNow 0 = .ok (.aload_n 0, 1) := by decide +kernel
theorem dX7_faultNow_1 : decode cX7_faultNow 1 = .ok (.iconst 0, 1) := by decide +kernel
theorem dX7_faultNow_2 : decode cX7_faultNow 2 = .ok (.putfield 150, 3) := by decide +kernel
theorem dX7_faultNow_5 : decode cX7_faultNow 5 = .ok (.iconst 0, 1) := by decide +kernel
theorem dX7_faultNow_6 : decode cX7_faultNow 6 = .ok (.istore_n 1, 1) := by decide +kernel
theorem dX7_faultNow_7 : decode cX7_faultNow 7 = .ok (.iconst 0, 1) := by decide +kernel
theorem dX7_faultNow_8 : decode cX7_faultNow 8 = .ok (.istore_n 2, 1) := by decide +kernel
theorem dX7_faultNow_9 : decode cX7_faultNow 9 = .ok (.iload_n 2, 1) := by decide +kernel
theorem dX7_faultNow_10 : decode cX7_faultNow 10 = .ok (.aload_n 0, 1) := by decide +kernel
theorem dX7_faultNow_11 : decode cX7_faultNow 11 = .ok (.getfield 99, 3) := by decide +kernel
theorem dX7_faultNow_14 : decode cX7_faultNow 14 = .ok (.if_icmp .ge 155, 3) := by decide +kernel
theorem dX7_faultNow_17 : decode cX7_faultNow 17 = .ok (.aload_n 0, 1) := by decide +kernel
theorem dX7_faultNow_18 : decode cX7_faultNow 18 = .ok (.getfield 19, 3) := by decide +kernel
theorem dX7_faultNow_21 : decode cX7_faultNow 21 = .ok (.iload_n 2, 1) := by decide +kernel
theorem dX7_faultNow_22 : decode cX7_faultNow 22 = .ok (.iaload, 1) := by decide +kernel
theorem dX7_faultNow_23 : decode cX7_faultNow 23 = .ok (.bipush 48, 2) := by decide +kernel
theorem dX7_faultNow_25 : decode cX7_faultNow 25 = .ok (.bipush 57, 2) := by decide +kernel
theorem dX7_faultNow_27 : decode cX7_faultNow 27 = .ok (.invokestatic 37, 3) := by decide +kernel
theorem dX7_faultNow_30 : decode cX7_faultNow 30 = .ok (.istore_n 3, 1) := by decide +kernel
theorem dX7_faultNow_31 : decode cX7_faultNow 31 = .ok (.iload_n 3, 1) := by decide +kernel
theorem dX7_faultNow_32 : decode cX7_faultNow 32 = .ok (.ifCond .eq 16, 3) := by decide +kernel
theorem dX7_faultNow_35 : decode cX7_faultNow 35 = .ok (.iload_n 1, 1) := by decide +kernel
theorem dX7_faultNow_36 : decode cX7_faultNow 36 = .ok (.iconst 2, 1) := by decide +kernel
theorem dX7_faultNow_37 : decode cX7_faultNow 37 = .ok (.if_icmp .ge 7, 3) := by decide +kernel
theorem dX7_faultNow_40 : decode cX7_faultNow 40 = .ok (.iconst 1, 1) := by decide +kernel
theorem dX7_faultNow_41 : decode cX7_faultNow 41 = .ok (.goto 36, 3) := by decide +kernel
theorem dX7_faultNow_44 : decode cX7_faultNow 44 = .ok (.iconst 0, 1) := by decide +kernel
theorem dX7_faultNow_45 : decode cX7_faultNow 45 = .ok (.goto 32, 3) := by decide +kernel
theorem dX7_faultNow_48 : decode cX7_faultNow 48 = .ok (.aload_n 0, 1) := by decide +kernel
theorem dX7_faultNow_49 : decode cX7_faultNow 49 = .ok (.getfield 19, 3) := by decide +kernel
theorem dX7_faultNow_52 : decode cX7_faultNow 52 = .ok (.iload_n 2, 1) := by decide +kernel
theorem dX7_faultNow_53 : decode cX7_faultNow 53 = .ok (.iaload, 1) := by decide +kernel
theorem dX7_faultNow_54 : decode cX7_faultNow 54 = .ok (.bipush 44, 2) := by decide +kernel
theorem dX7_faultNow_56 : decode cX7_faultNow 56 = .ok (.if_icmp .ne 20, 3) := by decide +kernel
theorem dX7_faultNow_59 : decode cX7_faultNow 59 = .ok (.iload_n 1, 1) := by decide +kernel
theorem dX7_faultNow_60 : decode cX7_faultNow 60 = .ok (.ifCond .le 16, 3) := by decide +kernel
theorem dX7_faultNow_63 : decode cX7_faultNow 63 = .ok (.aload_n 0, 1) := by decide +kernel
theorem dX7_faultNow_64 : decode cX7_faultNow 64 = .ok (.getfield 150, 3) := by decide +kernel
theorem dX7_faultNow_67 : decode cX7_faultNow 67 = .ok (.bipush 8, 2) := by decide +kernel
theorem dX7_faultNow_69 : decode cX7_faultNow 69 = .ok (.if_icmp .ge 7, 3) := by decide +kernel
theorem dX7_faultNow_72 : decode cX7_faultNow 72 = .ok (.iconst 1, 1) := by decide +kernel
theorem dX7_faultNow_73 : decode cX7_faultNow 73 = .ok (.goto 4, 3) := by decide +kernel
theorem dX7_faultNow_76 : decode cX7_faultNow 76 = .ok (.iconst 0, 1) := by decide +kernel
theorem dX7_faultNow_77 : decode cX7_faultNow 77 = .ok (.istore 4, 2) := by decide +kernel
theorem dX7_faultNow_79 : decode cX7_faultNow 79 = .ok (.iload 4, 2) := by decide +kernel
theorem dX7_faultNow_81 : decode cX7_faultNow 81 = .ok (.ifCond .ne 5, 3) := by decide +kernel
theorem dX7_faultNow_84 : decode cX7_faultNow 84 = .ok (.iload_n 2, 1) := by decide +kernel
theorem dX7_faultNow_85 : decode cX7_faultNow 85 = .ok (.ireturn, 1) := by decide +kernel
theorem dX7_faultNow_86 : decode cX7_faultNow 86 = .ok (.iload_n 3, 1) := by decide +kernel
theorem dX7_faultNow_87 : decode cX7_faultNow 87 = .ok (.ifCond .eq 64, 3) := by decide +kernel
theorem dX7_faultNow_90 : decode cX7_faultNow 90 = .ok (.aload_n 0, 1) := by decide +kernel
theorem dX7_faultNow_91 : decode cX7_faultNow 91 = .ok (.dup, 1) := by decide +kernel
theorem dX7_faultNow_92 : decode cX7_faultNow 92 = .ok (.getfield 150, 3) := by decide +kernel
theorem dX7_faultNow_95 : decode cX7_faultNow 95 = .ok (.iload_n 1, 1) := by decide +kernel
theorem dX7_faultNow_96 : decode cX7_faultNow 96 = .ok (.ifCond .ne 7, 3) := by decide +kernel
theorem dX7_faultNow_99 : decode cX7_faultNow 99 = .ok (.iconst 1, 1) := by decide +kernel
theorem dX7_faultNow_100 : decode cX7_faultNow 100 = .ok (.goto 4, 3) := by decide +kernel
theorem dX7_faultNow_103 : decode cX7_faultNow 103 = .ok (.iconst 0, 1) := by decide +kernel
theorem dX7_faultNow_104 : decode cX7_faultNow 104 = .ok (.iadd, 1) := by decide +kernel
theorem dX7_faultNow_105 : decode cX7_faultNow 105 = .ok (.putfield 150, 3) := by decide +kernel
theorem dX7_faultNow_108 : decode cX7_faultNow 108 = .ok (.aload_n 0, 1) := by decide +kernel
theorem dX7_faultNow_109 : decode cX7_faultNow 109 = .ok (.getfield 22, 3) := by decide +kernel
theorem dX7_faultNow_112 : decode cX7_faultNow 112 = .ok (.aload_n 0, 1) := by decide +kernel
theorem dX7_faultNow_113 : decode cX7_faultNow 113 = .ok (.getfield 150, 3) := by decide +kernel
theorem dX7_faultNow_116 : decode cX7_faultNow 116 = .ok (.iconst 1, 1) := by decide +kernel
theorem dX7_faultNow_117 : decode cX7_faultNow 117 = .ok (.isub, 1) := by decide +kernel
theorem dX7_faultNow_118 : decode cX7_faultNow 118 = .ok (.iload_n 1, 1) := by decide +kernel
theorem dX7_faultNow_119 : decode cX7_faultNow 119 = .ok (.ifCond .ne 7, 3) := by decide +kernel
theorem dX7_faultNow_122 : decode cX7_faultNow 122 = .ok (.iconst 0, 1) := by decide +kernel
theorem dX7_faultNow_123 : decode cX7_faultNow 123 = .ok (.goto 17, 3) := by decide +kernel
theorem dX7_faultNow_126 : decode cX7_faultNow 126 = .ok (.bipush 10, 2) := by decide +kernel
theorem dX7_faultNow_128 : decode cX7_faultNow 128 = .ok (.aload_n 0, 1) := by decide +kernel
theorem dX7_faultNow_129 : decode cX7_faultNow 129 = .ok (.getfield 22, 3) := by decide +kernel
theorem dX7_faultNow_132 : decode cX7_faultNow 132 = .ok (.aload_n 0, 1) := by decide +kernel
theorem dX7_faultNow_133 : decode cX7_faultNow 133 = .ok (.getfield 150, 3) := by decide +kernel
theorem dX7_faultNow_136 : decode cX7_faultNow 136 = .ok (.iconst 1, 1) := by decide +kernel
theorem dX7_faultNow_137 : decode cX7_faultNow 137 = .ok (.isub, 1) := by decide +kernel
theorem dX7_faultNow_138 : decode cX7_faultNow 138 = .ok (.iaload, 1) := by decide +kernel
theorem dX7_faultNow_139 : decode cX7_faultNow 139 = .ok (.imul, 1) := by decide +kernel
theorem dX7_faultNow_140 : decode cX7_faultNow 140 = .ok (.aload_n 0, 1) := by decide +kernel
theorem dX7_faultNow_141 : decode cX7_faultNow 141 = .ok (.getfield 19, 3) := by decide +kernel
theorem dX7_faultNow_144 : decode cX7_faultNow 144 = .ok (.iload_n 2, 1) := by decide +kernel
theorem dX7_faultNow_145 : decode cX7_faultNow 145 = .ok (.iaload, 1) := by decide +kernel
theorem dX7_faultNow_146 : decode cX7_faultNow 146 = .ok (.iadd, 1) := by decide +kernel
theorem dX7_faultNow_147 : decode cX7_faultNow 147 = .ok (.bipush 48, 2) := by decide +kernel
theorem dX7_faultNow_149 : decode cX7_faultNow 149 = .ok (.isub, 1) := by decide +kernel
theorem dX7_faultNow_150 : decode cX7_faultNow 150 = .ok (.iastore, 1) := by decide +kernel
theorem dX7_faultNow_151 : decode cX7_faultNow 151 = .ok (.iload_n 3, 1) := by decide +kernel
theorem dX7_faultNow_152 : decode cX7_faultNow 152 = .ok (.ifCond .eq 9, 3) := by decide +kernel
theorem dX7_faultNow_155 : decode cX7_faultNow 155 = .ok (.iload_n 1, 1) := by decide +kernel
theorem dX7_faultNow_156 : decode cX7_faultNow 156 = .ok (.iconst 1, 1) := by decide +kernel
theorem dX7_faultNow_157 : decode cX7_faultNow 157 = .ok (.iadd, 1) := by decide +kernel
theorem dX7_faultNow_158 : decode cX7_faultNow 158 = .ok (.goto 4, 3) := by decide +kernel
theorem dX7_faultNow_161 : decode cX7_faultNow 161 = .ok (.iconst 0, 1) := by decide +kernel
theorem dX7_faultNow_162 : decode cX7_faultNow 162 = .ok (.istore_n 1, 1) := by decide +kernel
theorem dX7_faultNow_163 : decode cX7_faultNow 163 = .ok (.iinc 2 1, 3) := by decide +kernel
theorem dX7_faultNow_166 : decode cX7_faultNow 166 = .ok (.goto (-157), 3) := by decide +kernel
theorem dX7_faultNow_169 : decode cX7_faultNow 169 = .ok (.iload_n 1, 1) := by decide +kernel
theorem dX7_faultNow_170 : decode cX7_faultNow 170 = .ok (.ifCond .ne 10, 3) := by decide +kernel
theorem dX7_faultNow_173 : decode cX7_faultNow 173 = .ok (.aload_n 0, 1) := by decide +kernel
theorem dX7_faultNow_174 : decode cX7_faultNow 174 = .ok (.getfield 99, 3) := by decide +kernel
theorem dX7_faultNow_177 : decode cX7_faultNow 177 = .ok (.goto 4, 3) := by decide +kernel
theorem dX7_faultNow_180 : decode cX7_faultNow 180 = .ok (.iconst (-1), 1) := by decide +kernel
theorem dX7_faultNow_181 : decode cX7_faultNow 181 = .ok (.ireturn, 1) := by decide +kernel
theorem dX7_fault_0 : decode cX7_fault 0 = .ok (.aload_n 0, 1) := by decide +kernel
theorem dX7_fault_1 : decode cX7_fault 1 = .ok (.invokevirtual 153, 3) := by decide +kernel
theorem dX7_fault_4 : decode cX7_fault 4 = .ok (.istore_n 1, 1) := by decide +kernel
theorem dX7_fault_5 : decode cX7_fault 5 = .ok (.iload_n 1, 1) := by decide +kernel
theorem dX7_fault_6 : decode cX7_fault 6 = .ok (.iconst (-1), 1) := by decide +kernel
theorem dX7_fault_7 : decode cX7_fault 7 = .ok (.if_icmp .ne 8, 3) := by decide +kernel
theorem dX7_fault_10 : decode cX7_fault 10 = .ok (.bipush (-4), 2) := by decide +kernel
theorem dX7_fault_12 : decode cX7_fault 12 = .ok (.goto 4, 3) := by decide +kernel
theorem dX7_fault_15 : decode cX7_fault 15 = .ok (.iload_n 1, 1) := by decide +kernel
theorem dX7_fault_16 : decode cX7_fault 16 = .ok (.ireturn, 1) := by decide +kernel
theorem dX7_pattern_0 : decode cX7_pattern 0 = .ok (.aload_n 0, 1) := by decide +kernel
theorem dX7_pattern_1 : decode cX7_pattern 1 = .ok (.invokevirtual 153, 3) := by decide +kernel
theorem dX7_pattern_4 : decode cX7_pattern 4 = .ok (.iconst (-1), 1) := by decide +kernel
theorem dX7_pattern_5 : decode cX7_pattern 5 = .ok (.if_icmp .ne 10, 3) := by decide +kernel
theorem dX7_pattern_8 : decode cX7_pattern 8 = .ok (.aload_n 0, 1) := by decide +kernel
theorem dX7_pattern_9 : decode cX7_pattern 9 = .ok (.invokevirtual 59, 3) := by decide +kernel
theorem dX7_pattern_12 : decode cX7_pattern 12 = .ok (.ifCond .le 6, 3) := by decide +kernel
theorem dX7_pattern_15 : decode cX7_pattern 15 = .ok (.bipush (-2), 2) := by decide +kernel
theorem dX7_pattern_17 : decode cX7_pattern 17 = .ok (.ireturn, 1) := by decide +kernel
theorem dX7_pattern_18 : decode cX7_pattern 18 = .ok (.aload_n 0, 1) := by decide +kernel
theorem dX7_pattern_19 : decode cX7_pattern 19 = .ok (.invokevirtual 62, 3) := by decide +kernel
theorem dX7_pattern_22 : decode cX7_pattern 22 = .ok (.aload_n 0, 1) := by decide +kernel
theorem dX7_pattern_23 : decode cX7_pattern 23 = .ok (.getfield 7, 3) := by decide +kernel
theorem dX7_pattern_26 : decode cX7_pattern 26 = .ok (.iconst 4, 1) := by decide +kernel
theorem dX7_pattern_27 : decode cX7_pattern 27 = .ok (.aload_n 0, 1) := by decide +kernel
theorem dX7_pattern_28 : decode cX7_pattern 28 = .ok (.getfield 150, 3) := by decide +kernel
theorem dX7_pattern_31 : decode cX7_pattern 31 = .ok (.iastore, 1) := by decide +kernel
theorem dX7_pattern_32 : decode cX7_pattern 32 = .ok (.iconst 0, 1) := by decide +kernel
theorem dX7_pattern_33 : decode cX7_pattern 33 = .ok (.istore_n 1, 1) := by decide +kernel
theorem dX7_pattern_34 : decode cX7_pattern 34 = .ok (.iload_n 1, 1) := by decide +kernel
theorem dX7_pattern_35 : decode cX7_pattern 35 = .ok (.bipush 8, 2) := by decide +kernel
theorem dX7_pattern_37 : decode cX7_pattern 37 = .ok (.if_icmp .ge 36, 3) := by decide +kernel
theorem dX7_pattern_40 : decode cX7_pattern 40 = .ok (.aload_n 0, 1) := by decide +kernel
theorem dX7_pattern_41 : decode cX7_pattern 41 = .ok (.getfield 7, 3) := by decide +kernel
theorem dX7_pattern_44 : decode cX7_pattern 44 = .ok (.bipush 12, 2) := by decide +kernel
theorem dX7_pattern_46 : decode cX7_pattern 46 = .ok (.iload_n 1, 1) := by decide +kernel
theorem dX7_pattern_47 : decode cX7_pattern 47 = .ok (.iadd, 1) := by decide +kernel
theorem dX7_pattern_48 : decode cX7_pattern 48 = .ok (.iload_n 1, 1) := by decide +kernel
theorem dX7_pattern_49 : decode cX7_pattern 49 = .ok (.aload_n 0, 1) := by decide +kernel
theorem dX7_pattern_50 : decode cX7_pattern 50 = .ok (.getfield 150, 3) := by decide +kernel
theorem dX7_pattern_53 : decode cX7_pattern 53 = .ok (.if_icmp .ge 12, 3) := by decide +kernel
theorem dX7_pattern_56 : decode cX7_pattern 56 = .ok (.aload_n 0, 1) := by decide +kernel
theorem dX7_pattern_57 : decode cX7_pattern 57 = .ok (.getfield 22, 3) := by decide +kernel
theorem dX7_pattern_60 : decode cX7_pattern 60 = .ok (.iload_n 1, 1) := by decide +kernel
theorem dX7_pattern_61 : decode cX7_pattern 61 = .ok (.iaload, 1) := by decide +kernel
theorem dX7_pattern_62 : decode cX7_pattern 62 = .ok (.goto 4, 3) := by decide +kernel
theorem dX7_pattern_65 : decode cX7_pattern 65 = .ok (.iconst 0, 1) := by decide +kernel
theorem dX7_pattern_66 : decode cX7_pattern 66 = .ok (.iastore, 1) := by decide +kernel
theorem dX7_pattern_67 : decode cX7_pattern 67 = .ok (.iinc 1 1, 3) := by decide +kernel
theorem dX7_pattern_70 : decode cX7_pattern 70 = .ok (.goto (-36), 3) := by decide +kernel
theorem dX7_pattern_73 : decode cX7_pattern 73 = .ok (.aload_n 0, 1) := by decide +kernel
theorem dX7_pattern_74 : decode cX7_pattern 74 = .ok (.getfield 150, 3) := by decide +kernel
theorem dX7_pattern_77 : decode cX7_pattern 77 = .ok (.ireturn, 1) := by decide +kernel
