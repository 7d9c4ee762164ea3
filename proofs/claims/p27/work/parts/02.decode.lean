theorem dX0_init_0 : decode cX0_init 0 = .ok (.aload_n 0, 1) := by decide +kernel
theorem dX0_init_1 : decode cX0_init 1 = .ok (.invokespecial 3, 3) := by decide +kernel
theorem dX0_init_4 : decode cX0_init 4 = .ok (.aload_n 0, 1) := by decide +kernel
theorem dX0_init_5 : decode cX0_init 5 = .ok (.iconst 5, 1) := by decide +kernel
theorem dX0_init_6 : decode cX0_init 6 = .ok (.anewarray 9, 3) := by decide +kernel
theorem dX0_init_9 : decode cX0_init 9 = .ok (.putfield 11, 3) := by decide +kernel
theorem dX0_init_12 : decode cX0_init 12 = .ok (.iconst 0, 1) := by decide +kernel
theorem dX0_init_13 : decode cX0_init 13 = .ok (.istore_n 1, 1) := by decide +kernel
theorem dX0_init_14 : decode cX0_init 14 = .ok (.iload_n 1, 1) := by decide +kernel
theorem dX0_init_15 : decode cX0_init 15 = .ok (.aload_n 0, 1) := by decide +kernel
theorem dX0_init_16 : decode cX0_init 16 = .ok (.getfield 11, 3) := by decide +kernel
theorem dX0_init_19 : decode cX0_init 19 = .ok (.arraylength, 1) := by decide +kernel
theorem dX0_init_20 : decode cX0_init 20 = .ok (.if_icmp .ge 22, 3) := by decide +kernel
theorem dX0_init_23 : decode cX0_init 23 = .ok (.aload_n 0, 1) := by decide +kernel
theorem dX0_init_24 : decode cX0_init 24 = .ok (.getfield 11, 3) := by decide +kernel
theorem dX0_init_27 : decode cX0_init 27 = .ok (.iload_n 1, 1) := by decide +kernel
theorem dX0_init_28 : decode cX0_init 28 = .ok (.new 9, 3) := by decide +kernel
theorem dX0_init_31 : decode cX0_init 31 = .ok (.dup, 1) := by decide +kernel
theorem dX0_init_32 : decode cX0_init 32 = .ok (.invokespecial 17, 3) := by decide +kernel
theorem dX0_init_35 : decode cX0_init 35 = .ok (.aastore, 1) := by decide +kernel
theorem dX0_init_36 : decode cX0_init 36 = .ok (.iinc 1 1, 3) := by decide +kernel
theorem dX0_init_39 : decode cX0_init 39 = .ok (.goto (-25), 3) := by decide +kernel
theorem dX0_init_42 : decode cX0_init 42 = .ok (.return_, 1) := by decide +kernel
theorem dX0_states_0 : decode cX0_states 0 = .ok (.aload_n 0, 1) := by decide +kernel
theorem dX0_states_1 : decode cX0_states 1 = .ok (.getfield 18, 3) := by decide +kernel
theorem dX0_states_4 : decode cX0_states 4 = .ok (.ireturn, 1) := by decide +kernel
theorem dX0_keep_0 : decode cX0_keep 0 = .ok (.aload_n 0, 1) := by decide +kernel
theorem dX0_keep_1 : decode cX0_keep 1 = .ok (.getfield 18, 3) := by decide +kernel
theorem dX0_keep_4 : decode cX0_keep 4 = .ok (.aload_n 0, 1) := by decide +kernel
theorem dX0_keep_5 : decode cX0_keep 5 = .ok (.getfield 11, 3) := by decide +kernel
theorem dX0_keep_8 : decode cX0_keep 8 = .ok (.arraylength, 1) := by decide +kernel
theorem dX0_keep_9 : decode cX0_keep 9 = .ok (.if_icmp .lt 7, 3) := by decide +kernel
theorem dX0_keep_12 : decode cX0_keep 12 = .ok (.aload_n 0, 1) := by decide +kernel
theorem dX0_keep_13 : decode cX0_keep 13 = .ok (.invokevirtual 22, 3) := by decide +kernel
theorem dX0_keep_16 : decode cX0_keep 16 = .ok (.aload_n 0, 1) := by decide +kernel
theorem dX0_keep_17 : decode cX0_keep 17 = .ok (.getfield 18, 3) := by decide +kernel
theorem dX0_keep_20 : decode cX0_keep 20 = .ok (.ifCond .lt 38, 3) := by decide +kernel
theorem dX0_keep_23 : decode cX0_keep 23 = .ok (.aload_n 0, 1) := by decide +kernel
theorem dX0_keep_24 : decode cX0_keep 24 = .ok (.getfield 18, 3) := by decide +kernel
theorem dX0_keep_27 : decode cX0_keep 27 = .ok (.aload_n 0, 1) := by decide +kernel
theorem dX0_keep_28 : decode cX0_keep 28 = .ok (.getfield 11, 3) := by decide +kernel
theorem dX0_keep_31 : decode cX0_keep 31 = .ok (.arraylength, 1) := by decide +kernel
theorem dX0_keep_32 : decode cX0_keep 32 = .ok (.if_icmp .ge 26, 3) := by decide +kernel
theorem dX0_keep_35 : decode cX0_keep 35 = .ok (.aload_n 0, 1) := by decide +kernel
theorem dX0_keep_36 : decode cX0_keep 36 = .ok (.getfield 11, 3) := by decide +kernel
theorem dX0_keep_39 : decode cX0_keep 39 = .ok (.aload_n 0, 1) := by decide +kernel
theorem dX0_keep_40 : decode cX0_keep 40 = .ok (.getfield 18, 3) := by decide +kernel
theorem dX0_keep_43 : decode cX0_keep 43 = .ok (.aaload, 1) := by decide +kernel
theorem dX0_keep_44 : decode cX0_keep 44 = .ok (.aload_n 1, 1) := by decide +kernel
theorem dX0_keep_45 : decode cX0_keep 45 = .ok (.invokevirtual 25, 3) := by decide +kernel
theorem dX0_keep_48 : decode cX0_keep 48 = .ok (.aload_n 0, 1) := by decide +kernel
theorem dX0_keep_49 : decode cX0_keep 49 = .ok (.dup, 1) := by decide +kernel
theorem dX0_keep_50 : decode cX0_keep 50 = .ok (.getfield 18, 3) := by decide +kernel
theorem dX0_keep_53 : decode cX0_keep 53 = .ok (.iconst 1, 1) := by decide +kernel
theorem dX0_keep_54 : decode cX0_keep 54 = .ok (.iadd, 1) := by decide +kernel
theorem dX0_keep_55 : decode cX0_keep 55 = .ok (.putfield 18, 3) := by decide +kernel
theorem dX0_keep_58 : decode cX0_keep 58 = .ok (.return_, 1) := by decide +kernel
theorem dX0_dropOldest_0 : decode cX0_dropOldest 0 = .ok (.iconst 1, 1) := by decide +kernel
theorem dX0_dropOldest_1 : decode cX0_dropOldest 1 = .ok (.istore_n 1, 1) := by decide +kernel
theorem dX0_dropOldest_2 : decode cX0_dropOldest 2 = .ok (.iload_n 1, 1) := by decide +kernel
theorem dX0_dropOldest_3 : decode cX0_dropOldest 3 = .ok (.aload_n 0, 1) := by decide +kernel
theorem dX0_dropOldest_4 : decode cX0_dropOldest 4 = .ok (.getfield 11, 3) := by decide +kernel
theorem dX0_dropOldest_7 : decode cX0_dropOldest 7 = .ok (.arraylength, 1) := by decide +kernel
theorem dX0_dropOldest_8 : decode cX0_dropOldest 8 = .ok (.if_icmp .ge 39, 3) := by decide +kernel
theorem dX0_dropOldest_11 : decode cX0_dropOldest 11 = .ok (.aload_n 0, 1) := by decide +kernel
theorem dX0_dropOldest_12 : decode cX0_dropOldest 12 = .ok (.getfield 11, 3) := by decide +kernel
theorem dX0_dropOldest_15 : decode cX0_dropOldest 15 = .ok (.iload_n 1, 1) := by decide +kernel
theorem dX0_dropOldest_16 : decode cX0_dropOldest 16 = .ok (.iconst 1, 1) := by decide +kernel
theorem dX0_dropOldest_17 : decode cX0_dropOldest 17 = .ok (.isub, 1) := by decide +kernel
theorem dX0_dropOldest_18 : decode cX0_dropOldest 18 = .ok (.aaload, 1) := by decide +kernel
theorem dX0_dropOldest_19 : decode cX0_dropOldest 19 = .ok (.astore_n 2, 1) := by decide +kernel
theorem dX0_dropOldest_20 : decode cX0_dropOldest 20 = .ok (.aload_n 0, 1) := by decide +kernel
theorem dX0_dropOldest_21 : decode cX0_dropOldest 21 = .ok (.getfield 11, 3) := by decide +kernel
theorem dX0_dropOldest_24 : decode cX0_dropOldest 24 = .ok (.iload_n 1, 1) := by decide +kernel
theorem dX0_dropOldest_25 : decode cX0_dropOldest 25 = .ok (.iconst 1, 1) := by decide +kernel
theorem dX0_dropOldest_26 : decode cX0_dropOldest 26 = .ok (.isub, 1) := by decide +kernel
theorem dX0_dropOldest_27 : decode cX0_dropOldest 27 = .ok (.aload_n 0, 1) := by decide +kernel
theorem dX0_dropOldest_28 : decode cX0_dropOldest 28 = .ok (.getfield 11, 3) := by decide +kernel
theorem dX0_dropOldest_31 : decode cX0_dropOldest 31 = .ok (.iload_n 1, 1) := by decide +kernel
theorem dX0_dropOldest_32 : decode cX0_dropOldest 32 = .ok (.aaload, 1) := by decide +kernel
theorem dX0_dropOldest_33 : decode cX0_dropOldest 33 = .ok (.aastore, 1) := by decide +kernel
theorem dX0_dropOldest_34 : decode cX0_dropOldest 34 = .ok (.aload_n 0, 1) := by decide +kernel
theorem dX0_dropOldest_35 : decode cX0_dropOldest 35 = .ok (.getfield 11, 3) := by decide +kernel
theorem dX0_dropOldest_38 : decode cX0_dropOldest 38 = .ok (.iload_n 1, 1) := by decide +kernel
theorem dX0_dropOldest_39 : decode cX0_dropOldest 39 = .ok (.aload_n 2, 1) := by decide +kernel
theorem dX0_dropOldest_40 : decode cX0_dropOldest 40 = .ok (.aastore, 1) := by decide +kernel
theorem dX0_dropOldest_41 : decode cX0_dropOldest 41 = .ok (.iinc 1 1, 3) := by decide +kernel
theorem dX0_dropOldest_44 : decode cX0_dropOldest 44 = .ok (.goto (-42), 3) := by decide +kernel
theorem dX0_dropOldest_47 : decode cX0_dropOldest 47 = .ok (.aload_n 0, 1) := by decide +kernel
theorem dX0_dropOldest_48 : decode cX0_dropOldest 48 = .ok (.dup, 1) := by decide +kernel
theorem dX0_dropOldest_49 : decode cX0_dropOldest 49 = .ok (.getfield 18, 3) := by decide +kernel
theorem dX0_dropOldest_52 : decode cX0_dropOldest 52 = .ok (.iconst 1, 1) := by decide +kernel
theorem dX0_dropOldest_53 : decode cX0_dropOldest 53 = .ok (.isub, 1) := by decide +kernel
theorem dX0_dropOldest_54 : decode cX0_dropOldest 54 = .ok (.putfield 18, 3) := by decide +kernel
theorem dX0_dropOldest_57 : decode cX0_dropOldest 57 = .ok (.return_, 1) := by decide +kernel
theorem dX0_restore_0 : decode cX0_restore 0 = .ok (.aload_n 0, 1) := by decide +kernel
theorem dX0_restore_1 : decode cX0_restore 1 = .ok (.getfield 18, 3) := by decide +kernel
theorem dX0_restore_4 : decode cX0_restore 4 = .ok (.ifCond .le 38, 3) := by decide +kernel
theorem dX0_restore_7 : decode cX0_restore 7 = .ok (.aload_n 0, 1) := by decide +kernel
theorem dX0_restore_8 : decode cX0_restore 8 = .ok (.getfield 18, 3) := by decide +kernel
theorem dX0_restore_11 : decode cX0_restore 11 = .ok (.aload_n 0, 1) := by decide +kernel
theorem dX0_restore_12 : decode cX0_restore 12 = .ok (.getfield 11, 3) := by decide +kernel
theorem dX0_restore_15 : decode cX0_restore 15 = .ok (.arraylength, 1) := by decide +kernel
theorem dX0_restore_16 : decode cX0_restore 16 = .ok (.if_icmp .gt 26, 3) := by decide +kernel
theorem dX0_restore_19 : decode cX0_restore 19 = .ok (.aload_n 0, 1) := by decide +kernel
theorem dX0_restore_20 : decode cX0_restore 20 = .ok (.dup, 1) := by decide +kernel
theorem dX0_restore_21 : decode cX0_restore 21 = .ok (.getfield 18, 3) := by decide +kernel
theorem dX0_restore_24 : decode cX0_restore 24 = .ok (.iconst 1, 1) := by decide +kernel
theorem dX0_restore_25 : decode cX0_restore 25 = .ok (.isub, 1) := by decide +kernel
theorem dX0_restore_26 : decode cX0_restore 26 = .ok (.putfield 18, 3) := by decide +kernel
theorem dX0_restore_29 : decode cX0_restore 29 = .ok (.aload_n 1, 1) := by decide +kernel
theorem dX0_restore_30 : decode cX0_restore 30 = .ok (.aload_n 0, 1) := by decide +kernel
theorem dX0_restore_31 : decode cX0_restore 31 = .ok (.getfield 11, 3) := by decide +kernel
theorem dX0_restore_34 : decode cX0_restore 34 = .ok (.aload_n 0, 1) := by decide +kernel
theorem dX0_restore_35 : decode cX0_restore 35 = .ok (.getfield 18, 3) := by decide +kernel
theorem dX0_restore_38 : decode cX0_restore 38 = .ok (.aaload, 1) := by decide +kernel
theorem dX0_restore_39 : decode cX0_restore 39 = .ok (.invokevirtual 25, 3) := by decide +kernel
theorem dX0_restore_42 : decode cX0_restore 42 = .ok (.return_, 1) := by decide +kernel
theorem dX1_init_0 : decode cX1_init 0 = .ok (.aload_n 0, 1) := by decide +kernel
theorem dX1_init_1 : decode cX1_init 1 = .ok (.invokespecial 3, 3) := by decide +kernel
theorem dX1_init_4 : decode cX1_init 4 = .ok (.aload_n 0, 1) := by decide +kernel
theorem dX1_init_5 : decode cX1_init 5 = .ok (.sipush 144, 3) := by decide +kernel
theorem dX1_init_8 : decode cX1_init 8 = .ok (.newarray .int, 2) := by decide +kernel
theorem dX1_init_10 : decode cX1_init 10 = .ok (.putfield 9, 3) := by decide +kernel
theorem dX1_init_13 : decode cX1_init 13 = .ok (.aload_n 0, 1) := by decide +kernel
theorem dX1_init_14 : decode cX1_init 14 = .ok (.bipush 8, 2) := by decide +kernel
theorem dX1_init_16 : decode cX1_init 16 = .ok (.newarray .int, 2) := by decide +kernel
theorem dX1_init_18 : decode cX1_init 18 = .ok (.putfield 15, 3) := by decide +kernel
theorem dX1_init_21 : decode cX1_init 21 = .ok (.aload_n 0, 1) := by decide +kernel
theorem dX1_init_22 : decode cX1_init 22 = .ok (.iconst 1, 1) := by decide +kernel
theorem dX1_init_23 : decode cX1_init 23 = .ok (.putfield 18, 3) := by decide +kernel
theorem dX1_init_26 : decode cX1_init 26 = .ok (.aload_n 0, 1) := by decide +kernel
theorem dX1_init_27 : decode cX1_init 27 = .ok (.iconst 0, 1) := by decide +kernel
theorem dX1_init_28 : decode cX1_init 28 = .ok (.putfield 22, 3) := by decide +kernel
theorem dX1_init_31 : decode cX1_init 31 = .ok (.aload_n 0, 1) := by decide +kernel
theorem dX1_init_32 : decode cX1_init 32 = .ok (.bipush 6, 2) := by decide +kernel
theorem dX1_init_34 : decode cX1_init 34 = .ok (.iconst 4, 1) := by decide +kernel
theorem dX1_init_35 : decode cX1_init 35 = .ok (.invokevirtual 25, 3) := by decide +kernel
theorem dX1_init_38 : decode cX1_init 38 = .ok (.return_, 1) := by decide +kernel
theorem dX1_begin_0 : decode cX1_begin 0 = .ok (.aload_n 0, 1) := by decide +kernel
theorem dX1_begin_1 : decode cX1_begin 1 = .ok (.iload_n 1, 1) := by decide +kernel
theorem dX1_begin_2 : decode cX1_begin 2 = .ok (.putfield 29, 3) := by decide +kernel
theorem dX1_begin_5 : decode cX1_begin 5 = .ok (.aload_n 0, 1) := by decide +kernel
theorem dX1_begin_6 : decode cX1_begin 6 = .ok (.iload_n 2, 1) := by decide +kernel
theorem dX1_begin_7 : decode cX1_begin 7 = .ok (.putfield 32, 3) := by decide +kernel
theorem dX1_begin_10 : decode cX1_begin 10 = .ok (.aload_n 0, 1) := by decide +kernel
theorem dX1_begin_11 : decode cX1_begin 11 = .ok (.getfield 9, 3) := by decide +kernel
theorem dX1_begin_14 : decode cX1_begin 14 = .ok (.bipush 50, 2) := by decide +kernel
theorem dX1_begin_16 : decode cX1_begin 16 = .ok (.invokestatic 35, 3) := by decide +kernel
theorem dX1_begin_19 : decode cX1_begin 19 = .ok (.return_, 1) := by decide +kernel
theorem dX1_copyFrom_0 : decode cX1_copyFrom 0 = .ok (.aload_n 1, 1) := by decide +kernel
theorem dX1_copyFrom_1 : decode cX1_copyFrom 1 = .ok (.getfield 9, 3) := by decide +kernel
theorem dX1_copyFrom_4 : decode cX1_copyFrom 4 = .ok (.iconst 0, 1) := by decide +kernel
theorem dX1_copyFrom_5 : decode cX1_copyFrom 5 = .ok (.aload_n 0, 1) := by decide +kernel
theorem dX1_copyFrom_6 : decode cX1_copyFrom 6 = .ok (.getfield 9, 3) := by decide +kernel
theorem dX1_copyFrom_9 : decode cX1_copyFrom 9 = .ok (.iconst 0, 1) := by decide +kernel
theorem dX1_copyFrom_10 : decode cX1_copyFrom 10 = .ok (.aload_n 0, 1) := by decide +kernel
theorem dX1_copyFrom_11 : decode cX1_copyFrom 11 = .ok (.getfield 9, 3) := by decide +kernel
theorem dX1_copyFrom_14 : decode cX1_copyFrom 14 = .ok (.arraylength, 1) := by decide +kernel
theorem dX1_copyFrom_15 : decode cX1_copyFrom 15 = .ok (.invokestatic 41, 3) := by decide +kernel
theorem dX1_copyFrom_18 : decode cX1_copyFrom 18 = .ok (.aload_n 1, 1) := by decide +kernel
theorem dX1_copyFrom_19 : decode cX1_copyFrom 19 = .ok (.getfield 15, 3) := by decide +kernel
theorem dX1_copyFrom_22 : decode cX1_copyFrom 22 = .ok (.iconst 0, 1) := by decide +kernel
theorem dX1_copyFrom_23 : decode cX1_copyFrom 23 = .ok (.aload_n 0, 1) := by decide +kernel
theorem dX1_copyFrom_24 : decode cX1_copyFrom 24 = .ok (.getfield 15, 3) := by decide +kernel
theorem dX1_copyFrom_27 : decode cX1_copyFrom 27 = .ok (.iconst 0, 1) := by decide +kernel
theorem dX1_copyFrom_28 : decode cX1_copyFrom 28 = .ok (.aload_n 0, 1) := by decide +kernel
theorem dX1_copyFrom_29 : decode cX1_copyFrom 29 = .ok (.getfield 15, 3) := by decide +kernel
theorem dX1_copyFrom_32 : decode cX1_copyFrom 32 = .ok (.arraylength, 1) := by decide +kernel
theorem dX1_copyFrom_33 : decode cX1_copyFrom 33 = .ok (.invokestatic 41, 3) := by decide +kernel
theorem dX1_copyFrom_36 : decode cX1_copyFrom 36 = .ok (.aload_n 0, 1) := by decide +kernel
theorem dX1_copyFrom_37 : decode cX1_copyFrom 37 = .ok (.aload_n 1, 1) := by decide +kernel
theorem dX1_copyFrom_38 : decode cX1_copyFrom 38 = .ok (.getfield 18, 3) := by decide +kernel
theorem dX1_copyFrom_41 : decode cX1_copyFrom 41 = .ok (.putfield 18, 3) := by decide +kernel
theorem dX1_copyFrom_44 : decode cX1_copyFrom 44 = .ok (.aload_n 0, 1) := by decide +kernel
theorem dX1_copyFrom_45 : decode cX1_copyFrom 45 = .ok (.aload_n 1, 1) := by decide +kernel
theorem dX1_copyFrom_46 : decode cX1_copyFrom 46 = .ok (.getfield 22, 3) := by decide +kernel
theorem dX1_copyFrom_49 : decode cX1_copyFrom 49 = .ok (.putfield 22, 3) := by decide +kernel
theorem dX1_copyFrom_52 : decode cX1_copyFrom 52 = .ok (.aload_n 0, 1) := by decide +kernel
theorem dX1_copyFrom_53 : decode cX1_copyFrom 53 = .ok (.aload_n 1, 1) := by decide +kernel
theorem dX1_copyFrom_54 : decode cX1_copyFrom 54 = .ok (.getfield 29, 3) := by decide +kernel
theorem dX1_copyFrom_57 : decode cX1_copyFrom 57 = .ok (.putfield 29, 3) := by decide +kernel
theorem dX1_copyFrom_60 : decode cX1_copyFrom 60 = .ok (.aload_n 0, 1) := by decide +kernel
theorem dX1_copyFrom_61 : decode cX1_copyFrom 61 = .ok (.aload_n 1, 1) := by decide +kernel
theorem dX1_copyFrom_62 : decode cX1_copyFrom 62 = .ok (.getfield 32, 3) := by decide +kernel
theorem dX1_copyFrom_65 : decode cX1_copyFrom 65 = .ok (.putfield 32, 3) := by decide +kernel
theorem dX1_copyFrom_68 : decode cX1_copyFrom 68 = .ok (.return_, 1) := by decide +kernel
theorem dX1_takePattern_0 : decode cX1_takePattern 0 = .ok (.aload_n 0, 1) := by decide +kernel
theorem dX1_takePattern_1 : decode cX1_takePattern 1 = .ok (.aload_n 1, 1) := by decide +kernel
theorem dX1_takePattern_2 : decode cX1_takePattern 2 = .ok (.aload_n 0, 1) := by decide +kernel
theorem dX1_takePattern_3 : decode cX1_takePattern 3 = .ok (.getfield 15, 3) := by decide +kernel
theorem dX1_takePattern_6 : decode cX1_takePattern 6 = .ok (.invokevirtual 47, 3) := by decide +kernel
theorem dX1_takePattern_9 : decode cX1_takePattern 9 = .ok (.putfield 18, 3) := by decide +kernel
theorem dX1_takePattern_12 : decode cX1_takePattern 12 = .ok (.aload_n 0, 1) := by decide +kernel
theorem dX1_takePattern_13 : decode cX1_takePattern 13 = .ok (.getfield 18, 3) := by decide +kernel
theorem dX1_takePattern_16 : decode cX1_takePattern 16 = .ok (.ireturn, 1) := by decide +kernel
theorem dX1_hasCell_0 : decode cX1_hasCell 0 = .ok (.iload_n 1, 1) := by decide +kernel
theorem dX1_hasCell_1 : decode cX1_hasCell 1 = .ok (.ifCond .lt 27, 3) := by decide +kernel
theorem dX1_hasCell_4 : decode cX1_hasCell 4 = .ok (.iload_n 1, 1) := by decide +kernel
theorem dX1_hasCell_5 : decode cX1_hasCell 5 = .ok (.aload_n 0, 1) := by decide +kernel
theorem dX1_hasCell_6 : decode cX1_hasCell 6 = .ok (.getfield 29, 3) := by decide +kernel
theorem dX1_hasCell_9 : decode cX1_hasCell 9 = .ok (.if_icmp .ge 19, 3) := by decide +kernel
theorem dX1_hasCell_12 : decode cX1_hasCell 12 = .ok (.iload_n 2, 1) := by decide +kernel
theorem dX1_hasCell_13 : decode cX1_hasCell 13 = .ok (.ifCond .lt 15, 3) := by decide +kernel
theorem dX1_hasCell_16 : decode cX1_hasCell 16 = .ok (.iload_n 2, 1) := by decide +kernel
theorem dX1_hasCell_17 : decode cX1_hasCell 17 = .ok (.aload_n 0, 1) := by decide +kernel
theorem dX1_hasCell_18 : decode cX1_hasCell 18 = .ok (.getfield 32, 3) := by decide +kernel
theorem dX1_hasCell_21 : decode cX1_hasCell 21 = .ok (.if_icmp .ge 7, 3) := by decide +kernel
theorem dX1_hasCell_24 : decode cX1_hasCell 24 = .ok (.iconst 1, 1) := by decide +kernel
theorem dX1_hasCell_25 : decode cX1_hasCell 25 = .ok (.goto 4, 3) := by decide +kernel
theorem dX1_hasCell_28 : decode cX1_hasCell 28 = .ok (.iconst 0, 1) := by decide +kernel
theorem dX1_hasCell_29 : decode cX1_hasCell 29 = .ok (.ireturn, 1) := by decide +kernel
theorem dX1_isBorder_0 : decode cX1_isBorder 0 = .ok (.iload_n 1, 1) := by decide +kernel
theorem dX1_isBorder_1 : decode cX1_isBorder 1 = .ok (.ifCond .eq 27, 3) := by decide +kernel
theorem dX1_isBorder_4 : decode cX1_isBorder 4 = .ok (.iload_n 1, 1) := by decide +kernel
theorem dX1_isBorder_5 : decode cX1_isBorder 5 = .ok (.aload_n 0, 1) := by decide +kernel
theorem dX1_isBorder_6 : decode cX1_isBorder 6 = .ok (.getfield 29, 3) := by decide +kernel
theorem dX1_isBorder_9 : decode cX1_isBorder 9 = .ok (.iconst 1, 1) := by decide +kernel
theorem dX1_isBorder_10 : decode cX1_isBorder 10 = .ok (.isub, 1) := by decide +kernel
theorem dX1_isBorder_11 : decode cX1_isBorder 11 = .ok (.if_icmp .eq 17, 3) := by decide +kernel
theorem dX1_isBorder_14 : decode cX1_isBorder 14 = .ok (.iload_n 2, 1) := by decide +kernel
theorem dX1_isBorder_15 : decode cX1_isBorder 15 = .ok (.ifCond .eq 13, 3) := by decide +kernel
theorem dX1_isBorder_18 : decode cX1_isBorder 18 = .ok (.iload_n 2, 1) := by decide +kernel
theorem dX1_isBorder_19 : decode cX1_isBorder 19 = .ok (.aload_n 0, 1) := by decide +kernel
theorem dX1_isBorder_20 : decode cX1_isBorder 20 = .ok (.getfield 32, 3) := by decide +kernel
theorem dX1_isBorder_23 : decode cX1_isBorder 23 = .ok (.iconst 1, 1) := by decide +kernel
theorem dX1_isBorder_24 : decode cX1_isBorder 24 = .ok (.isub, 1) := by decide +kernel
theorem dX1_isBorder_25 : decode cX1_isBorder 25 = .ok (.if_icmp .ne 7, 3) := by decide +kernel
theorem dX1_isBorder_28 : decode cX1_isBorder 28 = .ok (.iconst 1, 1) := by decide +kernel
theorem dX1_isBorder_29 : decode cX1_isBorder 29 = .ok (.goto 4, 3) := by decide +kernel
theorem dX1_isBorder_32 : decode cX1_isBorder 32 = .ok (.iconst 0, 1) := by decide +kernel
theorem dX1_isBorder_33 : decode cX1_isBorder 33 = .ok (.ireturn, 1) := by decide +kernel
theorem dX1_borderCells_0 : decode cX1_borderCells 0 = .ok (.iconst 2, 1) := by decide +kernel
theorem dX1_borderCells_1 : decode cX1_borderCells 1 = .ok (.aload_n 0, 1) := by decide +kernel
theorem dX1_borderCells_2 : decode cX1_borderCells 2 = .ok (.invokevirtual 53, 3) := by decide +kernel
theorem dX1_borderCells_5 : decode cX1_borderCells 5 = .ok (.imul, 1) := by decide +kernel
theorem dX1_borderCells_6 : decode cX1_borderCells 6 = .ok (.ireturn, 1) := by decide +kernel
theorem dX1_halfOfBorder_0 : decode cX1_halfOfBorder 0 = .ok (.aload_n 0, 1) := by decide +kernel
theorem dX1_halfOfBorder_1 : decode cX1_halfOfBorder 1 = .ok (.getfield 29, 3) := by decide +kernel
theorem dX1_halfOfBorder_4 : decode cX1_halfOfBorder 4 = .ok (.iconst 1, 1) := by decide +kernel
theorem dX1_halfOfBorder_5 : decode cX1_halfOfBorder 5 = .ok (.isub, 1) := by decide +kernel
theorem dX1_halfOfBorder_6 : decode cX1_halfOfBorder 6 = .ok (.aload_n 0, 1) := by decide +kernel
theorem dX1_halfOfBorder_7 : decode cX1_halfOfBorder 7 = .ok (.getfield 32, 3) := by decide +kernel
theorem dX1_halfOfBorder_10 : decode cX1_halfOfBorder 10 = .ok (.iadd, 1) := by decide +kernel
theorem dX1_halfOfBorder_11 : decode cX1_halfOfBorder 11 = .ok (.iconst 1, 1) := by decide +kernel
theorem dX1_halfOfBorder_12 : decode cX1_halfOfBorder 12 = .ok (.isub, 1) := by decide +kernel
theorem dX1_halfOfBorder_13 : decode cX1_halfOfBorder 13 = .ok (.ireturn, 1) := by decide +kernel
theorem dX1_borderNumberAt_0 : decode cX1_borderNumberAt 0 = .ok (.iload_n 2, 1) := by decide +kernel
theorem dX1_borderNumberAt_1 : decode cX1_borderNumberAt 1 = .ok (.ifCond .ne 5, 3) := by decide +kernel
theorem dX1_borderNumberAt_4 : decode cX1_borderNumberAt 4 = .ok (.iload_n 1, 1) := by decide +kernel
theorem dX1_borderNumberAt_5 : decode cX1_borderNumberAt 5 = .ok (.ireturn, 1) := by decide +kernel
theorem dX1_borderNumberAt_6 : decode cX1_borderNumberAt 6 = .ok (.iload_n 1, 1) := by decide +kernel
theorem dX1_borderNumberAt_7 : decode cX1_borderNumberAt 7 = .ok (.aload_n 0, 1) := by decide +kernel
theorem dX1_borderNumberAt_8 : decode cX1_borderNumberAt 8 = .ok (.getfield 29, 3) := by decide +kernel
theorem dX1_borderNumberAt_11 : decode cX1_borderNumberAt 11 = .ok (.iconst 1, 1) := by decide +kernel
theorem dX1_borderNumberAt_12 : decode cX1_borderNumberAt 12 = .ok (.isub, 1) := by decide +kernel
theorem dX1_borderNumberAt_13 : decode cX1_borderNumberAt 13 = .ok (.if_icmp .ne 7, 3) := by decide +kernel
theorem dX1_borderNumberAt_16 : decode cX1_borderNumberAt 16 = .ok (.iload_n 1, 1) := by decide +kernel
theorem dX1_borderNumberAt_17 : decode cX1_borderNumberAt 17 = .ok (.iload_n 2, 1) := by decide +kernel
theorem dX1_borderNumberAt_18 : decode cX1_borderNumberAt 18 = .ok (.iadd, 1) := by decide +kernel
theorem dX1_borderNumberAt_19 : decode cX1_borderNumberAt 19 = .ok (.ireturn, 1) := by decide +kernel
theorem dX1_borderNumberAt_20 : decode cX1_borderNumberAt 20 = .ok (.iload_n 2, 1) := by decide +kernel
theorem dX1_borderNumberAt_21 : decode cX1_borderNumberAt 21 = .ok (.aload_n 0, 1) := by decide +kernel
theorem dX1_borderNumberAt_22 : decode cX1_borderNumberAt 22 = .ok (.getfield 32, 3) := by decide +kernel
theorem dX1_borderNumberAt_25 : decode cX1_borderNumberAt 25 = .ok (.iconst 1, 1) := by decide +kernel
theorem dX1_borderNumberAt_26 : decode cX1_borderNumberAt 26 = .ok (.isub, 1) := by decide +kernel
theorem dX1_borderNumberAt_27 : decode cX1_borderNumberAt 27 = .ok (.if_icmp .ne 17, 3) := by decide +kernel
theorem dX1_borderNumberAt_30 : decode cX1_borderNumberAt 30 = .ok (.aload_n 0, 1) := by decide +kernel
theorem dX1_borderNumberAt_31 : decode cX1_borderNumberAt 31 = .ok (.invokevirtual 53, 3) := by decide +kernel
theorem dX1_borderNumberAt_34 : decode cX1_borderNumberAt 34 = .ok (.aload_n 0, 1) := by decide +kernel
theorem dX1_borderNumberAt_35 : decode cX1_borderNumberAt 35 = .ok (.getfield 29, 3) := by decide +kernel
theorem dX1_borderNumberAt_38 : decode cX1_borderNumberAt 38 = .ok (.iadd, 1) := by decide +kernel
theorem dX1_borderNumberAt_39 : decode cX1_borderNumberAt 39 = .ok (.iconst 1, 1) := by decide +kernel
theorem dX1_borderNumberAt_40 : decode cX1_borderNumberAt 40 = .ok (.isub, 1) := by decide +kernel
theorem dX1_borderNumberAt_41 : decode cX1_borderNumberAt 41 = .ok (.iload_n 1, 1) := by decide +kernel
theorem dX1_borderNumberAt_42 : decode cX1_borderNumberAt 42 = .ok (.isub, 1) := by decide +kernel
theorem dX1_borderNumberAt_43 : decode cX1_borderNumberAt 43 = .ok (.ireturn, 1) := by decide +kernel
theorem dX1_borderNumberAt_44 : decode cX1_borderNumberAt 44 = .ok (.iconst 2, 1) := by decide +kernel
theorem dX1_borderNumberAt_45 : decode cX1_borderNumberAt 45 = .ok (.aload_n 0, 1) := by decide +kernel
theorem dX1_borderNumberAt_46 : decode cX1_borderNumberAt 46 = .ok (.invokevirtual 53, 3) := by decide +kernel
theorem dX1_borderNumberAt_49 : decode cX1_borderNumberAt 49 = .ok (.imul, 1) := by decide +kernel
theorem dX1_borderNumberAt_50 : decode cX1_borderNumberAt 50 = .ok (.iload_n 2, 1) := by decide +kernel
theorem dX1_borderNumberAt_51 : decode cX1_borderNumberAt 51 = .ok (.isub, 1) := by decide +kernel
theorem dX1_borderNumberAt_52 : decode cX1_borderNumberAt 52 = .ok (.ireturn, 1) := by decide +kernel
theorem dX1_columnOf_0 : decode cX1_columnOf 0 = .ok (.iload_n 1, 1) := by decide +kernel
theorem dX1_columnOf_1 : decode cX1_columnOf 1 = .ok (.aload_n 0, 1) := by decide +kernel
theorem dX1_columnOf_2 : decode cX1_columnOf 2 = .ok (.invokevirtual 53, 3) := by decide +kernel
theorem dX1_columnOf_5 : decode cX1_columnOf 5 = .ok (.if_icmp .ge 14, 3) := by decide +kernel
theorem dX1_columnOf_8 : decode cX1_columnOf 8 = .ok (.iload_n 1, 1) := by decide +kernel
theorem dX1_columnOf_9 : decode cX1_columnOf 9 = .ok (.aload_n 0, 1) := by decide +kernel
theorem dX1_columnOf_10 : decode cX1_columnOf 10 = .ok (.getfield 29, 3) := by decide +kernel
theorem dX1_columnOf_13 : decode cX1_columnOf 13 = .ok (.iconst 1, 1) := by decide +kernel
theorem dX1_columnOf_14 : decode cX1_columnOf 14 = .ok (.isub, 1) := by decide +kernel
theorem dX1_columnOf_15 : decode cX1_columnOf 15 = .ok (.invokestatic 57, 3) := by decide +kernel
theorem dX1_columnOf_18 : decode cX1_columnOf 18 = .ok (.ireturn, 1) := by decide +kernel
theorem dX1_columnOf_19 : decode cX1_columnOf 19 = .ok (.aload_n 0, 1) := by decide +kernel
theorem dX1_columnOf_20 : decode cX1_columnOf 20 = .ok (.getfield 29, 3) := by decide +kernel
theorem dX1_columnOf_23 : decode cX1_columnOf 23 = .ok (.iconst 1, 1) := by decide +kernel
theorem dX1_columnOf_24 : decode cX1_columnOf 24 = .ok (.isub, 1) := by decide +kernel
theorem dX1_columnOf_25 : decode cX1_columnOf 25 = .ok (.iload_n 1, 1) := by decide +kernel
theorem dX1_columnOf_26 : decode cX1_columnOf 26 = .ok (.aload_n 0, 1) := by decide +kernel
theorem dX1_columnOf_27 : decode cX1_columnOf 27 = .ok (.invokevirtual 53, 3) := by decide +kernel
theorem dX1_columnOf_30 : decode cX1_columnOf 30 = .ok (.isub, 1) := by decide +kernel
theorem dX1_columnOf_31 : decode cX1_columnOf 31 = .ok (.isub, 1) := by decide +kernel
theorem dX1_columnOf_32 : decode cX1_columnOf 32 = .ok (.iconst 0, 1) := by decide +kernel
theorem dX1_columnOf_33 : decode cX1_columnOf 33 = .ok (.invokestatic 63, 3) := by decide +kernel
theorem dX1_columnOf_36 : decode cX1_columnOf 36 = .ok (.ireturn, 1) := by decide +kernel
theorem dX1_rowOf_0 : decode cX1_rowOf 0 = .ok (.iload_n 1, 1) := by decide +kernel
theorem dX1_rowOf_1 : decode cX1_rowOf 1 = .ok (.aload_n 0, 1) := by decide +kernel
theorem dX1_rowOf_2 : decode cX1_rowOf 2 = .ok (.invokevirtual 53, 3) := by decide +kernel
theorem dX1_rowOf_5 : decode cX1_rowOf 5 = .ok (.if_icmp .ge 16, 3) := by decide +kernel
theorem dX1_rowOf_8 : decode cX1_rowOf 8 = .ok (.iload_n 1, 1) := by decide +kernel
theorem dX1_rowOf_9 : decode cX1_rowOf 9 = .ok (.aload_n 0, 1) := by decide +kernel
theorem dX1_rowOf_10 : decode cX1_rowOf 10 = .ok (.getfield 29, 3) := by decide +kernel
theorem dX1_rowOf_13 : decode cX1_rowOf 13 = .ok (.iconst 1, 1) := by decide +kernel
theorem dX1_rowOf_14 : decode cX1_rowOf 14 = .ok (.isub, 1) := by decide +kernel
theorem dX1_rowOf_15 : decode cX1_rowOf 15 = .ok (.isub, 1) := by decide +kernel
theorem dX1_rowOf_16 : decode cX1_rowOf 16 = .ok (.iconst 0, 1) := by decide +kernel
theorem dX1_rowOf_17 : decode cX1_rowOf 17 = .ok (.invokestatic 63, 3) := by decide +kernel
theorem dX1_rowOf_20 : decode cX1_rowOf 20 = .ok (.ireturn, 1) := by decide +kernel
theorem dX1_rowOf_21 : decode cX1_rowOf 21 = .ok (.aload_n 0, 1) := by decide +kernel
theorem dX1_rowOf_22 : decode cX1_rowOf 22 = .ok (.invokevirtual 66, 3) := by decide +kernel
theorem dX1_rowOf_25 : decode cX1_rowOf 25 = .ok (.iload_n 1, 1) := by decide +kernel
theorem dX1_rowOf_26 : decode cX1_rowOf 26 = .ok (.isub, 1) := by decide +kernel
theorem dX1_rowOf_27 : decode cX1_rowOf 27 = .ok (.aload_n 0, 1) := by decide +kernel
theorem dX1_rowOf_28 : decode cX1_rowOf 28 = .ok (.getfield 32, 3) := by decide +kernel
theorem dX1_rowOf_31 : decode cX1_rowOf 31 = .ok (.iconst 1, 1) := by decide +kernel
theorem dX1_rowOf_32 : decode cX1_rowOf 32 = .ok (.isub, 1) := by decide +kernel
theorem dX1_rowOf_33 : decode cX1_rowOf 33 = .ok (.invokestatic 57, 3) := by decide +kernel
theorem dX1_rowOf_36 : decode cX1_rowOf 36 = .ok (.ireturn, 1) := by decide +kernel
theorem dX1_wantedAt_0 : decode cX1_wantedAt 0 = .ok (.aload_n 0, 1) := by decide +kernel
theorem dX1_wantedAt_1 : decode cX1_wantedAt 1 = .ok (.iload_n 1, 1) := by decide +kernel
theorem dX1_wantedAt_2 : decode cX1_wantedAt 2 = .ok (.iload_n 2, 1) := by decide +kernel
theorem dX1_wantedAt_3 : decode cX1_wantedAt 3 = .ok (.invokevirtual 69, 3) := by decide +kernel
theorem dX1_wantedAt_6 : decode cX1_wantedAt 6 = .ok (.ifCond .ne 5, 3) := by decide +kernel
theorem dX1_wantedAt_9 : decode cX1_wantedAt 9 = .ok (.iconst (-1), 1) := by decide +kernel
theorem dX1_wantedAt_10 : decode cX1_wantedAt 10 = .ok (.ireturn, 1) := by decide +kernel
theorem dX1_wantedAt_11 : decode cX1_wantedAt 11 = .ok (.aload_n 0, 1) := by decide +kernel
theorem dX1_wantedAt_12 : decode cX1_wantedAt 12 = .ok (.iload_n 1, 1) := by decide +kernel
theorem dX1_wantedAt_13 : decode cX1_wantedAt 13 = .ok (.iload_n 2, 1) := by decide +kernel
theorem dX1_wantedAt_14 : decode cX1_wantedAt 14 = .ok (.invokevirtual 73, 3) := by decide +kernel
theorem dX1_wantedAt_17 : decode cX1_wantedAt 17 = .ok (.ifCond .eq 16, 3) := by decide +kernel
theorem dX1_wantedAt_20 : decode cX1_wantedAt 20 = .ok (.aload_n 0, 1) := by decide +kernel
theorem dX1_wantedAt_21 : decode cX1_wantedAt 21 = .ok (.aload_n 0, 1) := by decide +kernel
theorem dX1_wantedAt_22 : decode cX1_wantedAt 22 = .ok (.iload_n 1, 1) := by decide +kernel
theorem dX1_wantedAt_23 : decode cX1_wantedAt 23 = .ok (.iload_n 2, 1) := by decide +kernel
theorem dX1_wantedAt_24 : decode cX1_wantedAt 24 = .ok (.invokevirtual 76, 3) := by decide +kernel
theorem dX1_wantedAt_27 : decode cX1_wantedAt 27 = .ok (.invokevirtual 79, 3) := by decide +kernel
theorem dX1_wantedAt_30 : decode cX1_wantedAt 30 = .ok (.goto 14, 3) := by decide +kernel
theorem dX1_wantedAt_33 : decode cX1_wantedAt 33 = .ok (.aload_n 0, 1) := by decide +kernel
theorem dX1_wantedAt_34 : decode cX1_wantedAt 34 = .ok (.getfield 9, 3) := by decide +kernel
theorem dX1_wantedAt_37 : decode cX1_wantedAt 37 = .ok (.iload_n 2, 1) := by decide +kernel
theorem dX1_wantedAt_38 : decode cX1_wantedAt 38 = .ok (.bipush 12, 2) := by decide +kernel
theorem dX1_wantedAt_40 : decode cX1_wantedAt 40 = .ok (.imul, 1) := by decide +kernel
theorem dX1_wantedAt_41 : decode cX1_wantedAt 41 = .ok (.iload_n 1, 1) := by decide +kernel
theorem dX1_wantedAt_42 : decode cX1_wantedAt 42 = .ok (.iadd, 1) := by decide +kernel
theorem dX1_wantedAt_43 : decode cX1_wantedAt 43 = .ok (.iaload, 1) := by decide +kernel
theorem dX1_wantedAt_44 : decode cX1_wantedAt 44 = .ok (.ireturn, 1) := by decide +kernel
theorem dX1_wantInField_0 : decode cX1_wantInField 0 = .ok (.aload_n 0, 1) := by decide +kernel
theorem dX1_wantInField_1 : decode cX1_wantInField 1 = .ok (.iload_n 1, 1) := by decide +kernel
theorem dX1_wantInField_2 : decode cX1_wantInField 2 = .ok (.iload_n 2, 1) := by decide +kernel
theorem dX1_wantInField_3 : decode cX1_wantInField 3 = .ok (.invokevirtual 69, 3) := by decide +kernel
theorem dX1_wantInField_6 : decode cX1_wantInField 6 = .ok (.ifCond .eq 15, 3) := by decide +kernel
theorem dX1_wantInField_9 : decode cX1_wantInField 9 = .ok (.aload_n 0, 1) := by decide +kernel
theorem dX1_wantInField_10 : decode cX1_wantInField 10 = .ok (.getfield 9, 3) := by decide +kernel
theorem dX1_wantInField_13 : decode cX1_wantInField 13 = .ok (.iload_n 2, 1) := by decide +kernel
theorem dX1_wantInField_14 : decode cX1_wantInField 14 = .ok (.bipush 12, 2) := by decide +kernel
theorem dX1_wantInField_16 : decode cX1_wantInField 16 = .ok (.imul, 1) := by decide +kernel
theorem dX1_wantInField_17 : decode cX1_wantInField 17 = .ok (.iload_n 1, 1) := by decide +kernel
theorem dX1_wantInField_18 : decode cX1_wantInField 18 = .ok (.iadd, 1) := by decide +kernel
theorem dX1_wantInField_19 : decode cX1_wantInField 19 = .ok (.iload_n 3, 1) := by decide +kernel
theorem dX1_wantInField_20 : decode cX1_wantInField 20 = .ok (.iastore, 1) := by decide +kernel
theorem dX1_wantInField_21 : decode cX1_wantInField 21 = .ok (.return_, 1) := by decide +kernel
theorem dX1_wantedInBorder_0 : decode cX1_wantedInBorder 0 = .ok (.iload_n 1, 1) := by decide +kernel
theorem dX1_wantedInBorder_1 : decode cX1_wantedInBorder 1 = .ok (.aload_n 0, 1) := by decide +kernel
theorem dX1_wantedInBorder_2 : decode cX1_wantedInBorder 2 = .ok (.invokevirtual 53, 3) := by decide +kernel
theorem dX1_wantedInBorder_5 : decode cX1_wantedInBorder 5 = .ok (.if_icmp .ge 7, 3) := by decide +kernel
theorem dX1_wantedInBorder_8 : decode cX1_wantedInBorder 8 = .ok (.iload_n 1, 1) := by decide +kernel
theorem dX1_wantedInBorder_9 : decode cX1_wantedInBorder 9 = .ok (.goto 9, 3) := by decide +kernel
theorem dX1_wantedInBorder_12 : decode cX1_wantedInBorder 12 = .ok (.iload_n 1, 1) := by decide +kernel
theorem dX1_wantedInBorder_13 : decode cX1_wantedInBorder 13 = .ok (.aload_n 0, 1) := by decide +kernel
theorem dX1_wantedInBorder_14 : decode cX1_wantedInBorder 14 = .ok (.invokevirtual 53, 3) := by decide +kernel
theorem dX1_wantedInBorder_17 : decode cX1_wantedInBorder 17 = .ok (.isub, 1) := by decide +kernel
theorem dX1_wantedInBorder_18 : decode cX1_wantedInBorder 18 = .ok (.istore_n 2, 1) := by decide +kernel
theorem dX1_wantedInBorder_19 : decode cX1_wantedInBorder 19 = .ok (.iload_n 2, 1) := by decide +kernel
theorem dX1_wantedInBorder_20 : decode cX1_wantedInBorder 20 = .ok (.aload_n 0, 1) := by decide +kernel
theorem dX1_wantedInBorder_21 : decode cX1_wantedInBorder 21 = .ok (.getfield 29, 3) := by decide +kernel
theorem dX1_wantedInBorder_24 : decode cX1_wantedInBorder 24 = .ok (.iconst 1, 1) := by decide +kernel
theorem dX1_wantedInBorder_25 : decode cX1_wantedInBorder 25 = .ok (.isub, 1) := by decide +kernel
theorem dX1_wantedInBorder_26 : decode cX1_wantedInBorder 26 = .ok (.if_icmp .ge 7, 3) := by decide +kernel
theorem dX1_wantedInBorder_29 : decode cX1_wantedInBorder 29 = .ok (.iconst 1, 1) := by decide +kernel
theorem dX1_wantedInBorder_30 : decode cX1_wantedInBorder 30 = .ok (.goto 4, 3) := by decide +kernel
theorem dX1_wantedInBorder_33 : decode cX1_wantedInBorder 33 = .ok (.iconst 0, 1) := by decide +kernel
theorem dX1_wantedInBorder_34 : decode cX1_wantedInBorder 34 = .ok (.istore_n 3, 1) := by decide +kernel
theorem dX1_wantedInBorder_35 : decode cX1_wantedInBorder 35 = .ok (.iload_n 3, 1) := by decide +kernel
theorem dX1_wantedInBorder_36 : decode cX1_wantedInBorder 36 = .ok (.ifCond .eq 12, 3) := by decide +kernel
theorem dX1_wantedInBorder_39 : decode cX1_wantedInBorder 39 = .ok (.aload_n 0, 1) := by decide +kernel
theorem dX1_wantedInBorder_40 : decode cX1_wantedInBorder 40 = .ok (.getfield 29, 3) := by decide +kernel
theorem dX1_wantedInBorder_43 : decode cX1_wantedInBorder 43 = .ok (.iconst 1, 1) := by decide +kernel
theorem dX1_wantedInBorder_44 : decode cX1_wantedInBorder 44 = .ok (.isub, 1) := by decide +kernel
theorem dX1_wantedInBorder_45 : decode cX1_wantedInBorder 45 = .ok (.goto 9, 3) := by decide +kernel
theorem dX1_wantedInBorder_48 : decode cX1_wantedInBorder 48 = .ok (.aload_n 0, 1) := by decide +kernel
theorem dX1_wantedInBorder_49 : decode cX1_wantedInBorder 49 = .ok (.getfield 32, 3) := by decide +kernel
theorem dX1_wantedInBorder_52 : decode cX1_wantedInBorder 52 = .ok (.iconst 1, 1) := by decide +kernel
theorem dX1_wantedInBorder_53 : decode cX1_wantedInBorder 53 = .ok (.isub, 1) := by decide +kernel
theorem dX1_wantedInBorder_54 : decode cX1_wantedInBorder 54 = .ok (.istore 4, 2) := by decide +kernel
theorem dX1_wantedInBorder_56 : decode cX1_wantedInBorder 56 = .ok (.iload_n 3, 1) := by decide +kernel
theorem dX1_wantedInBorder_57 : decode cX1_wantedInBorder 57 = .ok (.ifCond .eq 7, 3) := by decide +kernel
theorem dX1_wantedInBorder_60 : decode cX1_wantedInBorder 60 = .ok (.iload_n 2, 1) := by decide +kernel
theorem dX1_wantedInBorder_61 : decode cX1_wantedInBorder 61 = .ok (.goto 11, 3) := by decide +kernel
theorem dX1_wantedInBorder_64 : decode cX1_wantedInBorder 64 = .ok (.iload_n 2, 1) := by decide +kernel
theorem dX1_wantedInBorder_65 : decode cX1_wantedInBorder 65 = .ok (.aload_n 0, 1) := by decide +kernel
theorem dX1_wantedInBorder_66 : decode cX1_wantedInBorder 66 = .ok (.getfield 29, 3) := by decide +kernel
theorem dX1_wantedInBorder_69 : decode cX1_wantedInBorder 69 = .ok (.iconst 1, 1) := by decide +kernel
theorem dX1_wantedInBorder_70 : decode cX1_wantedInBorder 70 = .ok (.isub, 1) := by decide +kernel
theorem dX1_wantedInBorder_71 : decode cX1_wantedInBorder 71 = .ok (.isub, 1) := by decide +kernel
theorem dX1_wantedInBorder_72 : decode cX1_wantedInBorder 72 = .ok (.istore 5, 2) := by decide +kernel
theorem dX1_wantedInBorder_74 : decode cX1_wantedInBorder 74 = .ok (.aload_n 0, 1) := by decide +kernel
theorem dX1_wantedInBorder_75 : decode cX1_wantedInBorder 75 = .ok (.getfield 22, 3) := by decide +kernel
theorem dX1_wantedInBorder_78 : decode cX1_wantedInBorder 78 = .ok (.lookupswitch 63 #[(1, 26), (2, 41)], 26) := by decide +kernel
theorem dX1_wantedInBorder_104 : decode cX1_wantedInBorder 104 = .ok (.aload_n 0, 1) := by decide +kernel
theorem dX1_wantedInBorder_105 : decode cX1_wantedInBorder 105 = .ok (.iload 5, 2) := by decide +kernel
theorem dX1_wantedInBorder_107 : decode cX1_wantedInBorder 107 = .ok (.iload 4, 2) := by decide +kernel
theorem dX1_wantedInBorder_109 : decode cX1_wantedInBorder 109 = .ok (.iload 5, 2) := by decide +kernel
theorem dX1_wantedInBorder_111 : decode cX1_wantedInBorder 111 = .ok (.isub, 1) := by decide +kernel
theorem dX1_wantedInBorder_112 : decode cX1_wantedInBorder 112 = .ok (.invokestatic 57, 3) := by decide +kernel
theorem dX1_wantedInBorder_115 : decode cX1_wantedInBorder 115 = .ok (.invokevirtual 83, 3) := by decide +kernel
theorem dX1_wantedInBorder_118 : decode cX1_wantedInBorder 118 = .ok (.ireturn, 1) := by decide +kernel
theorem dX1_wantedInBorder_119 : decode cX1_wantedInBorder 119 = .ok (.aload_n 0, 1) := by decide +kernel
theorem dX1_wantedInBorder_120 : decode cX1_wantedInBorder 120 = .ok (.iload 5, 2) := by decide +kernel
theorem dX1_wantedInBorder_122 : decode cX1_wantedInBorder 122 = .ok (.aload_n 0, 1) := by decide +kernel
theorem dX1_wantedInBorder_123 : decode cX1_wantedInBorder 123 = .ok (.iload 4, 2) := by decide +kernel
theorem dX1_wantedInBorder_125 : decode cX1_wantedInBorder 125 = .ok (.invokevirtual 86, 3) := by decide +kernel
theorem dX1_wantedInBorder_128 : decode cX1_wantedInBorder 128 = .ok (.if_icmp .ge 8, 3) := by decide +kernel
theorem dX1_wantedInBorder_131 : decode cX1_wantedInBorder 131 = .ok (.iload 5, 2) := by decide +kernel
theorem dX1_wantedInBorder_133 : decode cX1_wantedInBorder 133 = .ok (.goto 4, 3) := by decide +kernel
theorem dX1_wantedInBorder_136 : decode cX1_wantedInBorder 136 = .ok (.iconst 0, 1) := by decide +kernel
theorem dX1_wantedInBorder_137 : decode cX1_wantedInBorder 137 = .ok (.invokevirtual 83, 3) := by decide +kernel
theorem dX1_wantedInBorder_140 : decode cX1_wantedInBorder 140 = .ok (.ireturn, 1) := by decide +kernel
theorem dX1_wantedInBorder_141 : decode cX1_wantedInBorder 141 = .ok (.aload_n 0, 1) := by decide +kernel
theorem dX1_wantedInBorder_142 : decode cX1_wantedInBorder 142 = .ok (.iload_n 1, 1) := by decide +kernel
theorem dX1_wantedInBorder_143 : decode cX1_wantedInBorder 143 = .ok (.invokevirtual 83, 3) := by decide +kernel
theorem dX1_wantedInBorder_146 : decode cX1_wantedInBorder 146 = .ok (.ireturn, 1) := by decide +kernel
theorem dX1_cellsOfWholePatterns_0 : decode cX1_cellsOfWholePatterns 0 = .ok (.aload_n 0, 1) := by decide +kernel
theorem dX1_cellsOfWholePatterns_1 : decode cX1_cellsOfWholePatterns 1 = .ok (.getfield 18, 3) := by decide +kernel
theorem dX1_cellsOfWholePatterns_4 : decode cX1_cellsOfWholePatterns 4 = .ok (.ifCond .le 14, 3) := by decide +kernel
theorem dX1_cellsOfWholePatterns_7 : decode cX1_cellsOfWholePatterns 7 = .ok (.iload_n 1, 1) := by decide +kernel
theorem dX1_cellsOfWholePatterns_8 : decode cX1_cellsOfWholePatterns 8 = .ok (.iload_n 1, 1) := by decide +kernel
theorem dX1_cellsOfWholePatterns_9 : decode cX1_cellsOfWholePatterns 9 = .ok (.aload_n 0, 1) := by decide +kernel
theorem dX1_cellsOfWholePatterns_10 : decode cX1_cellsOfWholePatterns 10 = .ok (.getfield 18, 3) := by decide +kernel
theorem dX1_cellsOfWholePatterns_13 : decode cX1_cellsOfWholePatterns 13 = .ok (.irem, 1) := by decide +kernel
theorem dX1_cellsOfWholePatterns_14 : decode cX1_cellsOfWholePatterns 14 = .ok (.isub, 1) := by decide +kernel
theorem dX1_cellsOfWholePatterns_15 : decode cX1_cellsOfWholePatterns 15 = .ok (.goto 4, 3) := by decide +kernel
theorem dX1_cellsOfWholePatterns_18 : decode cX1_cellsOfWholePatterns 18 = .ok (.iconst 0, 1) := by decide +kernel
theorem dX1_cellsOfWholePatterns_19 : decode cX1_cellsOfWholePatterns 19 = .ok (.ireturn, 1) := by decide +kernel
theorem dX1_patternShade_0 : decode cX1_patternShade 0 = .ok (.iload_n 1, 1) := by decide +kernel
theorem dX1_patternShade_1 : decode cX1_patternShade 1 = .ok (.ifCond .lt 10, 3) := by decide +kernel
theorem dX1_patternShade_4 : decode cX1_patternShade 4 = .ok (.aload_n 0, 1) := by decide +kernel
theorem dX1_patternShade_5 : decode cX1_patternShade 5 = .ok (.getfield 18, 3) := by decide +kernel
theorem dX1_patternShade_8 : decode cX1_patternShade 8 = .ok (.ifCond .gt 5, 3) := by decide +kernel
theorem dX1_patternShade_11 : decode cX1_patternShade 11 = .ok (.iconst (-1), 1) := by decide +kernel
theorem dX1_patternShade_12 : decode cX1_patternShade 12 = .ok (.ireturn, 1) := by decide +kernel
theorem dX1_patternShade_13 : decode cX1_patternShade 13 = .ok (.iload_n 1, 1) := by decide +kernel
theorem dX1_patternShade_14 : decode cX1_patternShade 14 = .ok (.aload_n 0, 1) := by decide +kernel
theorem dX1_patternShade_15 : decode cX1_patternShade 15 = .ok (.getfield 18, 3) := by decide +kernel
theorem dX1_patternShade_18 : decode cX1_patternShade 18 = .ok (.irem, 1) := by decide +kernel
theorem dX1_patternShade_19 : decode cX1_patternShade 19 = .ok (.istore_n 2, 1) := by decide +kernel
theorem dX1_patternShade_20 : decode cX1_patternShade 20 = .ok (.iload_n 2, 1) := by decide +kernel
theorem dX1_patternShade_21 : decode cX1_patternShade 21 = .ok (.aload_n 0, 1) := by decide +kernel
theorem dX1_patternShade_22 : decode cX1_patternShade 22 = .ok (.getfield 15, 3) := by decide +kernel
theorem dX1_patternShade_25 : decode cX1_patternShade 25 = .ok (.arraylength, 1) := by decide +kernel
theorem dX1_patternShade_26 : decode cX1_patternShade 26 = .ok (.if_icmp .ge 12, 3) := by decide +kernel
theorem dX1_patternShade_29 : decode cX1_patternShade 29 = .ok (.aload_n 0, 1) := by decide +kernel
theorem dX1_patternShade_30 : decode cX1_patternShade 30 = .ok (.getfield 15, 3) := by decide +kernel
theorem dX1_patternShade_33 : decode cX1_patternShade 33 = .ok (.iload_n 2, 1) := by decide +kernel
theorem dX1_patternShade_34 : decode cX1_patternShade 34 = .ok (.iaload, 1) := by decide +kernel
theorem dX1_patternShade_35 : decode cX1_patternShade 35 = .ok (.goto 4, 3) := by decide +kernel
theorem dX1_patternShade_38 : decode cX1_patternShade 38 = .ok (.iconst (-1), 1) := by decide +kernel
theorem dX1_patternShade_39 : decode cX1_patternShade 39 = .ok (.ireturn, 1) := by decide +kernel
theorem dX1_borderMeets_0 : decode cX1_borderMeets 0 = .ok (.aload_n 0, 1) := by decide +kernel
theorem dX1_borderMeets_1 : decode cX1_borderMeets 1 = .ok (.invokevirtual 89, 3) := by decide +kernel
theorem dX1_borderMeets_4 : decode cX1_borderMeets 4 = .ok (.ifCond .eq 5, 3) := by decide +kernel
theorem dX1_borderMeets_7 : decode cX1_borderMeets 7 = .ok (.iconst 1, 1) := by decide +kernel
theorem dX1_borderMeets_8 : decode cX1_borderMeets 8 = .ok (.ireturn, 1) := by decide +kernel
theorem dX1_borderMeets_9 : decode cX1_borderMeets 9 = .ok (.aload_n 0, 1) := by decide +kernel
theorem dX1_borderMeets_10 : decode cX1_borderMeets 10 = .ok (.aload_n 0, 1) := by decide +kernel
theorem dX1_borderMeets_11 : decode cX1_borderMeets 11 = .ok (.invokevirtual 66, 3) := by decide +kernel
theorem dX1_borderMeets_14 : decode cX1_borderMeets 14 = .ok (.iconst 1, 1) := by decide +kernel
theorem dX1_borderMeets_15 : decode cX1_borderMeets 15 = .ok (.isub, 1) := by decide +kernel
theorem dX1_borderMeets_16 : decode cX1_borderMeets 16 = .ok (.invokevirtual 79, 3) := by decide +kernel
theorem dX1_borderMeets_19 : decode cX1_borderMeets 19 = .ok (.istore_n 1, 1) := by decide +kernel
theorem dX1_borderMeets_20 : decode cX1_borderMeets 20 = .ok (.iconst 0, 1) := by decide +kernel
theorem dX1_borderMeets_21 : decode cX1_borderMeets 21 = .ok (.istore_n 2, 1) := by decide +kernel
theorem dX1_borderMeets_22 : decode cX1_borderMeets 22 = .ok (.iload_n 2, 1) := by decide +kernel
theorem dX1_borderMeets_23 : decode cX1_borderMeets 23 = .ok (.aload_n 0, 1) := by decide +kernel
theorem dX1_borderMeets_24 : decode cX1_borderMeets 24 = .ok (.invokevirtual 66, 3) := by decide +kernel
theorem dX1_borderMeets_27 : decode cX1_borderMeets 27 = .ok (.if_icmp .ge 24, 3) := by decide +kernel
theorem dX1_borderMeets_30 : decode cX1_borderMeets 30 = .ok (.aload_n 0, 1) := by decide +kernel
theorem dX1_borderMeets_31 : decode cX1_borderMeets 31 = .ok (.iload_n 2, 1) := by decide +kernel
theorem dX1_borderMeets_32 : decode cX1_borderMeets 32 = .ok (.invokevirtual 79, 3) := by decide +kernel
theorem dX1_borderMeets_35 : decode cX1_borderMeets 35 = .ok (.istore_n 3, 1) := by decide +kernel
theorem dX1_borderMeets_36 : decode cX1_borderMeets 36 = .ok (.iload_n 3, 1) := by decide +kernel
theorem dX1_borderMeets_37 : decode cX1_borderMeets 37 = .ok (.iload_n 1, 1) := by decide +kernel
theorem dX1_borderMeets_38 : decode cX1_borderMeets 38 = .ok (.if_icmp .ne 5, 3) := by decide +kernel
theorem dX1_borderMeets_41 : decode cX1_borderMeets 41 = .ok (.iconst 0, 1) := by decide +kernel
theorem dX1_borderMeets_42 : decode cX1_borderMeets 42 = .ok (.ireturn, 1) := by decide +kernel
theorem dX1_borderMeets_43 : decode cX1_borderMeets 43 = .ok (.iload_n 3, 1) := by decide +kernel
theorem dX1_borderMeets_44 : decode cX1_borderMeets 44 = .ok (.istore_n 1, 1) := by decide +kernel
theorem dX1_borderMeets_45 : decode cX1_borderMeets 45 = .ok (.iinc 2 1, 3) := by decide +kernel
theorem dX1_borderMeets_48 : decode cX1_borderMeets 48 = .ok (.goto (-26), 3) := by decide +kernel
theorem dX1_borderMeets_51 : decode cX1_borderMeets 51 = .ok (.iconst 1, 1) := by decide +kernel
theorem dX1_borderMeets_52 : decode cX1_borderMeets 52 = .ok (.ireturn, 1) := by decide +kernel
theorem dX1_patternHasOneShade_0 : decode cX1_patternHasOneShade 0 = .ok (.iconst 1, 1) := by decide +kernel
theorem dX1_patternHasOneShade_1 : decode cX1_patternHasOneShade 1 = .ok (.istore_n 1, 1) := by decide +kernel
theorem dX1_patternHasOneShade_2 : decode cX1_patternHasOneShade 2 = .ok (.iload_n 1, 1) := by decide +kernel
theorem dX1_patternHasOneShade_3 : decode cX1_patternHasOneShade 3 = .ok (.aload_n 0, 1) := by decide +kernel
theorem dX1_patternHasOneShade_4 : decode cX1_patternHasOneShade 4 = .ok (.getfield 18, 3) := by decide +kernel
theorem dX1_patternHasOneShade_7 : decode cX1_patternHasOneShade 7 = .ok (.if_icmp .ge 24, 3) := by decide +kernel
theorem dX1_patternHasOneShade_10 : decode cX1_patternHasOneShade 10 = .ok (.aload_n 0, 1) := by decide +kernel
theorem dX1_patternHasOneShade_11 : decode cX1_patternHasOneShade 11 = .ok (.iload_n 1, 1) := by decide +kernel
theorem dX1_patternHasOneShade_12 : decode cX1_patternHasOneShade 12 = .ok (.invokevirtual 83, 3) := by decide +kernel
theorem dX1_patternHasOneShade_15 : decode cX1_patternHasOneShade 15 = .ok (.aload_n 0, 1) := by decide +kernel
theorem dX1_patternHasOneShade_16 : decode cX1_patternHasOneShade 16 = .ok (.iconst 0, 1) := by decide +kernel
theorem dX1_patternHasOneShade_17 : decode cX1_patternHasOneShade 17 = .ok (.invokevirtual 83, 3) := by decide +kernel
theorem dX1_patternHasOneShade_20 : decode cX1_patternHasOneShade 20 = .ok (.if_icmp .eq 5, 3) := by decide +kernel
theorem dX1_patternHasOneShade_23 : decode cX1_patternHasOneShade 23 = .ok (.iconst 0, 1) := by decide +kernel
theorem dX1_patternHasOneShade_24 : decode cX1_patternHasOneShade 24 = .ok (.ireturn, 1) := by decide +kernel
theorem dX1_patternHasOneShade_25 : decode cX1_patternHasOneShade 25 = .ok (.iinc 1 1, 3) := by decide +kernel
theorem dX1_patternHasOneShade_28 : decode cX1_patternHasOneShade 28 = .ok (.goto (-26), 3) := by decide +kernel
theorem dX1_patternHasOneShade_31 : decode cX1_patternHasOneShade 31 = .ok (.iconst 1, 1) := by decide +kernel
theorem dX1_patternHasOneShade_32 : decode cX1_patternHasOneShade 32 = .ok (.ireturn, 1) := by decide +kernel
theorem dX2_init_0 : decode cX2_init 0 = .ok (.aload_n 0, 1) := by decide +kernel
theorem dX2_init_1 : decode cX2_init 1 = .ok (.invokespecial 3, 3) := by decide +kernel
theorem dX2_init_4 : decode cX2_init 4 = .ok (.aload_n 0, 1) := by decide +kernel
theorem dX2_init_5 : decode cX2_init 5 = .ok (.new 9, 3) := by decide +kernel
theorem dX2_init_8 : decode cX2_init 8 = .ok (.dup, 1) := by decide +kernel
theorem dX2_init_9 : decode cX2_init 9 = .ok (.invokespecial 11, 3) := by decide +kernel
theorem dX2_init_12 : decode cX2_init 12 = .ok (.putfield 12, 3) := by decide +kernel
theorem dX2_init_15 : decode cX2_init 15 = .ok (.aload_n 0, 1) := by decide +kernel
theorem dX2_init_16 : decode cX2_init 16 = .ok (.new 18, 3) := by decide +kernel
theorem dX2_init_19 : decode cX2_init 19 = .ok (.dup, 1) := by decide +kernel
theorem dX2_init_20 : decode cX2_init 20 = .ok (.invokespecial 20, 3) := by decide +kernel
theorem dX2_init_23 : decode cX2_init 23 = .ok (.putfield 21, 3) := by decide +kernel
theorem dX2_init_26 : decode cX2_init 26 = .ok (.aload_n 0, 1) := by decide +kernel
theorem dX2_init_27 : decode cX2_init 27 = .ok (.sipush 144, 3) := by decide +kernel
theorem dX2_init_30 : decode cX2_init 30 = .ok (.newarray .int, 2) := by decide +kernel
theorem dX2_init_32 : decode cX2_init 32 = .ok (.putfield 25, 3) := by decide +kernel
theorem dX2_init_35 : decode cX2_init 35 = .ok (.aload_n 0, 1) := by decide +kernel
theorem dX2_init_36 : decode cX2_init 36 = .ok (.getfield 25, 3) := by decide +kernel
theorem dX2_init_39 : decode cX2_init 39 = .ok (.iconst (-1), 1) := by decide +kernel
theorem dX2_init_40 : decode cX2_init 40 = .ok (.invokestatic 29, 3) := by decide +kernel
theorem dX2_init_43 : decode cX2_init 43 = .ok (.return_, 1) := by decide +kernel
theorem dX2_copyFrom_0 : decode cX2_copyFrom 0 = .ok (.aload_n 0, 1) := by decide +kernel
theorem dX2_copyFrom_1 : decode cX2_copyFrom 1 = .ok (.getfield 12, 3) := by decide +kernel
theorem dX2_copyFrom_4 : decode cX2_copyFrom 4 = .ok (.aload_n 1, 1) := by decide +kernel
theorem dX2_copyFrom_5 : decode cX2_copyFrom 5 = .ok (.getfield 12, 3) := by decide +kernel
theorem dX2_copyFrom_8 : decode cX2_copyFrom 8 = .ok (.invokevirtual 35, 3) := by decide +kernel
theorem dX2_copyFrom_11 : decode cX2_copyFrom 11 = .ok (.aload_n 0, 1) := by decide +kernel
theorem dX2_copyFrom_12 : decode cX2_copyFrom 12 = .ok (.getfield 21, 3) := by decide +kernel
theorem dX2_copyFrom_15 : decode cX2_copyFrom 15 = .ok (.aload_n 1, 1) := by decide +kernel
theorem dX2_copyFrom_16 : decode cX2_copyFrom 16 = .ok (.getfield 21, 3) := by decide +kernel
theorem dX2_copyFrom_19 : decode cX2_copyFrom 19 = .ok (.invokevirtual 39, 3) := by decide +kernel
theorem dX2_copyFrom_22 : decode cX2_copyFrom 22 = .ok (.aload_n 1, 1) := by decide +kernel
theorem dX2_copyFrom_23 : decode cX2_copyFrom 23 = .ok (.getfield 25, 3) := by decide +kernel
theorem dX2_copyFrom_26 : decode cX2_copyFrom 26 = .ok (.iconst 0, 1) := by decide +kernel
theorem dX2_copyFrom_27 : decode cX2_copyFrom 27 = .ok (.aload_n 0, 1) := by decide +kernel
theorem dX2_copyFrom_28 : decode cX2_copyFrom 28 = .ok (.getfield 25, 3) := by decide +kernel
theorem dX2_copyFrom_31 : decode cX2_copyFrom 31 = .ok (.iconst 0, 1) := by decide +kernel
theorem dX2_copyFrom_32 : decode cX2_copyFrom 32 = .ok (.aload_n 0, 1) := by decide +kernel
theorem dX2_copyFrom_33 : decode cX2_copyFrom 33 = .ok (.getfield 25, 3) := by decide +kernel
theorem dX2_copyFrom_36 : decode cX2_copyFrom 36 = .ok (.arraylength, 1) := by decide +kernel
theorem dX2_copyFrom_37 : decode cX2_copyFrom 37 = .ok (.invokestatic 42, 3) := by decide +kernel
theorem dX2_copyFrom_40 : decode cX2_copyFrom 40 = .ok (.aload_n 0, 1) := by decide +kernel
theorem dX2_copyFrom_41 : decode cX2_copyFrom 41 = .ok (.aload_n 1, 1) := by decide +kernel
theorem dX2_copyFrom_42 : decode cX2_copyFrom 42 = .ok (.getfield 48, 3) := by decide +kernel
theorem dX2_copyFrom_45 : decode cX2_copyFrom 45 = .ok (.putfield 48, 3) := by decide +kernel
theorem dX2_copyFrom_48 : decode cX2_copyFrom 48 = .ok (.return_, 1) := by decide +kernel
theorem dX2_laidOrNone_0 : decode cX2_laidOrNone 0 = .ok (.aload_n 0, 1) := by decide +kernel
theorem dX2_laidOrNone_1 : decode cX2_laidOrNone 1 = .ok (.getfield 12, 3) := by decide +kernel
theorem dX2_laidOrNone_4 : decode cX2_laidOrNone 4 = .ok (.iload_n 1, 1) := by decide +kernel
theorem dX2_laidOrNone_5 : decode cX2_laidOrNone 5 = .ok (.iload_n 2, 1) := by decide +kernel
theorem dX2_laidOrNone_6 : decode cX2_laidOrNone 6 = .ok (.invokevirtual 52, 3) := by decide +kernel
theorem dX2_laidOrNone_9 : decode cX2_laidOrNone 9 = .ok (.ifCond .eq 17, 3) := by decide +kernel
theorem dX2_laidOrNone_12 : decode cX2_laidOrNone 12 = .ok (.aload_n 0, 1) := by decide +kernel
theorem dX2_laidOrNone_13 : decode cX2_laidOrNone 13 = .ok (.getfield 25, 3) := by decide +kernel
theorem dX2_laidOrNone_16 : decode cX2_laidOrNone 16 = .ok (.iload_n 2, 1) := by decide +kernel
theorem dX2_laidOrNone_17 : decode cX2_laidOrNone 17 = .ok (.bipush 12, 2) := by decide +kernel
theorem dX2_laidOrNone_19 : decode cX2_laidOrNone 19 = .ok (.imul, 1) := by decide +kernel
theorem dX2_laidOrNone_20 : decode cX2_laidOrNone 20 = .ok (.iload_n 1, 1) := by decide +kernel
theorem dX2_laidOrNone_21 : decode cX2_laidOrNone 21 = .ok (.iadd, 1) := by decide +kernel
theorem dX2_laidOrNone_22 : decode cX2_laidOrNone 22 = .ok (.iaload, 1) := by decide +kernel
theorem dX2_laidOrNone_23 : decode cX2_laidOrNone 23 = .ok (.goto 4, 3) := by decide +kernel
theorem dX2_laidOrNone_26 : decode cX2_laidOrNone 26 = .ok (.iconst (-1), 1) := by decide +kernel
theorem dX2_laidOrNone_27 : decode cX2_laidOrNone 27 = .ok (.ireturn, 1) := by decide +kernel
theorem dX2_putAt_0 : decode cX2_putAt 0 = .ok (.aload_n 0, 1) := by decide +kernel
theorem dX2_putAt_1 : decode cX2_putAt 1 = .ok (.getfield 12, 3) := by decide +kernel
theorem dX2_putAt_4 : decode cX2_putAt 4 = .ok (.iload_n 1, 1) := by decide +kernel
theorem dX2_putAt_5 : decode cX2_putAt 5 = .ok (.iload_n 2, 1) := by decide +kernel
theorem dX2_putAt_6 : decode cX2_putAt 6 = .ok (.invokevirtual 52, 3) := by decide +kernel
theorem dX2_putAt_9 : decode cX2_putAt 9 = .ok (.ifCond .eq 15, 3) := by decide +kernel
theorem dX2_putAt_12 : decode cX2_putAt 12 = .ok (.aload_n 0, 1) := by decide +kernel
theorem dX2_putAt_13 : decode cX2_putAt 13 = .ok (.getfield 25, 3) := by decide +kernel
theorem dX2_putAt_16 : decode cX2_putAt 16 = .ok (.iload_n 2, 1) := by decide +kernel
theorem dX2_putAt_17 : decode cX2_putAt 17 = .ok (.bipush 12, 2) := by decide +kernel
theorem dX2_putAt_19 : decode cX2_putAt 19 = .ok (.imul, 1) := by decide +kernel
theorem dX2_putAt_20 : decode cX2_putAt 20 = .ok (.iload_n 1, 1) := by decide +kernel
theorem dX2_putAt_21 : decode cX2_putAt 21 = .ok (.iadd, 1) := by decide +kernel
theorem dX2_putAt_22 : decode cX2_putAt 22 = .ok (.iload_n 3, 1) := by decide +kernel
theorem dX2_putAt_23 : decode cX2_putAt 23 = .ok (.iastore, 1) := by decide +kernel
theorem dX2_putAt_24 : decode cX2_putAt 24 = .ok (.return_, 1) := by decide +kernel
theorem dX2_isLaid_0 : decode cX2_isLaid 0 = .ok (.aload_n 0, 1) := by decide +kernel
theorem dX2_isLaid_1 : decode cX2_isLaid 1 = .ok (.iload_n 1, 1) := by decide +kernel
theorem dX2_isLaid_2 : decode cX2_isLaid 2 = .ok (.iload_n 2, 1) := by decide +kernel
theorem dX2_isLaid_3 : decode cX2_isLaid 3 = .ok (.invokevirtual 56, 3) := by decide +kernel
theorem dX2_isLaid_6 : decode cX2_isLaid 6 = .ok (.iconst (-1), 1) := by decide +kernel
theorem dX2_isLaid_7 : decode cX2_isLaid 7 = .ok (.if_icmp .eq 7, 3) := by decide +kernel
theorem dX2_isLaid_10 : decode cX2_isLaid 10 = .ok (.iconst 1, 1) := by decide +kernel
theorem dX2_isLaid_11 : decode cX2_isLaid 11 = .ok (.goto 4, 3) := by decide +kernel
theorem dX2_isLaid_14 : decode cX2_isLaid 14 = .ok (.iconst 0, 1) := by decide +kernel
theorem dX2_isLaid_15 : decode cX2_isLaid 15 = .ok (.ireturn, 1) := by decide +kernel
theorem dX2_differenceAt_0 : decode cX2_differenceAt 0 = .ok (.aload_n 0, 1) := by decide +kernel
theorem dX2_differenceAt_1 : decode cX2_differenceAt 1 = .ok (.iload_n 1, 1) := by decide +kernel
theorem dX2_differenceAt_2 : decode cX2_differenceAt 2 = .ok (.iload_n 2, 1) := by decide +kernel
theorem dX2_differenceAt_3 : decode cX2_differenceAt 3 = .ok (.invokevirtual 60, 3) := by decide +kernel
theorem dX2_differenceAt_6 : decode cX2_differenceAt 6 = .ok (.ifCond .eq 25, 3) := by decide +kernel
theorem dX2_differenceAt_9 : decode cX2_differenceAt 9 = .ok (.aload_n 0, 1) := by decide +kernel
theorem dX2_differenceAt_10 : decode cX2_differenceAt 10 = .ok (.getfield 12, 3) := by decide +kernel
theorem dX2_differenceAt_13 : decode cX2_differenceAt 13 = .ok (.iload_n 1, 1) := by decide +kernel
theorem dX2_differenceAt_14 : decode cX2_differenceAt 14 = .ok (.iload_n 2, 1) := by decide +kernel
theorem dX2_differenceAt_15 : decode cX2_differenceAt 15 = .ok (.invokevirtual 63, 3) := by decide +kernel
theorem dX2_differenceAt_18 : decode cX2_differenceAt 18 = .ok (.aload_n 0, 1) := by decide +kernel
theorem dX2_differenceAt_19 : decode cX2_differenceAt 19 = .ok (.iload_n 1, 1) := by decide +kernel
theorem dX2_differenceAt_20 : decode cX2_differenceAt 20 = .ok (.iload_n 2, 1) := by decide +kernel
theorem dX2_differenceAt_21 : decode cX2_differenceAt 21 = .ok (.invokevirtual 56, 3) := by decide +kernel
theorem dX2_differenceAt_24 : decode cX2_differenceAt 24 = .ok (.isub, 1) := by decide +kernel
theorem dX2_differenceAt_25 : decode cX2_differenceAt 25 = .ok (.invokestatic 66, 3) := by decide +kernel
theorem dX2_differenceAt_28 : decode cX2_differenceAt 28 = .ok (.goto 4, 3) := by decide +kernel
theorem dX2_differenceAt_31 : decode cX2_differenceAt 31 = .ok (.iconst 0, 1) := by decide +kernel
theorem dX2_differenceAt_32 : decode cX2_differenceAt 32 = .ok (.ireturn, 1) := by decide +kernel
theorem dX2_laidCells_0 : decode cX2_laidCells 0 = .ok (.iconst 0, 1) := by decide +kernel
theorem dX2_laidCells_1 : decode cX2_laidCells 1 = .ok (.istore_n 1, 1) := by decide +kernel
theorem dX2_laidCells_2 : decode cX2_laidCells 2 = .ok (.aload_n 0, 1) := by decide +kernel
theorem dX2_laidCells_3 : decode cX2_laidCells 3 = .ok (.getfield 25, 3) := by decide +kernel
theorem dX2_laidCells_6 : decode cX2_laidCells 6 = .ok (.astore_n 2, 1) := by decide +kernel
theorem dX2_laidCells_7 : decode cX2_laidCells 7 = .ok (.aload_n 2, 1) := by decide +kernel
theorem dX2_laidCells_8 : decode cX2_laidCells 8 = .ok (.arraylength, 1) := by decide +kernel
theorem dX2_laidCells_9 : decode cX2_laidCells 9 = .ok (.istore_n 3, 1) := by decide +kernel
theorem dX2_laidCells_10 : decode cX2_laidCells 10 = .ok (.iconst 0, 1) := by decide +kernel
theorem dX2_laidCells_11 : decode cX2_laidCells 11 = .ok (.istore 4, 2) := by decide +kernel
theorem dX2_laidCells_13 : decode cX2_laidCells 13 = .ok (.iload 4, 2) := by decide +kernel
theorem dX2_laidCells_15 : decode cX2_laidCells 15 = .ok (.iload_n 3, 1) := by decide +kernel
theorem dX2_laidCells_16 : decode cX2_laidCells 16 = .ok (.if_icmp .ge 24, 3) := by decide +kernel
theorem dX2_laidCells_19 : decode cX2_laidCells 19 = .ok (.aload_n 2, 1) := by decide +kernel
theorem dX2_laidCells_20 : decode cX2_laidCells 20 = .ok (.iload 4, 2) := by decide +kernel
theorem dX2_laidCells_22 : decode cX2_laidCells 22 = .ok (.iaload, 1) := by decide +kernel
theorem dX2_laidCells_23 : decode cX2_laidCells 23 = .ok (.istore 5, 2) := by decide +kernel
theorem dX2_laidCells_25 : decode cX2_laidCells 25 = .ok (.iload 5, 2) := by decide +kernel
theorem dX2_laidCells_27 : decode cX2_laidCells 27 = .ok (.iconst (-1), 1) := by decide +kernel
theorem dX2_laidCells_28 : decode cX2_laidCells 28 = .ok (.if_icmp .eq 6, 3) := by decide +kernel
theorem dX2_laidCells_31 : decode cX2_laidCells 31 = .ok (.iinc 1 1, 3) := by decide +kernel
theorem dX2_laidCells_34 : decode cX2_laidCells 34 = .ok (.iinc 4 1, 3) := by decide +kernel
theorem dX2_laidCells_37 : decode cX2_laidCells 37 = .ok (.goto (-24), 3) := by decide +kernel
theorem dX2_laidCells_40 : decode cX2_laidCells 40 = .ok (.iload_n 1, 1) := by decide +kernel
theorem dX2_laidCells_41 : decode cX2_laidCells 41 = .ok (.ireturn, 1) := by decide +kernel
theorem dX2_sumOfDifferences_0 : decode cX2_sumOfDifferences 0 = .ok (.iconst 0, 1) := by decide +kernel
theorem dX2_sumOfDifferences_1 : decode cX2_sumOfDifferences 1 = .ok (.istore_n 1, 1) := by decide +kernel
theorem dX2_sumOfDifferences_2 : decode cX2_sumOfDifferences 2 = .ok (.iconst 0, 1) := by decide +kernel
theorem dX2_sumOfDifferences_3 : decode cX2_sumOfDifferences 3 = .ok (.istore_n 2, 1) := by decide +kernel
theorem dX2_sumOfDifferences_4 : decode cX2_sumOfDifferences 4 = .ok (.iload_n 2, 1) := by decide +kernel
theorem dX2_sumOfDifferences_5 : decode cX2_sumOfDifferences 5 = .ok (.aload_n 0, 1) := by decide +kernel
theorem dX2_sumOfDifferences_6 : decode cX2_sumOfDifferences 6 = .ok (.getfield 12, 3) := by decide +kernel
theorem dX2_sumOfDifferences_9 : decode cX2_sumOfDifferences 9 = .ok (.getfield 72, 3) := by decide +kernel
theorem dX2_sumOfDifferences_12 : decode cX2_sumOfDifferences 12 = .ok (.if_icmp .ge 37, 3) := by decide +kernel
theorem dX2_sumOfDifferences_15 : decode cX2_sumOfDifferences 15 = .ok (.iconst 0, 1) := by decide +kernel
theorem dX2_sumOfDifferences_16 : decode cX2_sumOfDifferences 16 = .ok (.istore_n 3, 1) := by decide +kernel
theorem dX2_sumOfDifferences_17 : decode cX2_sumOfDifferences 17 = .ok (.iload_n 3, 1) := by decide +kernel
theorem dX2_sumOfDifferences_18 : decode cX2_sumOfDifferences 18 = .ok (.aload_n 0, 1) := by decide +kernel
theorem dX2_sumOfDifferences_19 : decode cX2_sumOfDifferences 19 = .ok (.getfield 12, 3) := by decide +kernel
theorem dX2_sumOfDifferences_22 : decode cX2_sumOfDifferences 22 = .ok (.getfield 75, 3) := by decide +kernel
theorem dX2_sumOfDifferences_25 : decode cX2_sumOfDifferences 25 = .ok (.if_icmp .ge 18, 3) := by decide +kernel
theorem dX2_sumOfDifferences_28 : decode cX2_sumOfDifferences 28 = .ok (.iload_n 1, 1) := by decide +kernel
theorem dX2_sumOfDifferences_29 : decode cX2_sumOfDifferences 29 = .ok (.aload_n 0, 1) := by decide +kernel
theorem dX2_sumOfDifferences_30 : decode cX2_sumOfDifferences 30 = .ok (.iload_n 3, 1) := by decide +kernel
theorem dX2_sumOfDifferences_31 : decode cX2_sumOfDifferences 31 = .ok (.iload_n 2, 1) := by decide +kernel
theorem dX2_sumOfDifferences_32 : decode cX2_sumOfDifferences 32 = .ok (.invokevirtual 78, 3) := by decide +kernel
theorem dX2_sumOfDifferences_35 : decode cX2_sumOfDifferences 35 = .ok (.iadd, 1) := by decide +kernel
theorem dX2_sumOfDifferences_36 : decode cX2_sumOfDifferences 36 = .ok (.istore_n 1, 1) := by decide +kernel
theorem dX2_sumOfDifferences_37 : decode cX2_sumOfDifferences 37 = .ok (.iinc 3 1, 3) := by decide +kernel
theorem dX2_sumOfDifferences_40 : decode cX2_sumOfDifferences 40 = .ok (.goto (-23), 3) := by decide +kernel
theorem dX2_sumOfDifferences_43 : decode cX2_sumOfDifferences 43 = .ok (.iinc 2 1, 3) := by decide +kernel
theorem dX2_sumOfDifferences_46 : decode cX2_sumOfDifferences 46 = .ok (.goto (-42), 3) := by decide +kernel
theorem dX2_sumOfDifferences_49 : decode cX2_sumOfDifferences 49 = .ok (.iload_n 1, 1) := by decide +kernel
theorem dX2_sumOfDifferences_50 : decode cX2_sumOfDifferences 50 = .ok (.ireturn, 1) := by decide +kernel
theorem dX2_greatestDifference_0 : decode cX2_greatestDifference 0 = .ok (.iconst 0, 1) := by decide +kernel
theorem dX2_greatestDifference_1 : decode cX2_greatestDifference 1 = .ok (.istore_n 1, 1) := by decide +kernel
theorem dX2_greatestDifference_2 : decode cX2_greatestDifference 2 = .ok (.iconst 0, 1) := by decide +kernel
theorem dX2_greatestDifference_3 : decode cX2_greatestDifference 3 = .ok (.istore_n 2, 1) := by decide +kernel
theorem dX2_greatestDifference_4 : decode cX2_greatestDifference 4 = .ok (.iload_n 2, 1) := by decide +kernel
theorem dX2_greatestDifference_5 : decode cX2_greatestDifference 5 = .ok (.aload_n 0, 1) := by decide +kernel
theorem dX2_greatestDifference_6 : decode cX2_greatestDifference 6 = .ok (.getfield 12, 3) := by decide +kernel
theorem dX2_greatestDifference_9 : decode cX2_greatestDifference 9 = .ok (.getfield 72, 3) := by decide +kernel
theorem dX2_greatestDifference_12 : decode cX2_greatestDifference 12 = .ok (.if_icmp .ge 39, 3) := by decide +kernel
theorem dX2_greatestDifference_15 : decode cX2_greatestDifference 15 = .ok (.iconst 0, 1) := by decide +kernel
theorem dX2_greatestDifference_16 : decode cX2_greatestDifference 16 = .ok (.istore_n 3, 1) := by decide +kernel
theorem dX2_greatestDifference_17 : decode cX2_greatestDifference 17 = .ok (.iload_n 3, 1) := by decide +kernel
theorem dX2_greatestDifference_18 : decode cX2_greatestDifference 18 = .ok (.aload_n 0, 1) := by decide +kernel
theorem dX2_greatestDifference_19 : decode cX2_greatestDifference 19 = .ok (.getfield 12, 3) := by decide +kernel
theorem dX2_greatestDifference_22 : decode cX2_greatestDifference 22 = .ok (.getfield 75, 3) := by decide +kernel
theorem dX2_greatestDifference_25 : decode cX2_greatestDifference 25 = .ok (.if_icmp .ge 20, 3) := by decide +kernel
theorem dX2_greatestDifference_28 : decode cX2_greatestDifference 28 = .ok (.iload_n 1, 1) := by decide +kernel
theorem dX2_greatestDifference_29 : decode cX2_greatestDifference 29 = .ok (.aload_n 0, 1) := by decide +kernel
theorem dX2_greatestDifference_30 : decode cX2_greatestDifference 30 = .ok (.iload_n 3, 1) := by decide +kernel
theorem dX2_greatestDifference_31 : decode cX2_greatestDifference 31 = .ok (.iload_n 2, 1) := by decide +kernel
theorem dX2_greatestDifference_32 : decode cX2_greatestDifference 32 = .ok (.invokevirtual 78, 3) := by decide +kernel
theorem dX2_greatestDifference_35 : decode cX2_greatestDifference 35 = .ok (.invokestatic 81, 3) := by decide +kernel
theorem dX2_greatestDifference_38 : decode cX2_greatestDifference 38 = .ok (.istore_n 1, 1) := by decide +kernel
theorem dX2_greatestDifference_39 : decode cX2_greatestDifference 39 = .ok (.iinc 3 1, 3) := by decide +kernel
theorem dX2_greatestDifference_42 : decode cX2_greatestDifference 42 = .ok (.goto (-25), 3) := by decide +kernel
theorem dX2_greatestDifference_45 : decode cX2_greatestDifference 45 = .ok (.iinc 2 1, 3) := by decide +kernel
theorem dX2_greatestDifference_48 : decode cX2_greatestDifference 48 = .ok (.goto (-44), 3) := by decide +kernel
theorem dX2_greatestDifference_51 : decode cX2_greatestDifference 51 = .ok (.iload_n 1, 1) := by decide +kernel
theorem dX2_greatestDifference_52 : decode cX2_greatestDifference 52 = .ok (.ireturn, 1) := by decide +kernel
theorem dX2_shadeForOrNone_0 : decode cX2_shadeForOrNone 0 = .ok (.aload_n 0, 1) := by decide +kernel
theorem dX2_shadeForOrNone_1 : decode cX2_shadeForOrNone 1 = .ok (.getfield 21, 3) := by decide +kernel
theorem dX2_shadeForOrNone_4 : decode cX2_shadeForOrNone 4 = .ok (.aload_n 0, 1) := by decide +kernel
theorem dX2_shadeForOrNone_5 : decode cX2_shadeForOrNone 5 = .ok (.getfield 12, 3) := by decide +kernel
theorem dX2_shadeForOrNone_8 : decode cX2_shadeForOrNone 8 = .ok (.iload_n 1, 1) := by decide +kernel
theorem dX2_shadeForOrNone_9 : decode cX2_shadeForOrNone 9 = .ok (.iload_n 2, 1) := by decide +kernel
theorem dX2_shadeForOrNone_10 : decode cX2_shadeForOrNone 10 = .ok (.invokevirtual 63, 3) := by decide +kernel
theorem dX2_shadeForOrNone_13 : decode cX2_shadeForOrNone 13 = .ok (.invokevirtual 84, 3) := by decide +kernel
theorem dX2_shadeForOrNone_16 : decode cX2_shadeForOrNone 16 = .ok (.ireturn, 1) := by decide +kernel
theorem dX2_layCellIfPossible_0 : decode cX2_layCellIfPossible 0 = .ok (.aload_n 0, 1) := by decide +kernel
theorem dX2_layCellIfPossible_1 : decode cX2_layCellIfPossible 1 = .ok (.iload_n 1, 1) := by decide +kernel
theorem dX2_layCellIfPossible_2 : decode cX2_layCellIfPossible 2 = .ok (.iload_n 2, 1) := by decide +kernel
theorem dX2_layCellIfPossible_3 : decode cX2_layCellIfPossible 3 = .ok (.invokevirtual 60, 3) := by decide +kernel
theorem dX2_layCellIfPossible_6 : decode cX2_layCellIfPossible 6 = .ok (.ifCond .eq 4, 3) := by decide +kernel
theorem dX2_layCellIfPossible_9 : decode cX2_layCellIfPossible 9 = .ok (.return_, 1) := by decide +kernel
theorem dX2_layCellIfPossible_10 : decode cX2_layCellIfPossible 10 = .ok (.aload_n 0, 1) := by decide +kernel
theorem dX2_layCellIfPossible_11 : decode cX2_layCellIfPossible 11 = .ok (.iload_n 1, 1) := by decide +kernel
theorem dX2_layCellIfPossible_12 : decode cX2_layCellIfPossible 12 = .ok (.iload_n 2, 1) := by decide +kernel
theorem dX2_layCellIfPossible_13 : decode cX2_layCellIfPossible 13 = .ok (.invokevirtual 87, 3) := by decide +kernel
theorem dX2_layCellIfPossible_16 : decode cX2_layCellIfPossible 16 = .ok (.istore_n 3, 1) := by decide +kernel
theorem dX2_layCellIfPossible_17 : decode cX2_layCellIfPossible 17 = .ok (.iload_n 3, 1) := by decide +kernel
theorem dX2_layCellIfPossible_18 : decode cX2_layCellIfPossible 18 = .ok (.iconst (-1), 1) := by decide +kernel
theorem dX2_layCellIfPossible_19 : decode cX2_layCellIfPossible 19 = .ok (.if_icmp .eq 26, 3) := by decide +kernel
theorem dX2_layCellIfPossible_22 : decode cX2_layCellIfPossible 22 = .ok (.aload_n 0, 1) := by decide +kernel
theorem dX2_layCellIfPossible_23 : decode cX2_layCellIfPossible 23 = .ok (.getfield 21, 3) := by decide +kernel
theorem dX2_layCellIfPossible_26 : decode cX2_layCellIfPossible 26 = .ok (.iload_n 3, 1) := by decide +kernel
theorem dX2_layCellIfPossible_27 : decode cX2_layCellIfPossible 27 = .ok (.invokevirtual 90, 3) := by decide +kernel
theorem dX2_layCellIfPossible_30 : decode cX2_layCellIfPossible 30 = .ok (.aload_n 0, 1) := by decide +kernel
theorem dX2_layCellIfPossible_31 : decode cX2_layCellIfPossible 31 = .ok (.getfield 21, 3) := by decide +kernel
theorem dX2_layCellIfPossible_34 : decode cX2_layCellIfPossible 34 = .ok (.iload_n 3, 1) := by decide +kernel
theorem dX2_layCellIfPossible_35 : decode cX2_layCellIfPossible 35 = .ok (.invokevirtual 94, 3) := by decide +kernel
theorem dX2_layCellIfPossible_38 : decode cX2_layCellIfPossible 38 = .ok (.aload_n 0, 1) := by decide +kernel
theorem dX2_layCellIfPossible_39 : decode cX2_layCellIfPossible 39 = .ok (.iload_n 1, 1) := by decide +kernel
theorem dX2_layCellIfPossible_40 : decode cX2_layCellIfPossible 40 = .ok (.iload_n 2, 1) := by decide +kernel
theorem dX2_layCellIfPossible_41 : decode cX2_layCellIfPossible 41 = .ok (.iload_n 3, 1) := by decide +kernel
theorem dX2_layCellIfPossible_42 : decode cX2_layCellIfPossible 42 = .ok (.invokevirtual 97, 3) := by decide +kernel
theorem dX2_layCellIfPossible_45 : decode cX2_layCellIfPossible 45 = .ok (.return_, 1) := by decide +kernel
theorem dX2_layEmptyCells_0 : decode cX2_layEmptyCells 0 = .ok (.aload_n 0, 1) := by decide +kernel
theorem dX2_layEmptyCells_1 : decode cX2_layEmptyCells 1 = .ok (.invokevirtual 101, 3) := by decide +kernel
theorem dX2_layEmptyCells_4 : decode cX2_layEmptyCells 4 = .ok (.istore_n 1, 1) := by decide +kernel
theorem dX2_layEmptyCells_5 : decode cX2_layEmptyCells 5 = .ok (.iconst 0, 1) := by decide +kernel
theorem dX2_layEmptyCells_6 : decode cX2_layEmptyCells 6 = .ok (.istore_n 2, 1) := by decide +kernel
theorem dX2_layEmptyCells_7 : decode cX2_layEmptyCells 7 = .ok (.iload_n 2, 1) := by decide +kernel
theorem dX2_layEmptyCells_8 : decode cX2_layEmptyCells 8 = .ok (.aload_n 0, 1) := by decide +kernel
theorem dX2_layEmptyCells_9 : decode cX2_layEmptyCells 9 = .ok (.getfield 12, 3) := by decide +kernel
theorem dX2_layEmptyCells_12 : decode cX2_layEmptyCells 12 = .ok (.invokevirtual 105, 3) := by decide +kernel
theorem dX2_layEmptyCells_15 : decode cX2_layEmptyCells 15 = .ok (.if_icmp .ge 29, 3) := by decide +kernel
theorem dX2_layEmptyCells_18 : decode cX2_layEmptyCells 18 = .ok (.aload_n 0, 1) := by decide +kernel
theorem dX2_layEmptyCells_19 : decode cX2_layEmptyCells 19 = .ok (.aload_n 0, 1) := by decide +kernel
theorem dX2_layEmptyCells_20 : decode cX2_layEmptyCells 20 = .ok (.getfield 12, 3) := by decide +kernel
theorem dX2_layEmptyCells_23 : decode cX2_layEmptyCells 23 = .ok (.iload_n 2, 1) := by decide +kernel
theorem dX2_layEmptyCells_24 : decode cX2_layEmptyCells 24 = .ok (.invokevirtual 108, 3) := by decide +kernel
theorem dX2_layEmptyCells_27 : decode cX2_layEmptyCells 27 = .ok (.aload_n 0, 1) := by decide +kernel
theorem dX2_layEmptyCells_28 : decode cX2_layEmptyCells 28 = .ok (.getfield 12, 3) := by decide +kernel
theorem dX2_layEmptyCells_31 : decode cX2_layEmptyCells 31 = .ok (.iload_n 2, 1) := by decide +kernel
theorem dX2_layEmptyCells_32 : decode cX2_layEmptyCells 32 = .ok (.invokevirtual 111, 3) := by decide +kernel
theorem dX2_layEmptyCells_35 : decode cX2_layEmptyCells 35 = .ok (.invokevirtual 114, 3) := by decide +kernel
theorem dX2_layEmptyCells_38 : decode cX2_layEmptyCells 38 = .ok (.iinc 2 1, 3) := by decide +kernel
theorem dX2_layEmptyCells_41 : decode cX2_layEmptyCells 41 = .ok (.goto (-34), 3) := by decide +kernel
theorem dX2_layEmptyCells_44 : decode cX2_layEmptyCells 44 = .ok (.iconst 1, 1) := by decide +kernel
theorem dX2_layEmptyCells_45 : decode cX2_layEmptyCells 45 = .ok (.istore_n 2, 1) := by decide +kernel
theorem dX2_layEmptyCells_46 : decode cX2_layEmptyCells 46 = .ok (.iload_n 2, 1) := by decide +kernel
theorem dX2_layEmptyCells_47 : decode cX2_layEmptyCells 47 = .ok (.aload_n 0, 1) := by decide +kernel
theorem dX2_layEmptyCells_48 : decode cX2_layEmptyCells 48 = .ok (.getfield 12, 3) := by decide +kernel
theorem dX2_layEmptyCells_51 : decode cX2_layEmptyCells 51 = .ok (.getfield 72, 3) := by decide +kernel
theorem dX2_layEmptyCells_54 : decode cX2_layEmptyCells 54 = .ok (.iconst 1, 1) := by decide +kernel
theorem dX2_layEmptyCells_55 : decode cX2_layEmptyCells 55 = .ok (.isub, 1) := by decide +kernel
theorem dX2_layEmptyCells_56 : decode cX2_layEmptyCells 56 = .ok (.if_icmp .ge 36, 3) := by decide +kernel
theorem dX2_layEmptyCells_59 : decode cX2_layEmptyCells 59 = .ok (.iconst 1, 1) := by decide +kernel
theorem dX2_layEmptyCells_60 : decode cX2_layEmptyCells 60 = .ok (.istore_n 3, 1) := by decide +kernel
theorem dX2_layEmptyCells_61 : decode cX2_layEmptyCells 61 = .ok (.iload_n 3, 1) := by decide +kernel
theorem dX2_layEmptyCells_62 : decode cX2_layEmptyCells 62 = .ok (.aload_n 0, 1) := by decide +kernel
theorem dX2_layEmptyCells_63 : decode cX2_layEmptyCells 63 = .ok (.getfield 12, 3) := by decide +kernel
theorem dX2_layEmptyCells_66 : decode cX2_layEmptyCells 66 = .ok (.getfield 75, 3) := by decide +kernel
theorem dX2_layEmptyCells_69 : decode cX2_layEmptyCells 69 = .ok (.iconst 1, 1) := by decide +kernel
theorem dX2_layEmptyCells_70 : decode cX2_layEmptyCells 70 = .ok (.isub, 1) := by decide +kernel
theorem dX2_layEmptyCells_71 : decode cX2_layEmptyCells 71 = .ok (.if_icmp .ge 15, 3) := by decide +kernel
theorem dX2_layEmptyCells_74 : decode cX2_layEmptyCells 74 = .ok (.aload_n 0, 1) := by decide +kernel
theorem dX2_layEmptyCells_75 : decode cX2_layEmptyCells 75 = .ok (.iload_n 3, 1) := by decide +kernel
theorem dX2_layEmptyCells_76 : decode cX2_layEmptyCells 76 = .ok (.iload_n 2, 1) := by decide +kernel
theorem dX2_layEmptyCells_77 : decode cX2_layEmptyCells 77 = .ok (.invokevirtual 114, 3) := by decide +kernel
theorem dX2_layEmptyCells_80 : decode cX2_layEmptyCells 80 = .ok (.iinc 3 1, 3) := by decide +kernel
theorem dX2_layEmptyCells_83 : decode cX2_layEmptyCells 83 = .ok (.goto (-22), 3) := by decide +kernel
theorem dX2_layEmptyCells_86 : decode cX2_layEmptyCells 86 = .ok (.iinc 2 1, 3) := by decide +kernel
theorem dX2_layEmptyCells_89 : decode cX2_layEmptyCells 89 = .ok (.goto (-43), 3) := by decide +kernel
theorem dX2_layEmptyCells_92 : decode cX2_layEmptyCells 92 = .ok (.aload_n 0, 1) := by decide +kernel
theorem dX2_layEmptyCells_93 : decode cX2_layEmptyCells 93 = .ok (.invokevirtual 101, 3) := by decide +kernel
theorem dX2_layEmptyCells_96 : decode cX2_layEmptyCells 96 = .ok (.iload_n 1, 1) := by decide +kernel
theorem dX2_layEmptyCells_97 : decode cX2_layEmptyCells 97 = .ok (.isub, 1) := by decide +kernel
theorem dX2_layEmptyCells_98 : decode cX2_layEmptyCells 98 = .ok (.ireturn, 1) := by decide +kernel
theorem dX2_liftToHand_0 : decode cX2_liftToHand 0 = .ok (.aload_n 0, 1) := by decide +kernel
theorem dX2_liftToHand_1 : decode cX2_liftToHand 1 = .ok (.iload_n 1, 1) := by decide +kernel
theorem dX2_liftToHand_2 : decode cX2_liftToHand 2 = .ok (.iload_n 2, 1) := by decide +kernel
theorem dX2_liftToHand_3 : decode cX2_liftToHand 3 = .ok (.invokevirtual 56, 3) := by decide +kernel
theorem dX2_liftToHand_6 : decode cX2_liftToHand 6 = .ok (.istore_n 3, 1) := by decide +kernel
theorem dX2_liftToHand_7 : decode cX2_liftToHand 7 = .ok (.aload_n 0, 1) := by decide +kernel
theorem dX2_liftToHand_8 : decode cX2_liftToHand 8 = .ok (.iload_n 1, 1) := by decide +kernel
theorem dX2_liftToHand_9 : decode cX2_liftToHand 9 = .ok (.iload_n 2, 1) := by decide +kernel
theorem dX2_liftToHand_10 : decode cX2_liftToHand 10 = .ok (.iconst (-1), 1) := by decide +kernel
theorem dX2_liftToHand_11 : decode cX2_liftToHand 11 = .ok (.invokevirtual 97, 3) := by decide +kernel
theorem dX2_liftToHand_14 : decode cX2_liftToHand 14 = .ok (.aload_n 0, 1) := by decide +kernel
theorem dX2_liftToHand_15 : decode cX2_liftToHand 15 = .ok (.dup, 1) := by decide +kernel
theorem dX2_liftToHand_16 : decode cX2_liftToHand 16 = .ok (.getfield 48, 3) := by decide +kernel
theorem dX2_liftToHand_19 : decode cX2_liftToHand 19 = .ok (.iconst 1, 1) := by decide +kernel
theorem dX2_liftToHand_20 : decode cX2_liftToHand 20 = .ok (.iadd, 1) := by decide +kernel
theorem dX2_liftToHand_21 : decode cX2_liftToHand 21 = .ok (.putfield 48, 3) := by decide +kernel
theorem dX2_liftToHand_24 : decode cX2_liftToHand 24 = .ok (.aload_n 0, 1) := by decide +kernel
theorem dX2_liftToHand_25 : decode cX2_liftToHand 25 = .ok (.getfield 48, 3) := by decide +kernel
theorem dX2_liftToHand_28 : decode cX2_liftToHand 28 = .ok (.iconst 3, 1) := by decide +kernel
theorem dX2_liftToHand_29 : decode cX2_liftToHand 29 = .ok (.irem, 1) := by decide +kernel
theorem dX2_liftToHand_30 : decode cX2_liftToHand 30 = .ok (.ifCond .ne 12, 3) := by decide +kernel
theorem dX2_liftToHand_33 : decode cX2_liftToHand 33 = .ok (.aload_n 0, 1) := by decide +kernel
theorem dX2_liftToHand_34 : decode cX2_liftToHand 34 = .ok (.getfield 21, 3) := by decide +kernel
theorem dX2_liftToHand_37 : decode cX2_liftToHand 37 = .ok (.invokevirtual 118, 3) := by decide +kernel
theorem dX2_liftToHand_40 : decode cX2_liftToHand 40 = .ok (.iconst 0, 1) := by decide +kernel
theorem dX2_liftToHand_41 : decode cX2_liftToHand 41 = .ok (.ireturn, 1) := by decide +kernel
theorem dX2_liftToHand_42 : decode cX2_liftToHand 42 = .ok (.aload_n 0, 1) := by decide +kernel
theorem dX2_liftToHand_43 : decode cX2_liftToHand 43 = .ok (.getfield 21, 3) := by decide +kernel
theorem dX2_liftToHand_46 : decode cX2_liftToHand 46 = .ok (.iload_n 3, 1) := by decide +kernel
theorem dX2_liftToHand_47 : decode cX2_liftToHand 47 = .ok (.invokevirtual 121, 3) := by decide +kernel
theorem dX2_liftToHand_50 : decode cX2_liftToHand 50 = .ok (.iconst 1, 1) := by decide +kernel
theorem dX2_liftToHand_51 : decode cX2_liftToHand 51 = .ok (.ireturn, 1) := by decide +kernel
theorem dX2_lackOf_0 : decode cX2_lackOf 0 = .ok (.iconst 0, 1) := by decide +kernel
theorem dX2_lackOf_1 : decode cX2_lackOf 1 = .ok (.istore_n 2, 1) := by decide +kernel
theorem dX2_lackOf_2 : decode cX2_lackOf 2 = .ok (.iconst 0, 1) := by decide +kernel
theorem dX2_lackOf_3 : decode cX2_lackOf 3 = .ok (.istore_n 3, 1) := by decide +kernel
theorem dX2_lackOf_4 : decode cX2_lackOf 4 = .ok (.iload_n 3, 1) := by decide +kernel
theorem dX2_lackOf_5 : decode cX2_lackOf 5 = .ok (.aload_n 0, 1) := by decide +kernel
theorem dX2_lackOf_6 : decode cX2_lackOf 6 = .ok (.getfield 12, 3) := by decide +kernel
theorem dX2_lackOf_9 : decode cX2_lackOf 9 = .ok (.getfield 72, 3) := by decide +kernel
theorem dX2_lackOf_12 : decode cX2_lackOf 12 = .ok (.if_icmp .ge 57, 3) := by decide +kernel
theorem dX2_lackOf_15 : decode cX2_lackOf 15 = .ok (.iconst 0, 1) := by decide +kernel
theorem dX2_lackOf_16 : decode cX2_lackOf 16 = .ok (.istore 4, 2) := by decide +kernel
theorem dX2_lackOf_18 : decode cX2_lackOf 18 = .ok (.iload 4, 2) := by decide +kernel
theorem dX2_lackOf_20 : decode cX2_lackOf 20 = .ok (.aload_n 0, 1) := by decide +kernel
theorem dX2_lackOf_21 : decode cX2_lackOf 21 = .ok (.getfield 12, 3) := by decide +kernel
theorem dX2_lackOf_24 : decode cX2_lackOf 24 = .ok (.getfield 75, 3) := by decide +kernel
theorem dX2_lackOf_27 : decode cX2_lackOf 27 = .ok (.if_icmp .ge 36, 3) := by decide +kernel
theorem dX2_lackOf_30 : decode cX2_lackOf 30 = .ok (.aload_n 0, 1) := by decide +kernel
theorem dX2_lackOf_31 : decode cX2_lackOf 31 = .ok (.iload 4, 2) := by decide +kernel
theorem dX2_lackOf_33 : decode cX2_lackOf 33 = .ok (.iload_n 3, 1) := by decide +kernel
theorem dX2_lackOf_34 : decode cX2_lackOf 34 = .ok (.invokevirtual 60, 3) := by decide +kernel
theorem dX2_lackOf_37 : decode cX2_lackOf 37 = .ok (.ifCond .ne 20, 3) := by decide +kernel
theorem dX2_lackOf_40 : decode cX2_lackOf 40 = .ok (.aload_n 0, 1) := by decide +kernel
theorem dX2_lackOf_41 : decode cX2_lackOf 41 = .ok (.getfield 12, 3) := by decide +kernel
theorem dX2_lackOf_44 : decode cX2_lackOf 44 = .ok (.iload 4, 2) := by decide +kernel
theorem dX2_lackOf_46 : decode cX2_lackOf 46 = .ok (.iload_n 3, 1) := by decide +kernel
theorem dX2_lackOf_47 : decode cX2_lackOf 47 = .ok (.invokevirtual 63, 3) := by decide +kernel
theorem dX2_lackOf_50 : decode cX2_lackOf 50 = .ok (.iload_n 1, 1) := by decide +kernel
theorem dX2_lackOf_51 : decode cX2_lackOf 51 = .ok (.if_icmp .ne 6, 3) := by decide +kernel
theorem dX2_lackOf_54 : decode cX2_lackOf 54 = .ok (.iinc 2 1, 3) := by decide +kernel
theorem dX2_lackOf_57 : decode cX2_lackOf 57 = .ok (.iinc 4 1, 3) := by decide +kernel
theorem dX2_lackOf_60 : decode cX2_lackOf 60 = .ok (.goto (-42), 3) := by decide +kernel
theorem dX2_lackOf_63 : decode cX2_lackOf 63 = .ok (.iinc 3 1, 3) := by decide +kernel
theorem dX2_lackOf_66 : decode cX2_lackOf 66 = .ok (.goto (-62), 3) := by decide +kernel
theorem dX2_lackOf_69 : decode cX2_lackOf 69 = .ok (.iload_n 2, 1) := by decide +kernel
theorem dX2_lackOf_70 : decode cX2_lackOf 70 = .ok (.aload_n 0, 1) := by decide +kernel
theorem dX2_lackOf_71 : decode cX2_lackOf 71 = .ok (.getfield 21, 3) := by decide +kernel
theorem dX2_lackOf_74 : decode cX2_lackOf 74 = .ok (.iload_n 1, 1) := by decide +kernel
theorem dX2_lackOf_75 : decode cX2_lackOf 75 = .ok (.invokevirtual 124, 3) := by decide +kernel
theorem dX2_lackOf_78 : decode cX2_lackOf 78 = .ok (.isub, 1) := by decide +kernel
theorem dX2_lackOf_79 : decode cX2_lackOf 79 = .ok (.iconst 0, 1) := by decide +kernel
theorem dX2_lackOf_80 : decode cX2_lackOf 80 = .ok (.invokestatic 81, 3) := by decide +kernel
theorem dX2_lackOf_83 : decode cX2_lackOf 83 = .ok (.ireturn, 1) := by decide +kernel
theorem dX3_init_0 : decode cX3_init 0 = .ok (.aload_n 0, 1) := by decide +kernel
theorem dX3_init_1 : decode cX3_init 1 = .ok (.invokespecial 3, 3) := by decide +kernel
theorem dX3_init_4 : decode cX3_init 4 = .ok (.aload_n 0, 1) := by decide +kernel
theorem dX3_init_5 : decode cX3_init 5 = .ok (.bipush 10, 2) := by decide +kernel
theorem dX3_init_7 : decode cX3_init 7 = .ok (.anewarray 9, 3) := by decide +kernel
theorem dX3_init_10 : decode cX3_init 10 = .ok (.putfield 11, 3) := by decide +kernel
theorem dX3_init_13 : decode cX3_init 13 = .ok (.aload_n 0, 1) := by decide +kernel
theorem dX3_init_14 : decode cX3_init 14 = .ok (.bipush 100, 2) := by decide +kernel
theorem dX3_init_16 : decode cX3_init 16 = .ok (.newarray .int, 2) := by decide +kernel
theorem dX3_init_18 : decode cX3_init 18 = .ok (.putfield 17, 3) := by decide +kernel
theorem dX3_init_21 : decode cX3_init 21 = .ok (.aload_n 0, 1) := by decide +kernel
theorem dX3_init_22 : decode cX3_init 22 = .ok (.bipush 20, 2) := by decide +kernel
theorem dX3_init_24 : decode cX3_init 24 = .ok (.putfield 21, 3) := by decide +kernel
theorem dX3_init_27 : decode cX3_init 27 = .ok (.aload_n 0, 1) := by decide +kernel
theorem dX3_init_28 : decode cX3_init 28 = .ok (.iconst 2, 1) := by decide +kernel
theorem dX3_init_29 : decode cX3_init 29 = .ok (.putfield 25, 3) := by decide +kernel
theorem dX3_init_32 : decode cX3_init 32 = .ok (.iconst 0, 1) := by decide +kernel
theorem dX3_init_33 : decode cX3_init 33 = .ok (.istore_n 1, 1) := by decide +kernel
theorem dX3_init_34 : decode cX3_init 34 = .ok (.iload_n 1, 1) := by decide +kernel
theorem dX3_init_35 : decode cX3_init 35 = .ok (.aload_n 0, 1) := by decide +kernel
theorem dX3_init_36 : decode cX3_init 36 = .ok (.getfield 11, 3) := by decide +kernel
theorem dX3_init_39 : decode cX3_init 39 = .ok (.arraylength, 1) := by decide +kernel
theorem dX3_init_40 : decode cX3_init 40 = .ok (.if_icmp .ge 22, 3) := by decide +kernel
theorem dX3_init_43 : decode cX3_init 43 = .ok (.aload_n 0, 1) := by decide +kernel
theorem dX3_init_44 : decode cX3_init 44 = .ok (.getfield 11, 3) := by decide +kernel
theorem dX3_init_47 : decode cX3_init 47 = .ok (.iload_n 1, 1) := by decide +kernel
theorem dX3_init_48 : decode cX3_init 48 = .ok (.new 9, 3) := by decide +kernel
theorem dX3_init_51 : decode cX3_init 51 = .ok (.dup, 1) := by decide +kernel
theorem dX3_init_52 : decode cX3_init 52 = .ok (.invokespecial 28, 3) := by decide +kernel
theorem dX3_init_55 : decode cX3_init 55 = .ok (.aastore, 1) := by decide +kernel
theorem dX3_init_56 : decode cX3_init 56 = .ok (.iinc 1 1, 3) := by decide +kernel
theorem dX3_init_59 : decode cX3_init 59 = .ok (.goto (-25), 3) := by decide +kernel
theorem dX3_init_62 : decode cX3_init 62 = .ok (.return_, 1) := by decide +kernel
theorem dX3_copyFrom_0 : decode cX3_copyFrom 0 = .ok (.iconst 0, 1) := by decide +kernel
theorem dX3_copyFrom_1 : decode cX3_copyFrom 1 = .ok (.istore_n 2, 1) := by decide +kernel
theorem dX3_copyFrom_2 : decode cX3_copyFrom 2 = .ok (.iload_n 2, 1) := by decide +kernel
theorem dX3_copyFrom_3 : decode cX3_copyFrom 3 = .ok (.aload_n 0, 1) := by decide +kernel
theorem dX3_copyFrom_4 : decode cX3_copyFrom 4 = .ok (.getfield 11, 3) := by decide +kernel
theorem dX3_copyFrom_7 : decode cX3_copyFrom 7 = .ok (.arraylength, 1) := by decide +kernel
theorem dX3_copyFrom_8 : decode cX3_copyFrom 8 = .ok (.if_icmp .ge 33, 3) := by decide +kernel
theorem dX3_copyFrom_11 : decode cX3_copyFrom 11 = .ok (.iload_n 2, 1) := by decide +kernel
theorem dX3_copyFrom_12 : decode cX3_copyFrom 12 = .ok (.aload_n 1, 1) := by decide +kernel
theorem dX3_copyFrom_13 : decode cX3_copyFrom 13 = .ok (.getfield 11, 3) := by decide +kernel
theorem dX3_copyFrom_16 : decode cX3_copyFrom 16 = .ok (.arraylength, 1) := by decide +kernel
theorem dX3_copyFrom_17 : decode cX3_copyFrom 17 = .ok (.if_icmp .ge 24, 3) := by decide +kernel
theorem dX3_copyFrom_20 : decode cX3_copyFrom 20 = .ok (.aload_n 0, 1) := by decide +kernel
theorem dX3_copyFrom_21 : decode cX3_copyFrom 21 = .ok (.getfield 11, 3) := by decide +kernel
theorem dX3_copyFrom_24 : decode cX3_copyFrom 24 = .ok (.iload_n 2, 1) := by decide +kernel
theorem dX3_copyFrom_25 : decode cX3_copyFrom 25 = .ok (.aaload, 1) := by decide +kernel
theorem dX3_copyFrom_26 : decode cX3_copyFrom 26 = .ok (.aload_n 1, 1) := by decide +kernel
theorem dX3_copyFrom_27 : decode cX3_copyFrom 27 = .ok (.getfield 11, 3) := by decide +kernel
theorem dX3_copyFrom_30 : decode cX3_copyFrom 30 = .ok (.iload_n 2, 1) := by decide +kernel
theorem dX3_copyFrom_31 : decode cX3_copyFrom 31 = .ok (.aaload, 1) := by decide +kernel
theorem dX3_copyFrom_32 : decode cX3_copyFrom 32 = .ok (.invokevirtual 29, 3) := by decide +kernel
theorem dX3_copyFrom_35 : decode cX3_copyFrom 35 = .ok (.iinc 2 1, 3) := by decide +kernel
theorem dX3_copyFrom_38 : decode cX3_copyFrom 38 = .ok (.goto (-36), 3) := by decide +kernel
theorem dX3_copyFrom_41 : decode cX3_copyFrom 41 = .ok (.aload_n 1, 1) := by decide +kernel
theorem dX3_copyFrom_42 : decode cX3_copyFrom 42 = .ok (.getfield 17, 3) := by decide +kernel
theorem dX3_copyFrom_45 : decode cX3_copyFrom 45 = .ok (.iconst 0, 1) := by decide +kernel
theorem dX3_copyFrom_46 : decode cX3_copyFrom 46 = .ok (.aload_n 0, 1) := by decide +kernel
theorem dX3_copyFrom_47 : decode cX3_copyFrom 47 = .ok (.getfield 17, 3) := by decide +kernel
theorem dX3_copyFrom_50 : decode cX3_copyFrom 50 = .ok (.iconst 0, 1) := by decide +kernel
theorem dX3_copyFrom_51 : decode cX3_copyFrom 51 = .ok (.aload_n 0, 1) := by decide +kernel
theorem dX3_copyFrom_52 : decode cX3_copyFrom 52 = .ok (.getfield 17, 3) := by decide +kernel
theorem dX3_copyFrom_55 : decode cX3_copyFrom 55 = .ok (.arraylength, 1) := by decide +kernel
theorem dX3_copyFrom_56 : decode cX3_copyFrom 56 = .ok (.invokestatic 33, 3) := by decide +kernel
theorem dX3_copyFrom_59 : decode cX3_copyFrom 59 = .ok (.aload_n 0, 1) := by decide +kernel
theorem dX3_copyFrom_60 : decode cX3_copyFrom 60 = .ok (.aload_n 1, 1) := by decide +kernel
theorem dX3_copyFrom_61 : decode cX3_copyFrom 61 = .ok (.getfield 39, 3) := by decide +kernel
theorem dX3_copyFrom_64 : decode cX3_copyFrom 64 = .ok (.putfield 39, 3) := by decide +kernel
theorem dX3_copyFrom_67 : decode cX3_copyFrom 67 = .ok (.aload_n 0, 1) := by decide +kernel
theorem dX3_copyFrom_68 : decode cX3_copyFrom 68 = .ok (.aload_n 1, 1) := by decide +kernel
theorem dX3_copyFrom_69 : decode cX3_copyFrom 69 = .ok (.getfield 21, 3) := by decide +kernel
theorem dX3_copyFrom_72 : decode cX3_copyFrom 72 = .ok (.putfield 21, 3) := by decide +kernel
theorem dX3_copyFrom_75 : decode cX3_copyFrom 75 = .ok (.aload_n 0, 1) := by decide +kernel
theorem dX3_copyFrom_76 : decode cX3_copyFrom 76 = .ok (.aload_n 1, 1) := by decide +kernel
theorem dX3_copyFrom_77 : decode cX3_copyFrom 77 = .ok (.getfield 25, 3) := by decide +kernel
theorem dX3_copyFrom_80 : decode cX3_copyFrom 80 = .ok (.putfield 25, 3) := by decide +kernel
theorem dX3_copyFrom_83 : decode cX3_copyFrom 83 = .ok (.aload_n 0, 1) := by decide +kernel
theorem dX3_copyFrom_84 : decode cX3_copyFrom 84 = .ok (.aload_n 1, 1) := by decide +kernel
theorem dX3_copyFrom_85 : decode cX3_copyFrom 85 = .ok (.getfield 42, 3) := by decide +kernel
theorem dX3_copyFrom_88 : decode cX3_copyFrom 88 = .ok (.putfield 42, 3) := by decide +kernel
theorem dX3_copyFrom_91 : decode cX3_copyFrom 91 = .ok (.aload_n 0, 1) := by decide +kernel
theorem dX3_copyFrom_92 : decode cX3_copyFrom 92 = .ok (.aload_n 1, 1) := by decide +kernel
theorem dX3_copyFrom_93 : decode cX3_copyFrom 93 = .ok (.getfield 45, 3) := by decide +kernel
theorem dX3_copyFrom_96 : decode cX3_copyFrom 96 = .ok (.putfield 45, 3) := by decide +kernel
theorem dX3_copyFrom_99 : decode cX3_copyFrom 99 = .ok (.aload_n 0, 1) := by decide +kernel
theorem dX3_copyFrom_100 : decode cX3_copyFrom 100 = .ok (.aload_n 1, 1) := by decide +kernel
theorem dX3_copyFrom_101 : decode cX3_copyFrom 101 = .ok (.getfield 48, 3) := by decide +kernel
theorem dX3_copyFrom_104 : decode cX3_copyFrom 104 = .ok (.putfield 48, 3) := by decide +kernel
theorem dX3_copyFrom_107 : decode cX3_copyFrom 107 = .ok (.aload_n 0, 1) := by decide +kernel
theorem dX3_copyFrom_108 : decode cX3_copyFrom 108 = .ok (.aload_n 1, 1) := by decide +kernel
theorem dX3_copyFrom_109 : decode cX3_copyFrom 109 = .ok (.getfield 51, 3) := by decide +kernel
theorem dX3_copyFrom_112 : decode cX3_copyFrom 112 = .ok (.putfield 51, 3) := by decide +kernel
theorem dX3_copyFrom_115 : decode cX3_copyFrom 115 = .ok (.return_, 1) := by decide +kernel
theorem dX3_addStrip_0 : decode cX3_addStrip 0 = .ok (.aload_n 0, 1) := by decide +kernel
theorem dX3_addStrip_1 : decode cX3_addStrip 1 = .ok (.getfield 39, 3) := by decide +kernel
theorem dX3_addStrip_4 : decode cX3_addStrip 4 = .ok (.istore_n 3, 1) := by decide +kernel
theorem dX3_addStrip_5 : decode cX3_addStrip 5 = .ok (.iload_n 3, 1) := by decide +kernel
theorem dX3_addStrip_6 : decode cX3_addStrip 6 = .ok (.aload_n 0, 1) := by decide +kernel
theorem dX3_addStrip_7 : decode cX3_addStrip 7 = .ok (.getfield 11, 3) := by decide +kernel
theorem dX3_addStrip_10 : decode cX3_addStrip 10 = .ok (.arraylength, 1) := by decide +kernel
theorem dX3_addStrip_11 : decode cX3_addStrip 11 = .ok (.if_icmp .ge 24, 3) := by decide +kernel
theorem dX3_addStrip_14 : decode cX3_addStrip 14 = .ok (.aload_n 0, 1) := by decide +kernel
theorem dX3_addStrip_15 : decode cX3_addStrip 15 = .ok (.getfield 11, 3) := by decide +kernel
theorem dX3_addStrip_18 : decode cX3_addStrip 18 = .ok (.iload_n 3, 1) := by decide +kernel
theorem dX3_addStrip_19 : decode cX3_addStrip 19 = .ok (.aaload, 1) := by decide +kernel
theorem dX3_addStrip_20 : decode cX3_addStrip 20 = .ok (.iload_n 1, 1) := by decide +kernel
theorem dX3_addStrip_21 : decode cX3_addStrip 21 = .ok (.iload_n 2, 1) := by decide +kernel
theorem dX3_addStrip_22 : decode cX3_addStrip 22 = .ok (.invokevirtual 54, 3) := by decide +kernel
theorem dX3_addStrip_25 : decode cX3_addStrip 25 = .ok (.aload_n 0, 1) := by decide +kernel
theorem dX3_addStrip_26 : decode cX3_addStrip 26 = .ok (.dup, 1) := by decide +kernel
theorem dX3_addStrip_27 : decode cX3_addStrip 27 = .ok (.getfield 39, 3) := by decide +kernel
theorem dX3_addStrip_30 : decode cX3_addStrip 30 = .ok (.iconst 1, 1) := by decide +kernel
theorem dX3_addStrip_31 : decode cX3_addStrip 31 = .ok (.iadd, 1) := by decide +kernel
theorem dX3_addStrip_32 : decode cX3_addStrip 32 = .ok (.putfield 39, 3) := by decide +kernel
theorem dX3_addStrip_35 : decode cX3_addStrip 35 = .ok (.iload_n 3, 1) := by decide +kernel
theorem dX3_addStrip_36 : decode cX3_addStrip 36 = .ok (.ireturn, 1) := by decide +kernel
theorem dX3_stripOrNull_0 : decode cX3_stripOrNull 0 = .ok (.iload_n 1, 1) := by decide +kernel
theorem dX3_stripOrNull_1 : decode cX3_stripOrNull 1 = .ok (.ifCond .lt 29, 3) := by decide +kernel
theorem dX3_stripOrNull_4 : decode cX3_stripOrNull 4 = .ok (.iload_n 1, 1) := by decide +kernel
theorem dX3_stripOrNull_5 : decode cX3_stripOrNull 5 = .ok (.aload_n 0, 1) := by decide +kernel
theorem dX3_stripOrNull_6 : decode cX3_stripOrNull 6 = .ok (.getfield 39, 3) := by decide +kernel
theorem dX3_stripOrNull_9 : decode cX3_stripOrNull 9 = .ok (.if_icmp .ge 21, 3) := by decide +kernel
theorem dX3_stripOrNull_12 : decode cX3_stripOrNull 12 = .ok (.iload_n 1, 1) := by decide +kernel
theorem dX3_stripOrNull_13 : decode cX3_stripOrNull 13 = .ok (.aload_n 0, 1) := by decide +kernel
theorem dX3_stripOrNull_14 : decode cX3_stripOrNull 14 = .ok (.getfield 11, 3) := by decide +kernel
theorem dX3_stripOrNull_17 : decode cX3_stripOrNull 17 = .ok (.arraylength, 1) := by decide +kernel
theorem dX3_stripOrNull_18 : decode cX3_stripOrNull 18 = .ok (.if_icmp .ge 12, 3) := by decide +kernel
theorem dX3_stripOrNull_21 : decode cX3_stripOrNull 21 = .ok (.aload_n 0, 1) := by decide +kernel
theorem dX3_stripOrNull_22 : decode cX3_stripOrNull 22 = .ok (.getfield 11, 3) := by decide +kernel
theorem dX3_stripOrNull_25 : decode cX3_stripOrNull 25 = .ok (.iload_n 1, 1) := by decide +kernel
theorem dX3_stripOrNull_26 : decode cX3_stripOrNull 26 = .ok (.aaload, 1) := by decide +kernel
theorem dX3_stripOrNull_27 : decode cX3_stripOrNull 27 = .ok (.goto 4, 3) := by decide +kernel
theorem dX3_stripOrNull_30 : decode cX3_stripOrNull 30 = .ok (.aconst_null, 1) := by decide +kernel
theorem dX3_stripOrNull_31 : decode cX3_stripOrNull 31 = .ok (.areturn, 1) := by decide +kernel
theorem dX3_lengthOfStrips_0 : decode cX3_lengthOfStrips 0 = .ok (.iconst 0, 1) := by decide +kernel
theorem dX3_lengthOfStrips_1 : decode cX3_lengthOfStrips 1 = .ok (.istore_n 1, 1) := by decide +kernel
theorem dX3_lengthOfStrips_2 : decode cX3_lengthOfStrips 2 = .ok (.aload_n 0, 1) := by decide +kernel
theorem dX3_lengthOfStrips_3 : decode cX3_lengthOfStrips 3 = .ok (.getfield 11, 3) := by decide +kernel
theorem dX3_lengthOfStrips_6 : decode cX3_lengthOfStrips 6 = .ok (.astore_n 2, 1) := by decide +kernel
theorem dX3_lengthOfStrips_7 : decode cX3_lengthOfStrips 7 = .ok (.aload_n 2, 1) := by decide +kernel
theorem dX3_lengthOfStrips_8 : decode cX3_lengthOfStrips 8 = .ok (.arraylength, 1) := by decide +kernel
theorem dX3_lengthOfStrips_9 : decode cX3_lengthOfStrips 9 = .ok (.istore_n 3, 1) := by decide +kernel
theorem dX3_lengthOfStrips_10 : decode cX3_lengthOfStrips 10 = .ok (.iconst 0, 1) := by decide +kernel
theorem dX3_lengthOfStrips_11 : decode cX3_lengthOfStrips 11 = .ok (.istore 4, 2) := by decide +kernel
theorem dX3_lengthOfStrips_13 : decode cX3_lengthOfStrips 13 = .ok (.iload 4, 2) := by decide +kernel
theorem dX3_lengthOfStrips_15 : decode cX3_lengthOfStrips 15 = .ok (.iload_n 3, 1) := by decide +kernel
theorem dX3_lengthOfStrips_16 : decode cX3_lengthOfStrips 16 = .ok (.if_icmp .ge 23, 3) := by decide +kernel
theorem dX3_lengthOfStrips_19 : decode cX3_lengthOfStrips 19 = .ok (.aload_n 2, 1) := by decide +kernel
theorem dX3_lengthOfStrips_20 : decode cX3_lengthOfStrips 20 = .ok (.iload 4, 2) := by decide +kernel
theorem dX3_lengthOfStrips_22 : decode cX3_lengthOfStrips 22 = .ok (.aaload, 1) := by decide +kernel
theorem dX3_lengthOfStrips_23 : decode cX3_lengthOfStrips 23 = .ok (.astore 5, 2) := by decide +kernel
theorem dX3_lengthOfStrips_25 : decode cX3_lengthOfStrips 25 = .ok (.iload_n 1, 1) := by decide +kernel
theorem dX3_lengthOfStrips_26 : decode cX3_lengthOfStrips 26 = .ok (.aload 5, 2) := by decide +kernel
theorem dX3_lengthOfStrips_28 : decode cX3_lengthOfStrips 28 = .ok (.getfield 58, 3) := by decide +kernel
theorem dX3_lengthOfStrips_31 : decode cX3_lengthOfStrips 31 = .ok (.iadd, 1) := by decide +kernel
theorem dX3_lengthOfStrips_32 : decode cX3_lengthOfStrips 32 = .ok (.istore_n 1, 1) := by decide +kernel
theorem dX3_lengthOfStrips_33 : decode cX3_lengthOfStrips 33 = .ok (.iinc 4 1, 3) := by decide +kernel
theorem dX3_lengthOfStrips_36 : decode cX3_lengthOfStrips 36 = .ok (.goto (-23), 3) := by decide +kernel
theorem dX3_lengthOfStrips_39 : decode cX3_lengthOfStrips 39 = .ok (.iload_n 1, 1) := by decide +kernel
theorem dX3_lengthOfStrips_40 : decode cX3_lengthOfStrips 40 = .ok (.ireturn, 1) := by decide +kernel
theorem dX3_leftOfStrips_0 : decode cX3_leftOfStrips 0 = .ok (.iconst 0, 1) := by decide +kernel
theorem dX3_leftOfStrips_1 : decode cX3_leftOfStrips 1 = .ok (.istore_n 1, 1) := by decide +kernel
theorem dX3_leftOfStrips_2 : decode cX3_leftOfStrips 2 = .ok (.aload_n 0, 1) := by decide +kernel
theorem dX3_leftOfStrips_3 : decode cX3_leftOfStrips 3 = .ok (.getfield 11, 3) := by decide +kernel
theorem dX3_leftOfStrips_6 : decode cX3_leftOfStrips 6 = .ok (.astore_n 2, 1) := by decide +kernel
theorem dX3_leftOfStrips_7 : decode cX3_leftOfStrips 7 = .ok (.aload_n 2, 1) := by decide +kernel
theorem dX3_leftOfStrips_8 : decode cX3_leftOfStrips 8 = .ok (.arraylength, 1) := by decide +kernel
theorem dX3_leftOfStrips_9 : decode cX3_leftOfStrips 9 = .ok (.istore_n 3, 1) := by decide +kernel
theorem dX3_leftOfStrips_10 : decode cX3_leftOfStrips 10 = .ok (.iconst 0, 1) := by decide +kernel
theorem dX3_leftOfStrips_11 : decode cX3_leftOfStrips 11 = .ok (.istore 4, 2) := by decide +kernel
theorem dX3_leftOfStrips_13 : decode cX3_leftOfStrips 13 = .ok (.iload 4, 2) := by decide +kernel
theorem dX3_leftOfStrips_15 : decode cX3_leftOfStrips 15 = .ok (.iload_n 3, 1) := by decide +kernel
theorem dX3_leftOfStrips_16 : decode cX3_leftOfStrips 16 = .ok (.if_icmp .ge 23, 3) := by decide +kernel
theorem dX3_leftOfStrips_19 : decode cX3_leftOfStrips 19 = .ok (.aload_n 2, 1) := by decide +kernel
theorem dX3_leftOfStrips_20 : decode cX3_leftOfStrips 20 = .ok (.iload 4, 2) := by decide +kernel
theorem dX3_leftOfStrips_22 : decode cX3_leftOfStrips 22 = .ok (.aaload, 1) := by decide +kernel
theorem dX3_leftOfStrips_23 : decode cX3_leftOfStrips 23 = .ok (.astore 5, 2) := by decide +kernel
theorem dX3_leftOfStrips_25 : decode cX3_leftOfStrips 25 = .ok (.iload_n 1, 1) := by decide +kernel
theorem dX3_leftOfStrips_26 : decode cX3_leftOfStrips 26 = .ok (.aload 5, 2) := by decide +kernel
theorem dX3_leftOfStrips_28 : decode cX3_leftOfStrips 28 = .ok (.invokevirtual 61, 3) := by decide +kernel
theorem dX3_leftOfStrips_31 : decode cX3_leftOfStrips 31 = .ok (.iadd, 1) := by decide +kernel
theorem dX3_leftOfStrips_32 : decode cX3_leftOfStrips 32 = .ok (.istore_n 1, 1) := by decide +kernel
theorem dX3_leftOfStrips_33 : decode cX3_leftOfStrips 33 = .ok (.iinc 4 1, 3) := by decide +kernel
theorem dX3_leftOfStrips_36 : decode cX3_leftOfStrips 36 = .ok (.goto (-23), 3) := by decide +kernel
theorem dX3_leftOfStrips_39 : decode cX3_leftOfStrips 39 = .ok (.iload_n 1, 1) := by decide +kernel
theorem dX3_leftOfStrips_40 : decode cX3_leftOfStrips 40 = .ok (.ireturn, 1) := by decide +kernel
theorem dX3_tesseraeAtHand_0 : decode cX3_tesseraeAtHand 0 = .ok (.iconst 0, 1) := by decide +kernel
theorem dX3_tesseraeAtHand_1 : decode cX3_tesseraeAtHand 1 = .ok (.istore_n 1, 1) := by decide +kernel
theorem dX3_tesseraeAtHand_2 : decode cX3_tesseraeAtHand 2 = .ok (.aload_n 0, 1) := by decide +kernel
theorem dX3_tesseraeAtHand_3 : decode cX3_tesseraeAtHand 3 = .ok (.getfield 17, 3) := by decide +kernel
theorem dX3_tesseraeAtHand_6 : decode cX3_tesseraeAtHand 6 = .ok (.astore_n 2, 1) := by decide +kernel
theorem dX3_tesseraeAtHand_7 : decode cX3_tesseraeAtHand 7 = .ok (.aload_n 2, 1) := by decide +kernel
theorem dX3_tesseraeAtHand_8 : decode cX3_tesseraeAtHand 8 = .ok (.arraylength, 1) := by decide +kernel
theorem dX3_tesseraeAtHand_9 : decode cX3_tesseraeAtHand 9 = .ok (.istore_n 3, 1) := by decide +kernel
theorem dX3_tesseraeAtHand_10 : decode cX3_tesseraeAtHand 10 = .ok (.iconst 0, 1) := by decide +kernel
theorem dX3_tesseraeAtHand_11 : decode cX3_tesseraeAtHand 11 = .ok (.istore 4, 2) := by decide +kernel
theorem dX3_tesseraeAtHand_13 : decode cX3_tesseraeAtHand 13 = .ok (.iload 4, 2) := by decide +kernel
theorem dX3_tesseraeAtHand_15 : decode cX3_tesseraeAtHand 15 = .ok (.iload_n 3, 1) := by decide +kernel
theorem dX3_tesseraeAtHand_16 : decode cX3_tesseraeAtHand 16 = .ok (.if_icmp .ge 20, 3) := by decide +kernel
theorem dX3_tesseraeAtHand_19 : decode cX3_tesseraeAtHand 19 = .ok (.aload_n 2, 1) := by decide +kernel
theorem dX3_tesseraeAtHand_20 : decode cX3_tesseraeAtHand 20 = .ok (.iload 4, 2) := by decide +kernel
theorem dX3_tesseraeAtHand_22 : decode cX3_tesseraeAtHand 22 = .ok (.iaload, 1) := by decide +kernel
theorem dX3_tesseraeAtHand_23 : decode cX3_tesseraeAtHand 23 = .ok (.istore 5, 2) := by decide +kernel
theorem dX3_tesseraeAtHand_25 : decode cX3_tesseraeAtHand 25 = .ok (.iload_n 1, 1) := by decide +kernel
theorem dX3_tesseraeAtHand_26 : decode cX3_tesseraeAtHand 26 = .ok (.iload 5, 2) := by decide +kernel
theorem dX3_tesseraeAtHand_28 : decode cX3_tesseraeAtHand 28 = .ok (.iadd, 1) := by decide +kernel
theorem dX3_tesseraeAtHand_29 : decode cX3_tesseraeAtHand 29 = .ok (.istore_n 1, 1) := by decide +kernel
theorem dX3_tesseraeAtHand_30 : decode cX3_tesseraeAtHand 30 = .ok (.iinc 4 1, 3) := by decide +kernel
theorem dX3_tesseraeAtHand_33 : decode cX3_tesseraeAtHand 33 = .ok (.goto (-20), 3) := by decide +kernel
theorem dX3_tesseraeAtHand_36 : decode cX3_tesseraeAtHand 36 = .ok (.iload_n 1, 1) := by decide +kernel
theorem dX3_tesseraeAtHand_37 : decode cX3_tesseraeAtHand 37 = .ok (.ireturn, 1) := by decide +kernel
theorem dX3_atHandOf_0 : decode cX3_atHandOf 0 = .ok (.iload_n 1, 1) := by decide +kernel
theorem dX3_atHandOf_1 : decode cX3_atHandOf 1 = .ok (.invokestatic 65, 3) := by decide +kernel
theorem dX3_atHandOf_4 : decode cX3_atHandOf 4 = .ok (.ifCond .eq 12, 3) := by decide +kernel
theorem dX3_atHandOf_7 : decode cX3_atHandOf 7 = .ok (.aload_n 0, 1) := by decide +kernel
theorem dX3_atHandOf_8 : decode cX3_atHandOf 8 = .ok (.getfield 17, 3) := by decide +kernel
theorem dX3_atHandOf_11 : decode cX3_atHandOf 11 = .ok (.iload_n 1, 1) := by decide +kernel
theorem dX3_atHandOf_12 : decode cX3_atHandOf 12 = .ok (.iaload, 1) := by decide +kernel
theorem dX3_atHandOf_13 : decode cX3_atHandOf 13 = .ok (.goto 4, 3) := by decide +kernel
theorem dX3_atHandOf_16 : decode cX3_atHandOf 16 = .ok (.iconst 0, 1) := by decide +kernel
theorem dX3_atHandOf_17 : decode cX3_atHandOf 17 = .ok (.ireturn, 1) := by decide +kernel
theorem dX3_putAtHand_0 : decode cX3_putAtHand 0 = .ok (.iload_n 1, 1) := by decide +kernel
theorem dX3_putAtHand_1 : decode cX3_putAtHand 1 = .ok (.invokestatic 65, 3) := by decide +kernel
theorem dX3_putAtHand_4 : decode cX3_putAtHand 4 = .ok (.ifCond .eq 13, 3) := by decide +kernel
theorem dX3_putAtHand_7 : decode cX3_putAtHand 7 = .ok (.aload_n 0, 1) := by decide +kernel
theorem dX3_putAtHand_8 : decode cX3_putAtHand 8 = .ok (.getfield 17, 3) := by decide +kernel
theorem dX3_putAtHand_11 : decode cX3_putAtHand 11 = .ok (.iload_n 1, 1) := by decide +kernel
theorem dX3_putAtHand_12 : decode cX3_putAtHand 12 = .ok (.dup2, 1) := by decide +kernel
theorem dX3_putAtHand_13 : decode cX3_putAtHand 13 = .ok (.iaload, 1) := by decide +kernel
theorem dX3_putAtHand_14 : decode cX3_putAtHand 14 = .ok (.iconst 1, 1) := by decide +kernel
theorem dX3_putAtHand_15 : decode cX3_putAtHand 15 = .ok (.iadd, 1) := by decide +kernel
theorem dX3_putAtHand_16 : decode cX3_putAtHand 16 = .ok (.iastore, 1) := by decide +kernel
theorem dX3_putAtHand_17 : decode cX3_putAtHand 17 = .ok (.return_, 1) := by decide +kernel
theorem dX3_takeFromHand_0 : decode cX3_takeFromHand 0 = .ok (.aload_n 0, 1) := by decide +kernel
theorem dX3_takeFromHand_1 : decode cX3_takeFromHand 1 = .ok (.iload_n 1, 1) := by decide +kernel
theorem dX3_takeFromHand_2 : decode cX3_takeFromHand 2 = .ok (.invokevirtual 69, 3) := by decide +kernel
theorem dX3_takeFromHand_5 : decode cX3_takeFromHand 5 = .ok (.ifCond .le 13, 3) := by decide +kernel
theorem dX3_takeFromHand_8 : decode cX3_takeFromHand 8 = .ok (.aload_n 0, 1) := by decide +kernel
theorem dX3_takeFromHand_9 : decode cX3_takeFromHand 9 = .ok (.getfield 17, 3) := by decide +kernel
theorem dX3_takeFromHand_12 : decode cX3_takeFromHand 12 = .ok (.iload_n 1, 1) := by decide +kernel
theorem dX3_takeFromHand_13 : decode cX3_takeFromHand 13 = .ok (.dup2, 1) := by decide +kernel
theorem dX3_takeFromHand_14 : decode cX3_takeFromHand 14 = .ok (.iaload, 1) := by decide +kernel
theorem dX3_takeFromHand_15 : decode cX3_takeFromHand 15 = .ok (.iconst 1, 1) := by decide +kernel
theorem dX3_takeFromHand_16 : decode cX3_takeFromHand 16 = .ok (.isub, 1) := by decide +kernel
theorem dX3_takeFromHand_17 : decode cX3_takeFromHand 17 = .ok (.iastore, 1) := by decide +kernel
theorem dX3_takeFromHand_18 : decode cX3_takeFromHand 18 = .ok (.return_, 1) := by decide +kernel
theorem dX3_addBroken_0 : decode cX3_addBroken 0 = .ok (.aload_n 0, 1) := by decide +kernel
theorem dX3_addBroken_1 : decode cX3_addBroken 1 = .ok (.dup, 1) := by decide +kernel
theorem dX3_addBroken_2 : decode cX3_addBroken 2 = .ok (.getfield 42, 3) := by decide +kernel
theorem dX3_addBroken_5 : decode cX3_addBroken 5 = .ok (.iconst 1, 1) := by decide +kernel
theorem dX3_addBroken_6 : decode cX3_addBroken 6 = .ok (.iadd, 1) := by decide +kernel
theorem dX3_addBroken_7 : decode cX3_addBroken 7 = .ok (.putfield 42, 3) := by decide +kernel
theorem dX3_addBroken_10 : decode cX3_addBroken 10 = .ok (.aload_n 0, 1) := by decide +kernel
theorem dX3_addBroken_11 : decode cX3_addBroken 11 = .ok (.dup, 1) := by decide +kernel
theorem dX3_addBroken_12 : decode cX3_addBroken 12 = .ok (.getfield 45, 3) := by decide +kernel
theorem dX3_addBroken_15 : decode cX3_addBroken 15 = .ok (.aload_n 0, 1) := by decide +kernel
theorem dX3_addBroken_16 : decode cX3_addBroken 16 = .ok (.getfield 21, 3) := by decide +kernel
theorem dX3_addBroken_19 : decode cX3_addBroken 19 = .ok (.iadd, 1) := by decide +kernel
theorem dX3_addBroken_20 : decode cX3_addBroken 20 = .ok (.putfield 45, 3) := by decide +kernel
theorem dX3_addBroken_23 : decode cX3_addBroken 23 = .ok (.return_, 1) := by decide +kernel
theorem dX3_throwAway_0 : decode cX3_throwAway 0 = .ok (.aload_n 0, 1) := by decide +kernel
theorem dX3_throwAway_1 : decode cX3_throwAway 1 = .ok (.dup, 1) := by decide +kernel
theorem dX3_throwAway_2 : decode cX3_throwAway 2 = .ok (.getfield 51, 3) := by decide +kernel
theorem dX3_throwAway_5 : decode cX3_throwAway 5 = .ok (.aload_n 0, 1) := by decide +kernel
theorem dX3_throwAway_6 : decode cX3_throwAway 6 = .ok (.invokevirtual 73, 3) := by decide +kernel
theorem dX3_throwAway_9 : decode cX3_throwAway 9 = .ok (.aload_n 0, 1) := by decide +kernel
theorem dX3_throwAway_10 : decode cX3_throwAway 10 = .ok (.getfield 21, 3) := by decide +kernel
theorem dX3_throwAway_13 : decode cX3_throwAway 13 = .ok (.imul, 1) := by decide +kernel
theorem dX3_throwAway_14 : decode cX3_throwAway 14 = .ok (.iadd, 1) := by decide +kernel
theorem dX3_throwAway_15 : decode cX3_throwAway 15 = .ok (.putfield 51, 3) := by decide +kernel
theorem dX3_throwAway_18 : decode cX3_throwAway 18 = .ok (.aload_n 0, 1) := by decide +kernel
theorem dX3_throwAway_19 : decode cX3_throwAway 19 = .ok (.getfield 17, 3) := by decide +kernel
theorem dX3_throwAway_22 : decode cX3_throwAway 22 = .ok (.iconst 0, 1) := by decide +kernel
theorem dX3_throwAway_23 : decode cX3_throwAway 23 = .ok (.invokestatic 76, 3) := by decide +kernel
theorem dX3_throwAway_26 : decode cX3_throwAway 26 = .ok (.return_, 1) := by decide +kernel
theorem dX3_readyOf_0 : decode cX3_readyOf 0 = .ok (.aload_n 0, 1) := by decide +kernel
theorem dX3_readyOf_1 : decode cX3_readyOf 1 = .ok (.iload_n 1, 1) := by decide +kernel
theorem dX3_readyOf_2 : decode cX3_readyOf 2 = .ok (.invokevirtual 69, 3) := by decide +kernel
theorem dX3_readyOf_5 : decode cX3_readyOf 5 = .ok (.istore_n 2, 1) := by decide +kernel
theorem dX3_readyOf_6 : decode cX3_readyOf 6 = .ok (.aload_n 0, 1) := by decide +kernel
theorem dX3_readyOf_7 : decode cX3_readyOf 7 = .ok (.getfield 11, 3) := by decide +kernel
theorem dX3_readyOf_10 : decode cX3_readyOf 10 = .ok (.astore_n 3, 1) := by decide +kernel
theorem dX3_readyOf_11 : decode cX3_readyOf 11 = .ok (.aload_n 3, 1) := by decide +kernel
theorem dX3_readyOf_12 : decode cX3_readyOf 12 = .ok (.arraylength, 1) := by decide +kernel
theorem dX3_readyOf_13 : decode cX3_readyOf 13 = .ok (.istore 4, 2) := by decide +kernel
theorem dX3_readyOf_15 : decode cX3_readyOf 15 = .ok (.iconst 0, 1) := by decide +kernel
theorem dX3_readyOf_16 : decode cX3_readyOf 16 = .ok (.istore 5, 2) := by decide +kernel
theorem dX3_readyOf_18 : decode cX3_readyOf 18 = .ok (.iload 5, 2) := by decide +kernel
theorem dX3_readyOf_20 : decode cX3_readyOf 20 = .ok (.iload 4, 2) := by decide +kernel
theorem dX3_readyOf_22 : decode cX3_readyOf 22 = .ok (.if_icmp .ge 40, 3) := by decide +kernel
theorem dX3_readyOf_25 : decode cX3_readyOf 25 = .ok (.aload_n 3, 1) := by decide +kernel
theorem dX3_readyOf_26 : decode cX3_readyOf 26 = .ok (.iload 5, 2) := by decide +kernel
theorem dX3_readyOf_28 : decode cX3_readyOf 28 = .ok (.aaload, 1) := by decide +kernel
theorem dX3_readyOf_29 : decode cX3_readyOf 29 = .ok (.astore 6, 2) := by decide +kernel
theorem dX3_readyOf_31 : decode cX3_readyOf 31 = .ok (.aload 6, 2) := by decide +kernel
theorem dX3_readyOf_33 : decode cX3_readyOf 33 = .ok (.getfield 82, 3) := by decide +kernel
theorem dX3_readyOf_36 : decode cX3_readyOf 36 = .ok (.iload_n 1, 1) := by decide +kernel
theorem dX3_readyOf_37 : decode cX3_readyOf 37 = .ok (.if_icmp .ne 19, 3) := by decide +kernel
theorem dX3_readyOf_40 : decode cX3_readyOf 40 = .ok (.iload_n 2, 1) := by decide +kernel
theorem dX3_readyOf_41 : decode cX3_readyOf 41 = .ok (.aload 6, 2) := by decide +kernel
theorem dX3_readyOf_43 : decode cX3_readyOf 43 = .ok (.aload_n 0, 1) := by decide +kernel
theorem dX3_readyOf_44 : decode cX3_readyOf 44 = .ok (.getfield 21, 3) := by decide +kernel
theorem dX3_readyOf_47 : decode cX3_readyOf 47 = .ok (.aload_n 0, 1) := by decide +kernel
theorem dX3_readyOf_48 : decode cX3_readyOf 48 = .ok (.getfield 25, 3) := by decide +kernel
theorem dX3_readyOf_51 : decode cX3_readyOf 51 = .ok (.invokevirtual 85, 3) := by decide +kernel
theorem dX3_readyOf_54 : decode cX3_readyOf 54 = .ok (.iadd, 1) := by decide +kernel
theorem dX3_readyOf_55 : decode cX3_readyOf 55 = .ok (.istore_n 2, 1) := by decide +kernel
theorem dX3_readyOf_56 : decode cX3_readyOf 56 = .ok (.iinc 5 1, 3) := by decide +kernel
theorem dX3_readyOf_59 : decode cX3_readyOf 59 = .ok (.goto (-41), 3) := by decide +kernel
theorem dX3_readyOf_62 : decode cX3_readyOf 62 = .ok (.iload_n 2, 1) := by decide +kernel
theorem dX3_readyOf_63 : decode cX3_readyOf 63 = .ok (.ireturn, 1) := by decide +kernel
theorem dX3_nearestShadeOrNone_0 : decode cX3_nearestShadeOrNone 0 = .ok (.iconst (-1), 1) := by decide +kernel
theorem dX3_nearestShadeOrNone_1 : decode cX3_nearestShadeOrNone 1 = .ok (.istore_n 2, 1) := by decide +kernel
theorem dX3_nearestShadeOrNone_2 : decode cX3_nearestShadeOrNone 2 = .ok (.iconst 0, 1) := by decide +kernel
theorem dX3_nearestShadeOrNone_3 : decode cX3_nearestShadeOrNone 3 = .ok (.istore_n 3, 1) := by decide +kernel
theorem dX3_nearestShadeOrNone_4 : decode cX3_nearestShadeOrNone 4 = .ok (.iload_n 3, 1) := by decide +kernel
theorem dX3_nearestShadeOrNone_5 : decode cX3_nearestShadeOrNone 5 = .ok (.aload_n 0, 1) := by decide +kernel
theorem dX3_nearestShadeOrNone_6 : decode cX3_nearestShadeOrNone 6 = .ok (.getfield 17, 3) := by decide +kernel
theorem dX3_nearestShadeOrNone_9 : decode cX3_nearestShadeOrNone 9 = .ok (.arraylength, 1) := by decide +kernel
theorem dX3_nearestShadeOrNone_10 : decode cX3_nearestShadeOrNone 10 = .ok (.if_icmp .ge 25, 3) := by decide +kernel
theorem dX3_nearestShadeOrNone_13 : decode cX3_nearestShadeOrNone 13 = .ok (.aload_n 0, 1) := by decide +kernel
theorem dX3_nearestShadeOrNone_14 : decode cX3_nearestShadeOrNone 14 = .ok (.getfield 17, 3) := by decide +kernel
theorem dX3_nearestShadeOrNone_17 : decode cX3_nearestShadeOrNone 17 = .ok (.iload_n 3, 1) := by decide +kernel
theorem dX3_nearestShadeOrNone_18 : decode cX3_nearestShadeOrNone 18 = .ok (.iaload, 1) := by decide +kernel
theorem dX3_nearestShadeOrNone_19 : decode cX3_nearestShadeOrNone 19 = .ok (.ifCond .le 10, 3) := by decide +kernel
theorem dX3_nearestShadeOrNone_22 : decode cX3_nearestShadeOrNone 22 = .ok (.iload_n 1, 1) := by decide +kernel
theorem dX3_nearestShadeOrNone_23 : decode cX3_nearestShadeOrNone 23 = .ok (.iload_n 2, 1) := by decide +kernel
theorem dX3_nearestShadeOrNone_24 : decode cX3_nearestShadeOrNone 24 = .ok (.iload_n 3, 1) := by decide +kernel
theorem dX3_nearestShadeOrNone_25 : decode cX3_nearestShadeOrNone 25 = .ok (.invokestatic 89, 3) := by decide +kernel
theorem dX3_nearestShadeOrNone_28 : decode cX3_nearestShadeOrNone 28 = .ok (.istore_n 2, 1) := by decide +kernel
theorem dX3_nearestShadeOrNone_29 : decode cX3_nearestShadeOrNone 29 = .ok (.iinc 3 1, 3) := by decide +kernel
theorem dX3_nearestShadeOrNone_32 : decode cX3_nearestShadeOrNone 32 = .ok (.goto (-28), 3) := by decide +kernel
theorem dX3_nearestShadeOrNone_35 : decode cX3_nearestShadeOrNone 35 = .ok (.aload_n 0, 1) := by decide +kernel
theorem dX3_nearestShadeOrNone_36 : decode cX3_nearestShadeOrNone 36 = .ok (.getfield 11, 3) := by decide +kernel
theorem dX3_nearestShadeOrNone_39 : decode cX3_nearestShadeOrNone 39 = .ok (.astore_n 3, 1) := by decide +kernel
theorem dX3_nearestShadeOrNone_40 : decode cX3_nearestShadeOrNone 40 = .ok (.aload_n 3, 1) := by decide +kernel
theorem dX3_nearestShadeOrNone_41 : decode cX3_nearestShadeOrNone 41 = .ok (.arraylength, 1) := by decide +kernel
theorem dX3_nearestShadeOrNone_42 : decode cX3_nearestShadeOrNone 42 = .ok (.istore 4, 2) := by decide +kernel
theorem dX3_nearestShadeOrNone_44 : decode cX3_nearestShadeOrNone 44 = .ok (.iconst 0, 1) := by decide +kernel
theorem dX3_nearestShadeOrNone_45 : decode cX3_nearestShadeOrNone 45 = .ok (.istore 5, 2) := by decide +kernel
theorem dX3_nearestShadeOrNone_47 : decode cX3_nearestShadeOrNone 47 = .ok (.iload 5, 2) := by decide +kernel
theorem dX3_nearestShadeOrNone_49 : decode cX3_nearestShadeOrNone 49 = .ok (.iload 4, 2) := by decide +kernel
theorem dX3_nearestShadeOrNone_51 : decode cX3_nearestShadeOrNone 51 = .ok (.if_icmp .ge 42, 3) := by decide +kernel
theorem dX3_nearestShadeOrNone_54 : decode cX3_nearestShadeOrNone 54 = .ok (.aload_n 3, 1) := by decide +kernel
theorem dX3_nearestShadeOrNone_55 : decode cX3_nearestShadeOrNone 55 = .ok (.iload 5, 2) := by decide +kernel
theorem dX3_nearestShadeOrNone_57 : decode cX3_nearestShadeOrNone 57 = .ok (.aaload, 1) := by decide +kernel
theorem dX3_nearestShadeOrNone_58 : decode cX3_nearestShadeOrNone 58 = .ok (.astore 6, 2) := by decide +kernel
theorem dX3_nearestShadeOrNone_60 : decode cX3_nearestShadeOrNone 60 = .ok (.aload 6, 2) := by decide +kernel
theorem dX3_nearestShadeOrNone_62 : decode cX3_nearestShadeOrNone 62 = .ok (.aload_n 0, 1) := by decide +kernel
theorem dX3_nearestShadeOrNone_63 : decode cX3_nearestShadeOrNone 63 = .ok (.getfield 21, 3) := by decide +kernel
theorem dX3_nearestShadeOrNone_66 : decode cX3_nearestShadeOrNone 66 = .ok (.aload_n 0, 1) := by decide +kernel
theorem dX3_nearestShadeOrNone_67 : decode cX3_nearestShadeOrNone 67 = .ok (.getfield 25, 3) := by decide +kernel
theorem dX3_nearestShadeOrNone_70 : decode cX3_nearestShadeOrNone 70 = .ok (.invokevirtual 93, 3) := by decide +kernel
theorem dX3_nearestShadeOrNone_73 : decode cX3_nearestShadeOrNone 73 = .ok (.ifCond .eq 14, 3) := by decide +kernel
theorem dX3_nearestShadeOrNone_76 : decode cX3_nearestShadeOrNone 76 = .ok (.iload_n 1, 1) := by decide +kernel
theorem dX3_nearestShadeOrNone_77 : decode cX3_nearestShadeOrNone 77 = .ok (.iload_n 2, 1) := by decide +kernel
theorem dX3_nearestShadeOrNone_78 : decode cX3_nearestShadeOrNone 78 = .ok (.aload 6, 2) := by decide +kernel
theorem dX3_nearestShadeOrNone_80 : decode cX3_nearestShadeOrNone 80 = .ok (.getfield 82, 3) := by decide +kernel
theorem dX3_nearestShadeOrNone_83 : decode cX3_nearestShadeOrNone 83 = .ok (.invokestatic 89, 3) := by decide +kernel
theorem dX3_nearestShadeOrNone_86 : decode cX3_nearestShadeOrNone 86 = .ok (.istore_n 2, 1) := by decide +kernel
theorem dX3_nearestShadeOrNone_87 : decode cX3_nearestShadeOrNone 87 = .ok (.iinc 5 1, 3) := by decide +kernel
theorem dX3_nearestShadeOrNone_90 : decode cX3_nearestShadeOrNone 90 = .ok (.goto (-43), 3) := by decide +kernel
theorem dX3_nearestShadeOrNone_93 : decode cX3_nearestShadeOrNone 93 = .ok (.iload_n 2, 1) := by decide +kernel
theorem dX3_nearestShadeOrNone_94 : decode cX3_nearestShadeOrNone 94 = .ok (.ireturn, 1) := by decide +kernel
theorem dX3_nearer_0 : decode cX3_nearer 0 = .ok (.iload_n 1, 1) := by decide +kernel
theorem dX3_nearer_1 : decode cX3_nearer 1 = .ok (.iconst (-1), 1) := by decide +kernel
theorem dX3_nearer_2 : decode cX3_nearer 2 = .ok (.if_icmp .ne 5, 3) := by decide +kernel
theorem dX3_nearer_5 : decode cX3_nearer 5 = .ok (.iload_n 2, 1) := by decide +kernel
theorem dX3_nearer_6 : decode cX3_nearer 6 = .ok (.ireturn, 1) := by decide +kernel
theorem dX3_nearer_7 : decode cX3_nearer 7 = .ok (.iload_n 1, 1) := by decide +kernel
theorem dX3_nearer_8 : decode cX3_nearer 8 = .ok (.iload_n 0, 1) := by decide +kernel
theorem dX3_nearer_9 : decode cX3_nearer 9 = .ok (.isub, 1) := by decide +kernel
theorem dX3_nearer_10 : decode cX3_nearer 10 = .ok (.invokestatic 97, 3) := by decide +kernel
theorem dX3_nearer_13 : decode cX3_nearer 13 = .ok (.istore_n 3, 1) := by decide +kernel
theorem dX3_nearer_14 : decode cX3_nearer 14 = .ok (.iload_n 2, 1) := by decide +kernel
theorem dX3_nearer_15 : decode cX3_nearer 15 = .ok (.iload_n 0, 1) := by decide +kernel
theorem dX3_nearer_16 : decode cX3_nearer 16 = .ok (.isub, 1) := by decide +kernel
theorem dX3_nearer_17 : decode cX3_nearer 17 = .ok (.invokestatic 97, 3) := by decide +kernel
theorem dX3_nearer_20 : decode cX3_nearer 20 = .ok (.istore 4, 2) := by decide +kernel
theorem dX3_nearer_22 : decode cX3_nearer 22 = .ok (.iload_n 3, 1) := by decide +kernel
theorem dX3_nearer_23 : decode cX3_nearer 23 = .ok (.iload 4, 2) := by decide +kernel
theorem dX3_nearer_25 : decode cX3_nearer 25 = .ok (.if_icmp .ne 9, 3) := by decide +kernel
theorem dX3_nearer_28 : decode cX3_nearer 28 = .ok (.iload_n 1, 1) := by decide +kernel
theorem dX3_nearer_29 : decode cX3_nearer 29 = .ok (.iload_n 2, 1) := by decide +kernel
theorem dX3_nearer_30 : decode cX3_nearer 30 = .ok (.invokestatic 102, 3) := by decide +kernel
theorem dX3_nearer_33 : decode cX3_nearer 33 = .ok (.ireturn, 1) := by decide +kernel
theorem dX3_nearer_34 : decode cX3_nearer 34 = .ok (.iload_n 3, 1) := by decide +kernel
theorem dX3_nearer_35 : decode cX3_nearer 35 = .ok (.iload 4, 2) := by decide +kernel
theorem dX3_nearer_37 : decode cX3_nearer 37 = .ok (.if_icmp .ge 7, 3) := by decide +kernel
theorem dX3_nearer_40 : decode cX3_nearer 40 = .ok (.iload_n 1, 1) := by decide +kernel
theorem dX3_nearer_41 : decode cX3_nearer 41 = .ok (.goto 4, 3) := by decide +kernel
theorem dX3_nearer_44 : decode cX3_nearer 44 = .ok (.iload_n 2, 1) := by decide +kernel
theorem dX3_nearer_45 : decode cX3_nearer 45 = .ok (.ireturn, 1) := by decide +kernel
theorem dX3_bringToHand_0 : decode cX3_bringToHand 0 = .ok (.aload_n 0, 1) := by decide +kernel
theorem dX3_bringToHand_1 : decode cX3_bringToHand 1 = .ok (.iload_n 1, 1) := by decide +kernel
theorem dX3_bringToHand_2 : decode cX3_bringToHand 2 = .ok (.invokevirtual 69, 3) := by decide +kernel
theorem dX3_bringToHand_5 : decode cX3_bringToHand 5 = .ok (.ifCond .le 4, 3) := by decide +kernel
theorem dX3_bringToHand_8 : decode cX3_bringToHand 8 = .ok (.return_, 1) := by decide +kernel
theorem dX3_bringToHand_9 : decode cX3_bringToHand 9 = .ok (.aload_n 0, 1) := by decide +kernel
theorem dX3_bringToHand_10 : decode cX3_bringToHand 10 = .ok (.iload_n 1, 1) := by decide +kernel
theorem dX3_bringToHand_11 : decode cX3_bringToHand 11 = .ok (.invokevirtual 105, 3) := by decide +kernel
theorem dX3_bringToHand_14 : decode cX3_bringToHand 14 = .ok (.astore_n 2, 1) := by decide +kernel
theorem dX3_bringToHand_15 : decode cX3_bringToHand 15 = .ok (.aload_n 2, 1) := by decide +kernel
theorem dX3_bringToHand_16 : decode cX3_bringToHand 16 = .ok (.ifnonnull 4, 3) := by decide +kernel
theorem dX3_bringToHand_19 : decode cX3_bringToHand 19 = .ok (.return_, 1) := by decide +kernel
theorem dX3_bringToHand_20 : decode cX3_bringToHand 20 = .ok (.aload_n 2, 1) := by decide +kernel
theorem dX3_bringToHand_21 : decode cX3_bringToHand 21 = .ok (.aload_n 0, 1) := by decide +kernel
theorem dX3_bringToHand_22 : decode cX3_bringToHand 22 = .ok (.getfield 21, 3) := by decide +kernel
theorem dX3_bringToHand_25 : decode cX3_bringToHand 25 = .ok (.aload_n 0, 1) := by decide +kernel
theorem dX3_bringToHand_26 : decode cX3_bringToHand 26 = .ok (.getfield 25, 3) := by decide +kernel
theorem dX3_bringToHand_29 : decode cX3_bringToHand 29 = .ok (.invokevirtual 109, 3) := by decide +kernel
theorem dX3_bringToHand_32 : decode cX3_bringToHand 32 = .ok (.istore_n 3, 1) := by decide +kernel
theorem dX3_bringToHand_33 : decode cX3_bringToHand 33 = .ok (.iconst 0, 1) := by decide +kernel
theorem dX3_bringToHand_34 : decode cX3_bringToHand 34 = .ok (.istore 4, 2) := by decide +kernel
theorem dX3_bringToHand_36 : decode cX3_bringToHand 36 = .ok (.iload 4, 2) := by decide +kernel
theorem dX3_bringToHand_38 : decode cX3_bringToHand 38 = .ok (.iload_n 3, 1) := by decide +kernel
theorem dX3_bringToHand_39 : decode cX3_bringToHand 39 = .ok (.if_icmp .ge 23, 3) := by decide +kernel
theorem dX3_bringToHand_42 : decode cX3_bringToHand 42 = .ok (.aload_n 0, 1) := by decide +kernel
theorem dX3_bringToHand_43 : decode cX3_bringToHand 43 = .ok (.iload_n 1, 1) := by decide +kernel
theorem dX3_bringToHand_44 : decode cX3_bringToHand 44 = .ok (.invokevirtual 69, 3) := by decide +kernel
theorem dX3_bringToHand_47 : decode cX3_bringToHand 47 = .ok (.ifCond .ne 15, 3) := by decide +kernel
theorem dX3_bringToHand_50 : decode cX3_bringToHand 50 = .ok (.aload_n 0, 1) := by decide +kernel
theorem dX3_bringToHand_51 : decode cX3_bringToHand 51 = .ok (.aload_n 2, 1) := by decide +kernel
theorem dX3_bringToHand_52 : decode cX3_bringToHand 52 = .ok (.invokevirtual 112, 3) := by decide +kernel
theorem dX3_bringToHand_55 : decode cX3_bringToHand 55 = .ok (.pop, 1) := by decide +kernel
theorem dX3_bringToHand_56 : decode cX3_bringToHand 56 = .ok (.iinc 4 1, 3) := by decide +kernel
theorem dX3_bringToHand_59 : decode cX3_bringToHand 59 = .ok (.goto (-23), 3) := by decide +kernel
theorem dX3_bringToHand_62 : decode cX3_bringToHand 62 = .ok (.return_, 1) := by decide +kernel
theorem dX3_firstStripGivingOrNull_0 : decode cX3_firstStripGivingOrNull 0 = .ok (.aload_n 0, 1) := by decide +kernel
theorem dX3_firstStripGivingOrNull_1 : decode cX3_firstStripGivingOrNull 1 = .ok (.getfield 11, 3) := by decide +kernel
theorem dX3_firstStripGivingOrNull_4 : decode cX3_firstStripGivingOrNull 4 = .ok (.astore_n 2, 1) := by decide +kernel
theorem dX3_firstStripGivingOrNull_5 : decode cX3_firstStripGivingOrNull 5 = .ok (.aload_n 2, 1) := by decide +kernel
theorem dX3_firstStripGivingOrNull_6 : decode cX3_firstStripGivingOrNull 6 = .ok (.arraylength, 1) := by decide +kernel
theorem dX3_firstStripGivingOrNull_7 : decode cX3_firstStripGivingOrNull 7 = .ok (.istore_n 3, 1) := by decide +kernel
theorem dX3_firstStripGivingOrNull_8 : decode cX3_firstStripGivingOrNull 8 = .ok (.iconst 0, 1) := by decide +kernel
theorem dX3_firstStripGivingOrNull_9 : decode cX3_firstStripGivingOrNull 9 = .ok (.istore 4, 2) := by decide +kernel
theorem dX3_firstStripGivingOrNull_11 : decode cX3_firstStripGivingOrNull 11 = .ok (.iload 4, 2) := by decide +kernel
theorem dX3_firstStripGivingOrNull_13 : decode cX3_firstStripGivingOrNull 13 = .ok (.iload_n 3, 1) := by decide +kernel
theorem dX3_firstStripGivingOrNull_14 : decode cX3_firstStripGivingOrNull 14 = .ok (.if_icmp .ge 43, 3) := by decide +kernel
theorem dX3_firstStripGivingOrNull_17 : decode cX3_firstStripGivingOrNull 17 = .ok (.aload_n 2, 1) := by decide +kernel
theorem dX3_firstStripGivingOrNull_18 : decode cX3_firstStripGivingOrNull 18 = .ok (.iload 4, 2) := by decide +kernel
theorem dX3_firstStripGivingOrNull_20 : decode cX3_firstStripGivingOrNull 20 = .ok (.aaload, 1) := by decide +kernel
theorem dX3_firstStripGivingOrNull_21 : decode cX3_firstStripGivingOrNull 21 = .ok (.astore 5, 2) := by decide +kernel
theorem dX3_firstStripGivingOrNull_23 : decode cX3_firstStripGivingOrNull 23 = .ok (.aload 5, 2) := by decide +kernel
theorem dX3_firstStripGivingOrNull_25 : decode cX3_firstStripGivingOrNull 25 = .ok (.getfield 82, 3) := by decide +kernel
theorem dX3_firstStripGivingOrNull_28 : decode cX3_firstStripGivingOrNull 28 = .ok (.iload_n 1, 1) := by decide +kernel
theorem dX3_firstStripGivingOrNull_29 : decode cX3_firstStripGivingOrNull 29 = .ok (.if_icmp .ne 22, 3) := by decide +kernel
theorem dX3_firstStripGivingOrNull_32 : decode cX3_firstStripGivingOrNull 32 = .ok (.aload 5, 2) := by decide +kernel
theorem dX3_firstStripGivingOrNull_34 : decode cX3_firstStripGivingOrNull 34 = .ok (.aload_n 0, 1) := by decide +kernel
theorem dX3_firstStripGivingOrNull_35 : decode cX3_firstStripGivingOrNull 35 = .ok (.getfield 21, 3) := by decide +kernel
theorem dX3_firstStripGivingOrNull_38 : decode cX3_firstStripGivingOrNull 38 = .ok (.aload_n 0, 1) := by decide +kernel
theorem dX3_firstStripGivingOrNull_39 : decode cX3_firstStripGivingOrNull 39 = .ok (.getfield 25, 3) := by decide +kernel
theorem dX3_firstStripGivingOrNull_42 : decode cX3_firstStripGivingOrNull 42 = .ok (.invokevirtual 93, 3) := by decide +kernel
theorem dX3_firstStripGivingOrNull_45 : decode cX3_firstStripGivingOrNull 45 = .ok (.ifCond .eq 6, 3) := by decide +kernel
theorem dX3_firstStripGivingOrNull_48 : decode cX3_firstStripGivingOrNull 48 = .ok (.aload 5, 2) := by decide +kernel
theorem dX3_firstStripGivingOrNull_50 : decode cX3_firstStripGivingOrNull 50 = .ok (.areturn, 1) := by decide +kernel
theorem dX3_firstStripGivingOrNull_51 : decode cX3_firstStripGivingOrNull 51 = .ok (.iinc 4 1, 3) := by decide +kernel
theorem dX3_firstStripGivingOrNull_54 : decode cX3_firstStripGivingOrNull 54 = .ok (.goto (-43), 3) := by decide +kernel
theorem dX3_firstStripGivingOrNull_57 : decode cX3_firstStripGivingOrNull 57 = .ok (.aconst_null, 1) := by decide +kernel
theorem dX3_firstStripGivingOrNull_58 : decode cX3_firstStripGivingOrNull 58 = .ok (.areturn, 1) := by decide +kernel
theorem dX3_cutFrom_0 : decode cX3_cutFrom 0 = .ok (.aload_n 1, 1) := by decide +kernel
theorem dX3_cutFrom_1 : decode cX3_cutFrom 1 = .ok (.invokevirtual 61, 3) := by decide +kernel
theorem dX3_cutFrom_4 : decode cX3_cutFrom 4 = .ok (.istore_n 2, 1) := by decide +kernel
theorem dX3_cutFrom_5 : decode cX3_cutFrom 5 = .ok (.aload_n 1, 1) := by decide +kernel
theorem dX3_cutFrom_6 : decode cX3_cutFrom 6 = .ok (.aload_n 0, 1) := by decide +kernel
theorem dX3_cutFrom_7 : decode cX3_cutFrom 7 = .ok (.getfield 21, 3) := by decide +kernel
theorem dX3_cutFrom_10 : decode cX3_cutFrom 10 = .ok (.aload_n 0, 1) := by decide +kernel
theorem dX3_cutFrom_11 : decode cX3_cutFrom 11 = .ok (.getfield 25, 3) := by decide +kernel
theorem dX3_cutFrom_14 : decode cX3_cutFrom 14 = .ok (.invokevirtual 116, 3) := by decide +kernel
theorem dX3_cutFrom_17 : decode cX3_cutFrom 17 = .ok (.istore_n 3, 1) := by decide +kernel
theorem dX3_cutFrom_18 : decode cX3_cutFrom 18 = .ok (.aload_n 0, 1) := by decide +kernel
theorem dX3_cutFrom_19 : decode cX3_cutFrom 19 = .ok (.dup, 1) := by decide +kernel
theorem dX3_cutFrom_20 : decode cX3_cutFrom 20 = .ok (.getfield 48, 3) := by decide +kernel
theorem dX3_cutFrom_23 : decode cX3_cutFrom 23 = .ok (.iload_n 2, 1) := by decide +kernel
theorem dX3_cutFrom_24 : decode cX3_cutFrom 24 = .ok (.aload_n 0, 1) := by decide +kernel
theorem dX3_cutFrom_25 : decode cX3_cutFrom 25 = .ok (.getfield 21, 3) := by decide +kernel
theorem dX3_cutFrom_28 : decode cX3_cutFrom 28 = .ok (.isub, 1) := by decide +kernel
theorem dX3_cutFrom_29 : decode cX3_cutFrom 29 = .ok (.aload_n 1, 1) := by decide +kernel
theorem dX3_cutFrom_30 : decode cX3_cutFrom 30 = .ok (.invokevirtual 61, 3) := by decide +kernel
theorem dX3_cutFrom_33 : decode cX3_cutFrom 33 = .ok (.isub, 1) := by decide +kernel
theorem dX3_cutFrom_34 : decode cX3_cutFrom 34 = .ok (.iadd, 1) := by decide +kernel
theorem dX3_cutFrom_35 : decode cX3_cutFrom 35 = .ok (.putfield 48, 3) := by decide +kernel
theorem dX3_cutFrom_38 : decode cX3_cutFrom 38 = .ok (.iload_n 3, 1) := by decide +kernel
theorem dX3_cutFrom_39 : decode cX3_cutFrom 39 = .ok (.ifCond .eq 14, 3) := by decide +kernel
theorem dX3_cutFrom_42 : decode cX3_cutFrom 42 = .ok (.aload_n 0, 1) := by decide +kernel
theorem dX3_cutFrom_43 : decode cX3_cutFrom 43 = .ok (.aload_n 1, 1) := by decide +kernel
theorem dX3_cutFrom_44 : decode cX3_cutFrom 44 = .ok (.getfield 82, 3) := by decide +kernel
theorem dX3_cutFrom_47 : decode cX3_cutFrom 47 = .ok (.invokevirtual 119, 3) := by decide +kernel
theorem dX3_cutFrom_50 : decode cX3_cutFrom 50 = .ok (.goto 7, 3) := by decide +kernel
theorem dX3_cutFrom_53 : decode cX3_cutFrom 53 = .ok (.aload_n 0, 1) := by decide +kernel
theorem dX3_cutFrom_54 : decode cX3_cutFrom 54 = .ok (.invokevirtual 123, 3) := by decide +kernel
theorem dX3_cutFrom_57 : decode cX3_cutFrom 57 = .ok (.iload_n 3, 1) := by decide +kernel
theorem dX3_cutFrom_58 : decode cX3_cutFrom 58 = .ok (.ireturn, 1) := by decide +kernel
theorem dX4_init_0 : decode cX4_init 0 = .ok (.aload_n 0, 1) := by decide +kernel
theorem dX4_init_1 : decode cX4_init 1 = .ok (.invokespecial 3, 3) := by decide +kernel
theorem dX4_init_4 : decode cX4_init 4 = .ok (.aload_n 0, 1) := by decide +kernel
theorem dX4_init_5 : decode cX4_init 5 = .ok (.bipush 6, 2) := by decide +kernel
theorem dX4_init_7 : decode cX4_init 7 = .ok (.newarray .int, 2) := by decide +kernel
theorem dX4_init_9 : decode cX4_init 9 = .ok (.putfield 9, 3) := by decide +kernel
theorem dX4_init_12 : decode cX4_init 12 = .ok (.return_, 1) := by decide +kernel
theorem dX4_begin_0 : decode cX4_begin 0 = .ok (.aload_n 0, 1) := by decide +kernel
theorem dX4_begin_1 : decode cX4_begin 1 = .ok (.iload_n 1, 1) := by decide +kernel
theorem dX4_begin_2 : decode cX4_begin 2 = .ok (.putfield 15, 3) := by decide +kernel
theorem dX4_begin_5 : decode cX4_begin 5 = .ok (.aload_n 0, 1) := by decide +kernel
theorem dX4_begin_6 : decode cX4_begin 6 = .ok (.iload_n 2, 1) := by decide +kernel
theorem dX4_begin_7 : decode cX4_begin 7 = .ok (.putfield 19, 3) := by decide +kernel
theorem dX4_begin_10 : decode cX4_begin 10 = .ok (.aload_n 0, 1) := by decide +kernel
theorem dX4_begin_11 : decode cX4_begin 11 = .ok (.iconst 0, 1) := by decide +kernel
theorem dX4_begin_12 : decode cX4_begin 12 = .ok (.putfield 22, 3) := by decide +kernel
theorem dX4_begin_15 : decode cX4_begin 15 = .ok (.aload_n 0, 1) := by decide +kernel
theorem dX4_begin_16 : decode cX4_begin 16 = .ok (.iconst 0, 1) := by decide +kernel
theorem dX4_begin_17 : decode cX4_begin 17 = .ok (.putfield 25, 3) := by decide +kernel
theorem dX4_begin_20 : decode cX4_begin 20 = .ok (.aload_n 0, 1) := by decide +kernel
theorem dX4_begin_21 : decode cX4_begin 21 = .ok (.iconst 0, 1) := by decide +kernel
theorem dX4_begin_22 : decode cX4_begin 22 = .ok (.putfield 28, 3) := by decide +kernel
theorem dX4_begin_25 : decode cX4_begin 25 = .ok (.return_, 1) := by decide +kernel
theorem dX4_copyFrom_0 : decode cX4_copyFrom 0 = .ok (.aload_n 1, 1) := by decide +kernel
theorem dX4_copyFrom_1 : decode cX4_copyFrom 1 = .ok (.getfield 9, 3) := by decide +kernel
theorem dX4_copyFrom_4 : decode cX4_copyFrom 4 = .ok (.iconst 0, 1) := by decide +kernel
theorem dX4_copyFrom_5 : decode cX4_copyFrom 5 = .ok (.aload_n 0, 1) := by decide +kernel
theorem dX4_copyFrom_6 : decode cX4_copyFrom 6 = .ok (.getfield 9, 3) := by decide +kernel
theorem dX4_copyFrom_9 : decode cX4_copyFrom 9 = .ok (.iconst 0, 1) := by decide +kernel
theorem dX4_copyFrom_10 : decode cX4_copyFrom 10 = .ok (.aload_n 0, 1) := by decide +kernel
theorem dX4_copyFrom_11 : decode cX4_copyFrom 11 = .ok (.getfield 9, 3) := by decide +kernel
theorem dX4_copyFrom_14 : decode cX4_copyFrom 14 = .ok (.arraylength, 1) := by decide +kernel
theorem dX4_copyFrom_15 : decode cX4_copyFrom 15 = .ok (.invokestatic 31, 3) := by decide +kernel
theorem dX4_copyFrom_18 : decode cX4_copyFrom 18 = .ok (.aload_n 0, 1) := by decide +kernel
theorem dX4_copyFrom_19 : decode cX4_copyFrom 19 = .ok (.aload_n 1, 1) := by decide +kernel
theorem dX4_copyFrom_20 : decode cX4_copyFrom 20 = .ok (.getfield 25, 3) := by decide +kernel
theorem dX4_copyFrom_23 : decode cX4_copyFrom 23 = .ok (.putfield 25, 3) := by decide +kernel
theorem dX4_copyFrom_26 : decode cX4_copyFrom 26 = .ok (.aload_n 0, 1) := by decide +kernel
theorem dX4_copyFrom_27 : decode cX4_copyFrom 27 = .ok (.aload_n 1, 1) := by decide +kernel
theorem dX4_copyFrom_28 : decode cX4_copyFrom 28 = .ok (.getfield 15, 3) := by decide +kernel
theorem dX4_copyFrom_31 : decode cX4_copyFrom 31 = .ok (.putfield 15, 3) := by decide +kernel
theorem dX4_copyFrom_34 : decode cX4_copyFrom 34 = .ok (.aload_n 0, 1) := by decide +kernel
theorem dX4_copyFrom_35 : decode cX4_copyFrom 35 = .ok (.aload_n 1, 1) := by decide +kernel
theorem dX4_copyFrom_36 : decode cX4_copyFrom 36 = .ok (.getfield 19, 3) := by decide +kernel
theorem dX4_copyFrom_39 : decode cX4_copyFrom 39 = .ok (.putfield 19, 3) := by decide +kernel
theorem dX4_copyFrom_42 : decode cX4_copyFrom 42 = .ok (.aload_n 0, 1) := by decide +kernel
theorem dX4_copyFrom_43 : decode cX4_copyFrom 43 = .ok (.aload_n 1, 1) := by decide +kernel
theorem dX4_copyFrom_44 : decode cX4_copyFrom 44 = .ok (.getfield 22, 3) := by decide +kernel
theorem dX4_copyFrom_47 : decode cX4_copyFrom 47 = .ok (.putfield 22, 3) := by decide +kernel
theorem dX4_copyFrom_50 : decode cX4_copyFrom 50 = .ok (.aload_n 0, 1) := by decide +kernel
theorem dX4_copyFrom_51 : decode cX4_copyFrom 51 = .ok (.aload_n 1, 1) := by decide +kernel
theorem dX4_copyFrom_52 : decode cX4_copyFrom 52 = .ok (.getfield 28, 3) := by decide +kernel
theorem dX4_copyFrom_55 : decode cX4_copyFrom 55 = .ok (.putfield 28, 3) := by decide +kernel
theorem dX4_copyFrom_58 : decode cX4_copyFrom 58 = .ok (.return_, 1) := by decide +kernel
theorem dX4_left_0 : decode cX4_left 0 = .ok (.aload_n 0, 1) := by decide +kernel
theorem dX4_left_1 : decode cX4_left 1 = .ok (.getfield 15, 3) := by decide +kernel
theorem dX4_left_4 : decode cX4_left 4 = .ok (.aload_n 0, 1) := by decide +kernel
theorem dX4_left_5 : decode cX4_left 5 = .ok (.getfield 22, 3) := by decide +kernel
theorem dX4_left_8 : decode cX4_left 8 = .ok (.isub, 1) := by decide +kernel
theorem dX4_left_9 : decode cX4_left 9 = .ok (.ireturn, 1) := by decide +kernel
theorem dX4_addFlaw_0 : decode cX4_addFlaw 0 = .ok (.aload_n 0, 1) := by decide +kernel
theorem dX4_addFlaw_1 : decode cX4_addFlaw 1 = .ok (.getfield 25, 3) := by decide +kernel
theorem dX4_addFlaw_4 : decode cX4_addFlaw 4 = .ok (.aload_n 0, 1) := by decide +kernel
theorem dX4_addFlaw_5 : decode cX4_addFlaw 5 = .ok (.getfield 9, 3) := by decide +kernel
theorem dX4_addFlaw_8 : decode cX4_addFlaw 8 = .ok (.arraylength, 1) := by decide +kernel
theorem dX4_addFlaw_9 : decode cX4_addFlaw 9 = .ok (.if_icmp .ge 23, 3) := by decide +kernel
theorem dX4_addFlaw_12 : decode cX4_addFlaw 12 = .ok (.aload_n 0, 1) := by decide +kernel
theorem dX4_addFlaw_13 : decode cX4_addFlaw 13 = .ok (.getfield 9, 3) := by decide +kernel
theorem dX4_addFlaw_16 : decode cX4_addFlaw 16 = .ok (.aload_n 0, 1) := by decide +kernel
theorem dX4_addFlaw_17 : decode cX4_addFlaw 17 = .ok (.getfield 25, 3) := by decide +kernel
theorem dX4_addFlaw_20 : decode cX4_addFlaw 20 = .ok (.iload_n 1, 1) := by decide +kernel
theorem dX4_addFlaw_21 : decode cX4_addFlaw 21 = .ok (.iastore, 1) := by decide +kernel
theorem dX4_addFlaw_22 : decode cX4_addFlaw 22 = .ok (.aload_n 0, 1) := by decide +kernel
theorem dX4_addFlaw_23 : decode cX4_addFlaw 23 = .ok (.dup, 1) := by decide +kernel
theorem dX4_addFlaw_24 : decode cX4_addFlaw 24 = .ok (.getfield 25, 3) := by decide +kernel
theorem dX4_addFlaw_27 : decode cX4_addFlaw 27 = .ok (.iconst 1, 1) := by decide +kernel
theorem dX4_addFlaw_28 : decode cX4_addFlaw 28 = .ok (.iadd, 1) := by decide +kernel
theorem dX4_addFlaw_29 : decode cX4_addFlaw 29 = .ok (.putfield 25, 3) := by decide +kernel
theorem dX4_addFlaw_32 : decode cX4_addFlaw 32 = .ok (.return_, 1) := by decide +kernel
theorem dX4_hasFlawIn_0 : decode cX4_hasFlawIn 0 = .ok (.iconst 0, 1) := by decide +kernel
theorem dX4_hasFlawIn_1 : decode cX4_hasFlawIn 1 = .ok (.istore_n 3, 1) := by decide +kernel
theorem dX4_hasFlawIn_2 : decode cX4_hasFlawIn 2 = .ok (.iload_n 3, 1) := by decide +kernel
theorem dX4_hasFlawIn_3 : decode cX4_hasFlawIn 3 = .ok (.aload_n 0, 1) := by decide +kernel
theorem dX4_hasFlawIn_4 : decode cX4_hasFlawIn 4 = .ok (.getfield 25, 3) := by decide +kernel
theorem dX4_hasFlawIn_7 : decode cX4_hasFlawIn 7 = .ok (.if_icmp .ge 40, 3) := by decide +kernel
theorem dX4_hasFlawIn_10 : decode cX4_hasFlawIn 10 = .ok (.iload_n 3, 1) := by decide +kernel
theorem dX4_hasFlawIn_11 : decode cX4_hasFlawIn 11 = .ok (.aload_n 0, 1) := by decide +kernel
theorem dX4_hasFlawIn_12 : decode cX4_hasFlawIn 12 = .ok (.getfield 9, 3) := by decide +kernel
theorem dX4_hasFlawIn_15 : decode cX4_hasFlawIn 15 = .ok (.arraylength, 1) := by decide +kernel
theorem dX4_hasFlawIn_16 : decode cX4_hasFlawIn 16 = .ok (.if_icmp .ge 31, 3) := by decide +kernel
theorem dX4_hasFlawIn_19 : decode cX4_hasFlawIn 19 = .ok (.aload_n 0, 1) := by decide +kernel
theorem dX4_hasFlawIn_20 : decode cX4_hasFlawIn 20 = .ok (.getfield 9, 3) := by decide +kernel
theorem dX4_hasFlawIn_23 : decode cX4_hasFlawIn 23 = .ok (.iload_n 3, 1) := by decide +kernel
theorem dX4_hasFlawIn_24 : decode cX4_hasFlawIn 24 = .ok (.iaload, 1) := by decide +kernel
theorem dX4_hasFlawIn_25 : decode cX4_hasFlawIn 25 = .ok (.iload_n 1, 1) := by decide +kernel
theorem dX4_hasFlawIn_26 : decode cX4_hasFlawIn 26 = .ok (.if_icmp .lt 15, 3) := by decide +kernel
theorem dX4_hasFlawIn_29 : decode cX4_hasFlawIn 29 = .ok (.aload_n 0, 1) := by decide +kernel
theorem dX4_hasFlawIn_30 : decode cX4_hasFlawIn 30 = .ok (.getfield 9, 3) := by decide +kernel
theorem dX4_hasFlawIn_33 : decode cX4_hasFlawIn 33 = .ok (.iload_n 3, 1) := by decide +kernel
theorem dX4_hasFlawIn_34 : decode cX4_hasFlawIn 34 = .ok (.iaload, 1) := by decide +kernel
theorem dX4_hasFlawIn_35 : decode cX4_hasFlawIn 35 = .ok (.iload_n 2, 1) := by decide +kernel
theorem dX4_hasFlawIn_36 : decode cX4_hasFlawIn 36 = .ok (.if_icmp .ge 5, 3) := by decide +kernel
theorem dX4_hasFlawIn_39 : decode cX4_hasFlawIn 39 = .ok (.iconst 1, 1) := by decide +kernel
theorem dX4_hasFlawIn_40 : decode cX4_hasFlawIn 40 = .ok (.ireturn, 1) := by decide +kernel
theorem dX4_hasFlawIn_41 : decode cX4_hasFlawIn 41 = .ok (.iinc 3 1, 3) := by decide +kernel
theorem dX4_hasFlawIn_44 : decode cX4_hasFlawIn 44 = .ok (.goto (-42), 3) := by decide +kernel
theorem dX4_hasFlawIn_47 : decode cX4_hasFlawIn 47 = .ok (.iconst 0, 1) := by decide +kernel
theorem dX4_hasFlawIn_48 : decode cX4_hasFlawIn 48 = .ok (.ireturn, 1) := by decide +kernel
theorem dX4_tesseraeAhead_0 : decode cX4_tesseraeAhead 0 = .ok (.aload_n 0, 1) := by decide +kernel
theorem dX4_tesseraeAhead_1 : decode cX4_tesseraeAhead 1 = .ok (.getfield 15, 3) := by decide +kernel
theorem dX4_tesseraeAhead_4 : decode cX4_tesseraeAhead 4 = .ok (.aload_n 0, 1) := by decide +kernel
theorem dX4_tesseraeAhead_5 : decode cX4_tesseraeAhead 5 = .ok (.getfield 22, 3) := by decide +kernel
theorem dX4_tesseraeAhead_8 : decode cX4_tesseraeAhead 8 = .ok (.isub, 1) := by decide +kernel
theorem dX4_tesseraeAhead_9 : decode cX4_tesseraeAhead 9 = .ok (.istore_n 3, 1) := by decide +kernel
theorem dX4_tesseraeAhead_10 : decode cX4_tesseraeAhead 10 = .ok (.iload_n 1, 1) := by decide +kernel
theorem dX4_tesseraeAhead_11 : decode cX4_tesseraeAhead 11 = .ok (.iload_n 2, 1) := by decide +kernel
theorem dX4_tesseraeAhead_12 : decode cX4_tesseraeAhead 12 = .ok (.iadd, 1) := by decide +kernel
theorem dX4_tesseraeAhead_13 : decode cX4_tesseraeAhead 13 = .ok (.istore 4, 2) := by decide +kernel
theorem dX4_tesseraeAhead_15 : decode cX4_tesseraeAhead 15 = .ok (.iload 4, 2) := by decide +kernel
theorem dX4_tesseraeAhead_17 : decode cX4_tesseraeAhead 17 = .ok (.ifCond .le 8, 3) := by decide +kernel
theorem dX4_tesseraeAhead_20 : decode cX4_tesseraeAhead 20 = .ok (.iload_n 3, 1) := by decide +kernel
theorem dX4_tesseraeAhead_21 : decode cX4_tesseraeAhead 21 = .ok (.iload_n 1, 1) := by decide +kernel
theorem dX4_tesseraeAhead_22 : decode cX4_tesseraeAhead 22 = .ok (.if_icmp .ge 5, 3) := by decide +kernel
theorem dX4_tesseraeAhead_25 : decode cX4_tesseraeAhead 25 = .ok (.iconst 0, 1) := by decide +kernel
theorem dX4_tesseraeAhead_26 : decode cX4_tesseraeAhead 26 = .ok (.ireturn, 1) := by decide +kernel
theorem dX4_tesseraeAhead_27 : decode cX4_tesseraeAhead 27 = .ok (.iload_n 3, 1) := by decide +kernel
theorem dX4_tesseraeAhead_28 : decode cX4_tesseraeAhead 28 = .ok (.iload_n 1, 1) := by decide +kernel
theorem dX4_tesseraeAhead_29 : decode cX4_tesseraeAhead 29 = .ok (.isub, 1) := by decide +kernel
theorem dX4_tesseraeAhead_30 : decode cX4_tesseraeAhead 30 = .ok (.iload 4, 2) := by decide +kernel
theorem dX4_tesseraeAhead_32 : decode cX4_tesseraeAhead 32 = .ok (.idiv, 1) := by decide +kernel
theorem dX4_tesseraeAhead_33 : decode cX4_tesseraeAhead 33 = .ok (.iconst 1, 1) := by decide +kernel
theorem dX4_tesseraeAhead_34 : decode cX4_tesseraeAhead 34 = .ok (.iadd, 1) := by decide +kernel
theorem dX4_tesseraeAhead_35 : decode cX4_tesseraeAhead 35 = .ok (.ireturn, 1) := by decide +kernel
theorem dX4_goodTesseraeAhead_0 : decode cX4_goodTesseraeAhead 0 = .ok (.aload_n 0, 1) := by decide +kernel
theorem dX4_goodTesseraeAhead_1 : decode cX4_goodTesseraeAhead 1 = .ok (.iload_n 1, 1) := by decide +kernel
theorem dX4_goodTesseraeAhead_2 : decode cX4_goodTesseraeAhead 2 = .ok (.iload_n 2, 1) := by decide +kernel
theorem dX4_goodTesseraeAhead_3 : decode cX4_goodTesseraeAhead 3 = .ok (.invokevirtual 37, 3) := by decide +kernel
theorem dX4_goodTesseraeAhead_6 : decode cX4_goodTesseraeAhead 6 = .ok (.istore_n 3, 1) := by decide +kernel
theorem dX4_goodTesseraeAhead_7 : decode cX4_goodTesseraeAhead 7 = .ok (.iconst 0, 1) := by decide +kernel
theorem dX4_goodTesseraeAhead_8 : decode cX4_goodTesseraeAhead 8 = .ok (.istore 4, 2) := by decide +kernel
theorem dX4_goodTesseraeAhead_10 : decode cX4_goodTesseraeAhead 10 = .ok (.aload_n 0, 1) := by decide +kernel
theorem dX4_goodTesseraeAhead_11 : decode cX4_goodTesseraeAhead 11 = .ok (.getfield 22, 3) := by decide +kernel
theorem dX4_goodTesseraeAhead_14 : decode cX4_goodTesseraeAhead 14 = .ok (.istore 5, 2) := by decide +kernel
theorem dX4_goodTesseraeAhead_16 : decode cX4_goodTesseraeAhead 16 = .ok (.iconst 0, 1) := by decide +kernel
theorem dX4_goodTesseraeAhead_17 : decode cX4_goodTesseraeAhead 17 = .ok (.istore 6, 2) := by decide +kernel
theorem dX4_goodTesseraeAhead_19 : decode cX4_goodTesseraeAhead 19 = .ok (.iload 6, 2) := by decide +kernel
theorem dX4_goodTesseraeAhead_21 : decode cX4_goodTesseraeAhead 21 = .ok (.iload_n 3, 1) := by decide +kernel
theorem dX4_goodTesseraeAhead_22 : decode cX4_goodTesseraeAhead 22 = .ok (.if_icmp .ge 33, 3) := by decide +kernel
theorem dX4_goodTesseraeAhead_25 : decode cX4_goodTesseraeAhead 25 = .ok (.aload_n 0, 1) := by decide +kernel
theorem dX4_goodTesseraeAhead_26 : decode cX4_goodTesseraeAhead 26 = .ok (.iload 5, 2) := by decide +kernel
theorem dX4_goodTesseraeAhead_28 : decode cX4_goodTesseraeAhead 28 = .ok (.iload 5, 2) := by decide +kernel
theorem dX4_goodTesseraeAhead_30 : decode cX4_goodTesseraeAhead 30 = .ok (.iload_n 1, 1) := by decide +kernel
theorem dX4_goodTesseraeAhead_31 : decode cX4_goodTesseraeAhead 31 = .ok (.iadd, 1) := by decide +kernel
theorem dX4_goodTesseraeAhead_32 : decode cX4_goodTesseraeAhead 32 = .ok (.invokevirtual 41, 3) := by decide +kernel
theorem dX4_goodTesseraeAhead_35 : decode cX4_goodTesseraeAhead 35 = .ok (.ifCond .ne 6, 3) := by decide +kernel
theorem dX4_goodTesseraeAhead_38 : decode cX4_goodTesseraeAhead 38 = .ok (.iinc 4 1, 3) := by decide +kernel
theorem dX4_goodTesseraeAhead_41 : decode cX4_goodTesseraeAhead 41 = .ok (.iload 5, 2) := by decide +kernel
theorem dX4_goodTesseraeAhead_43 : decode cX4_goodTesseraeAhead 43 = .ok (.iload_n 1, 1) := by decide +kernel
theorem dX4_goodTesseraeAhead_44 : decode cX4_goodTesseraeAhead 44 = .ok (.iload_n 2, 1) := by decide +kernel
theorem dX4_goodTesseraeAhead_45 : decode cX4_goodTesseraeAhead 45 = .ok (.iadd, 1) := by decide +kernel
theorem dX4_goodTesseraeAhead_46 : decode cX4_goodTesseraeAhead 46 = .ok (.iadd, 1) := by decide +kernel
theorem dX4_goodTesseraeAhead_47 : decode cX4_goodTesseraeAhead 47 = .ok (.istore 5, 2) := by decide +kernel
theorem dX4_goodTesseraeAhead_49 : decode cX4_goodTesseraeAhead 49 = .ok (.iinc 6 1, 3) := by decide +kernel
theorem dX4_goodTesseraeAhead_52 : decode cX4_goodTesseraeAhead 52 = .ok (.goto (-33), 3) := by decide +kernel
theorem dX4_goodTesseraeAhead_55 : decode cX4_goodTesseraeAhead 55 = .ok (.iload 4, 2) := by decide +kernel
theorem dX4_goodTesseraeAhead_57 : decode cX4_goodTesseraeAhead 57 = .ok (.ireturn, 1) := by decide +kernel
theorem dX4_givesGood_0 : decode cX4_givesGood 0 = .ok (.aload_n 0, 1) := by decide +kernel
theorem dX4_givesGood_1 : decode cX4_givesGood 1 = .ok (.iload_n 1, 1) := by decide +kernel
theorem dX4_givesGood_2 : decode cX4_givesGood 2 = .ok (.iload_n 2, 1) := by decide +kernel
theorem dX4_givesGood_3 : decode cX4_givesGood 3 = .ok (.invokevirtual 37, 3) := by decide +kernel
theorem dX4_givesGood_6 : decode cX4_givesGood 6 = .ok (.istore_n 3, 1) := by decide +kernel
theorem dX4_givesGood_7 : decode cX4_givesGood 7 = .ok (.aload_n 0, 1) := by decide +kernel
theorem dX4_givesGood_8 : decode cX4_givesGood 8 = .ok (.getfield 22, 3) := by decide +kernel
theorem dX4_givesGood_11 : decode cX4_givesGood 11 = .ok (.istore 4, 2) := by decide +kernel
theorem dX4_givesGood_13 : decode cX4_givesGood 13 = .ok (.iconst 0, 1) := by decide +kernel
theorem dX4_givesGood_14 : decode cX4_givesGood 14 = .ok (.istore 5, 2) := by decide +kernel
theorem dX4_givesGood_16 : decode cX4_givesGood 16 = .ok (.iload 5, 2) := by decide +kernel
theorem dX4_givesGood_18 : decode cX4_givesGood 18 = .ok (.iload_n 3, 1) := by decide +kernel
theorem dX4_givesGood_19 : decode cX4_givesGood 19 = .ok (.if_icmp .ge 32, 3) := by decide +kernel
theorem dX4_givesGood_22 : decode cX4_givesGood 22 = .ok (.aload_n 0, 1) := by decide +kernel
theorem dX4_givesGood_23 : decode cX4_givesGood 23 = .ok (.iload 4, 2) := by decide +kernel
theorem dX4_givesGood_25 : decode cX4_givesGood 25 = .ok (.iload 4, 2) := by decide +kernel
theorem dX4_givesGood_27 : decode cX4_givesGood 27 = .ok (.iload_n 1, 1) := by decide +kernel
theorem dX4_givesGood_28 : decode cX4_givesGood 28 = .ok (.iadd, 1) := by decide +kernel
theorem dX4_givesGood_29 : decode cX4_givesGood 29 = .ok (.invokevirtual 41, 3) := by decide +kernel
theorem dX4_givesGood_32 : decode cX4_givesGood 32 = .ok (.ifCond .ne 5, 3) := by decide +kernel
theorem dX4_givesGood_35 : decode cX4_givesGood 35 = .ok (.iconst 1, 1) := by decide +kernel
theorem dX4_givesGood_36 : decode cX4_givesGood 36 = .ok (.ireturn, 1) := by decide +kernel
theorem dX4_givesGood_37 : decode cX4_givesGood 37 = .ok (.iload 4, 2) := by decide +kernel
theorem dX4_givesGood_39 : decode cX4_givesGood 39 = .ok (.iload_n 1, 1) := by decide +kernel
theorem dX4_givesGood_40 : decode cX4_givesGood 40 = .ok (.iload_n 2, 1) := by decide +kernel
theorem dX4_givesGood_41 : decode cX4_givesGood 41 = .ok (.iadd, 1) := by decide +kernel
theorem dX4_givesGood_42 : decode cX4_givesGood 42 = .ok (.iadd, 1) := by decide +kernel
theorem dX4_givesGood_43 : decode cX4_givesGood 43 = .ok (.istore 4, 2) := by decide +kernel
theorem dX4_givesGood_45 : decode cX4_givesGood 45 = .ok (.iinc 5 1, 3) := by decide +kernel
theorem dX4_givesGood_48 : decode cX4_givesGood 48 = .ok (.goto (-32), 3) := by decide +kernel
theorem dX4_givesGood_51 : decode cX4_givesGood 51 = .ok (.iconst 0, 1) := by decide +kernel
theorem dX4_givesGood_52 : decode cX4_givesGood 52 = .ok (.ireturn, 1) := by decide +kernel
theorem dX4_cutOff_0 : decode cX4_cutOff 0 = .ok (.aload_n 0, 1) := by decide +kernel
theorem dX4_cutOff_1 : decode cX4_cutOff 1 = .ok (.aload_n 0, 1) := by decide +kernel
theorem dX4_cutOff_2 : decode cX4_cutOff 2 = .ok (.getfield 22, 3) := by decide +kernel
theorem dX4_cutOff_5 : decode cX4_cutOff 5 = .ok (.aload_n 0, 1) := by decide +kernel
theorem dX4_cutOff_6 : decode cX4_cutOff 6 = .ok (.getfield 22, 3) := by decide +kernel
theorem dX4_cutOff_9 : decode cX4_cutOff 9 = .ok (.iload_n 1, 1) := by decide +kernel
theorem dX4_cutOff_10 : decode cX4_cutOff 10 = .ok (.iadd, 1) := by decide +kernel
theorem dX4_cutOff_11 : decode cX4_cutOff 11 = .ok (.invokevirtual 41, 3) := by decide +kernel
theorem dX4_cutOff_14 : decode cX4_cutOff 14 = .ok (.ifCond .ne 7, 3) := by decide +kernel
theorem dX4_cutOff_17 : decode cX4_cutOff 17 = .ok (.iconst 1, 1) := by decide +kernel
theorem dX4_cutOff_18 : decode cX4_cutOff 18 = .ok (.goto 4, 3) := by decide +kernel
theorem dX4_cutOff_21 : decode cX4_cutOff 21 = .ok (.iconst 0, 1) := by decide +kernel
theorem dX4_cutOff_22 : decode cX4_cutOff 22 = .ok (.istore_n 3, 1) := by decide +kernel
theorem dX4_cutOff_23 : decode cX4_cutOff 23 = .ok (.aload_n 0, 1) := by decide +kernel
theorem dX4_cutOff_24 : decode cX4_cutOff 24 = .ok (.aload_n 0, 1) := by decide +kernel
theorem dX4_cutOff_25 : decode cX4_cutOff 25 = .ok (.getfield 22, 3) := by decide +kernel
theorem dX4_cutOff_28 : decode cX4_cutOff 28 = .ok (.iload_n 1, 1) := by decide +kernel
theorem dX4_cutOff_29 : decode cX4_cutOff 29 = .ok (.iadd, 1) := by decide +kernel
theorem dX4_cutOff_30 : decode cX4_cutOff 30 = .ok (.iload_n 2, 1) := by decide +kernel
theorem dX4_cutOff_31 : decode cX4_cutOff 31 = .ok (.iadd, 1) := by decide +kernel
theorem dX4_cutOff_32 : decode cX4_cutOff 32 = .ok (.aload_n 0, 1) := by decide +kernel
theorem dX4_cutOff_33 : decode cX4_cutOff 33 = .ok (.getfield 15, 3) := by decide +kernel
theorem dX4_cutOff_36 : decode cX4_cutOff 36 = .ok (.invokestatic 45, 3) := by decide +kernel
theorem dX4_cutOff_39 : decode cX4_cutOff 39 = .ok (.putfield 22, 3) := by decide +kernel
theorem dX4_cutOff_42 : decode cX4_cutOff 42 = .ok (.iload_n 3, 1) := by decide +kernel
theorem dX4_cutOff_43 : decode cX4_cutOff 43 = .ok (.ifCond .eq 13, 3) := by decide +kernel
theorem dX4_cutOff_46 : decode cX4_cutOff 46 = .ok (.aload_n 0, 1) := by decide +kernel
theorem dX4_cutOff_47 : decode cX4_cutOff 47 = .ok (.dup, 1) := by decide +kernel
theorem dX4_cutOff_48 : decode cX4_cutOff 48 = .ok (.getfield 28, 3) := by decide +kernel
theorem dX4_cutOff_51 : decode cX4_cutOff 51 = .ok (.iconst 1, 1) := by decide +kernel
theorem dX4_cutOff_52 : decode cX4_cutOff 52 = .ok (.iadd, 1) := by decide +kernel
theorem dX4_cutOff_53 : decode cX4_cutOff 53 = .ok (.putfield 28, 3) := by decide +kernel
theorem dX4_cutOff_56 : decode cX4_cutOff 56 = .ok (.iload_n 3, 1) := by decide +kernel
theorem dX4_cutOff_57 : decode cX4_cutOff 57 = .ok (.ireturn, 1) := by decide +kernel
theorem dX5_init_0 : decode cX5_init 0 = .ok (.aload_n 0, 1) := by decide +kernel
theorem dX5_init_1 : decode cX5_init 1 = .ok (.invokespecial 3, 3) := by decide +kernel
theorem dX5_init_4 : decode cX5_init 4 = .ok (.aload_n 0, 1) := by decide +kernel
theorem dX5_init_5 : decode cX5_init 5 = .ok (.bipush 80, 2) := by decide +kernel
theorem dX5_init_7 : decode cX5_init 7 = .ok (.newarray .char, 2) := by decide +kernel
theorem dX5_init_9 : decode cX5_init 9 = .ok (.putfield 9, 3) := by decide +kernel
theorem dX5_init_12 : decode cX5_init 12 = .ok (.return_, 1) := by decide +kernel
theorem dX5_append_0 : decode cX5_append 0 = .ok (.aload_n 0, 1) := by decide +kernel
theorem dX5_append_1 : decode cX5_append 1 = .ok (.getfield 15, 3) := by decide +kernel
theorem dX5_append_4 : decode cX5_append 4 = .ok (.aload_n 0, 1) := by decide +kernel
theorem dX5_append_5 : decode cX5_append 5 = .ok (.getfield 9, 3) := by decide +kernel
theorem dX5_append_8 : decode cX5_append 8 = .ok (.arraylength, 1) := by decide +kernel
theorem dX5_append_9 : decode cX5_append 9 = .ok (.if_icmp .ge 24, 3) := by decide +kernel
theorem dX5_append_12 : decode cX5_append 12 = .ok (.aload_n 0, 1) := by decide +kernel
theorem dX5_append_13 : decode cX5_append 13 = .ok (.getfield 9, 3) := by decide +kernel
theorem dX5_append_16 : decode cX5_append 16 = .ok (.aload_n 0, 1) := by decide +kernel
theorem dX5_append_17 : decode cX5_append 17 = .ok (.getfield 15, 3) := by decide +kernel
theorem dX5_append_20 : decode cX5_append 20 = .ok (.iload_n 1, 1) := by decide +kernel
theorem dX5_append_21 : decode cX5_append 21 = .ok (.i2c, 1) := by decide +kernel
theorem dX5_append_22 : decode cX5_append 22 = .ok (.castore, 1) := by decide +kernel
theorem dX5_append_23 : decode cX5_append 23 = .ok (.aload_n 0, 1) := by decide +kernel
theorem dX5_append_24 : decode cX5_append 24 = .ok (.dup, 1) := by decide +kernel
theorem dX5_append_25 : decode cX5_append 25 = .ok (.getfield 15, 3) := by decide +kernel
theorem dX5_append_28 : decode cX5_append 28 = .ok (.iconst 1, 1) := by decide +kernel
theorem dX5_append_29 : decode cX5_append 29 = .ok (.iadd, 1) := by decide +kernel
theorem dX5_append_30 : decode cX5_append 30 = .ok (.putfield 15, 3) := by decide +kernel
theorem dX5_append_33 : decode cX5_append 33 = .ok (.return_, 1) := by decide +kernel
theorem dX5_firstFaultOrNone_0 : decode cX5_firstFaultOrNone 0 = .ok (.iconst 0, 1) := by decide +kernel
theorem dX5_firstFaultOrNone_1 : decode cX5_firstFaultOrNone 1 = .ok (.istore_n 1, 1) := by decide +kernel
theorem dX5_firstFaultOrNone_2 : decode cX5_firstFaultOrNone 2 = .ok (.iconst 0, 1) := by decide +kernel
theorem dX5_firstFaultOrNone_3 : decode cX5_firstFaultOrNone 3 = .ok (.istore_n 2, 1) := by decide +kernel
theorem dX5_firstFaultOrNone_4 : decode cX5_firstFaultOrNone 4 = .ok (.iconst 0, 1) := by decide +kernel
theorem dX5_firstFaultOrNone_5 : decode cX5_firstFaultOrNone 5 = .ok (.istore_n 3, 1) := by decide +kernel
theorem dX5_firstFaultOrNone_6 : decode cX5_firstFaultOrNone 6 = .ok (.iload_n 3, 1) := by decide +kernel
theorem dX5_firstFaultOrNone_7 : decode cX5_firstFaultOrNone 7 = .ok (.aload_n 0, 1) := by decide +kernel
theorem dX5_firstFaultOrNone_8 : decode cX5_firstFaultOrNone 8 = .ok (.getfield 15, 3) := by decide +kernel
theorem dX5_firstFaultOrNone_11 : decode cX5_firstFaultOrNone 11 = .ok (.if_icmp .ge 72, 3) := by decide +kernel
theorem dX5_firstFaultOrNone_14 : decode cX5_firstFaultOrNone 14 = .ok (.iload_n 3, 1) := by decide +kernel
theorem dX5_firstFaultOrNone_15 : decode cX5_firstFaultOrNone 15 = .ok (.aload_n 0, 1) := by decide +kernel
theorem dX5_firstFaultOrNone_16 : decode cX5_firstFaultOrNone 16 = .ok (.getfield 9, 3) := by decide +kernel
theorem dX5_firstFaultOrNone_19 : decode cX5_firstFaultOrNone 19 = .ok (.arraylength, 1) := by decide +kernel
theorem dX5_firstFaultOrNone_20 : decode cX5_firstFaultOrNone 20 = .ok (.if_icmp .ge 63, 3) := by decide +kernel
theorem dX5_firstFaultOrNone_23 : decode cX5_firstFaultOrNone 23 = .ok (.aload_n 0, 1) := by decide +kernel
theorem dX5_firstFaultOrNone_24 : decode cX5_firstFaultOrNone 24 = .ok (.getfield 9, 3) := by decide +kernel
theorem dX5_firstFaultOrNone_27 : decode cX5_firstFaultOrNone 27 = .ok (.iload_n 3, 1) := by decide +kernel
theorem dX5_firstFaultOrNone_28 : decode cX5_firstFaultOrNone 28 = .ok (.caload, 1) := by decide +kernel
theorem dX5_firstFaultOrNone_29 : decode cX5_firstFaultOrNone 29 = .ok (.istore 4, 2) := by decide +kernel
theorem dX5_firstFaultOrNone_31 : decode cX5_firstFaultOrNone 31 = .ok (.iload 4, 2) := by decide +kernel
theorem dX5_firstFaultOrNone_33 : decode cX5_firstFaultOrNone 33 = .ok (.invokestatic 19, 3) := by decide +kernel
theorem dX5_firstFaultOrNone_36 : decode cX5_firstFaultOrNone 36 = .ok (.ifCond .eq 14, 3) := by decide +kernel
theorem dX5_firstFaultOrNone_39 : decode cX5_firstFaultOrNone 39 = .ok (.iload_n 1, 1) := by decide +kernel
theorem dX5_firstFaultOrNone_40 : decode cX5_firstFaultOrNone 40 = .ok (.iconst 2, 1) := by decide +kernel
theorem dX5_firstFaultOrNone_41 : decode cX5_firstFaultOrNone 41 = .ok (.if_icmp .ge 9, 3) := by decide +kernel
theorem dX5_firstFaultOrNone_44 : decode cX5_firstFaultOrNone 44 = .ok (.iinc 1 1, 3) := by decide +kernel
theorem dX5_firstFaultOrNone_47 : decode cX5_firstFaultOrNone 47 = .ok (.goto 30, 3) := by decide +kernel
theorem dX5_firstFaultOrNone_50 : decode cX5_firstFaultOrNone 50 = .ok (.iload 4, 2) := by decide +kernel
theorem dX5_firstFaultOrNone_52 : decode cX5_firstFaultOrNone 52 = .ok (.bipush 44, 2) := by decide +kernel
theorem dX5_firstFaultOrNone_54 : decode cX5_firstFaultOrNone 54 = .ok (.if_icmp .ne 21, 3) := by decide +kernel
theorem dX5_firstFaultOrNone_57 : decode cX5_firstFaultOrNone 57 = .ok (.iload_n 1, 1) := by decide +kernel
theorem dX5_firstFaultOrNone_58 : decode cX5_firstFaultOrNone 58 = .ok (.ifCond .le 17, 3) := by decide +kernel
theorem dX5_firstFaultOrNone_61 : decode cX5_firstFaultOrNone 61 = .ok (.iload_n 2, 1) := by decide +kernel
theorem dX5_firstFaultOrNone_62 : decode cX5_firstFaultOrNone 62 = .ok (.bipush 7, 2) := by decide +kernel
theorem dX5_firstFaultOrNone_64 : decode cX5_firstFaultOrNone 64 = .ok (.if_icmp .ge 11, 3) := by decide +kernel
theorem dX5_firstFaultOrNone_67 : decode cX5_firstFaultOrNone 67 = .ok (.iinc 2 1, 3) := by decide +kernel
theorem dX5_firstFaultOrNone_70 : decode cX5_firstFaultOrNone 70 = .ok (.iconst 0, 1) := by decide +kernel
theorem dX5_firstFaultOrNone_71 : decode cX5_firstFaultOrNone 71 = .ok (.istore_n 1, 1) := by decide +kernel
theorem dX5_firstFaultOrNone_72 : decode cX5_firstFaultOrNone 72 = .ok (.goto 5, 3) := by decide +kernel
theorem dX5_firstFaultOrNone_75 : decode cX5_firstFaultOrNone 75 = .ok (.iload_n 3, 1) := by decide +kernel
theorem dX5_firstFaultOrNone_76 : decode cX5_firstFaultOrNone 76 = .ok (.ireturn, 1) := by decide +kernel
theorem dX5_firstFaultOrNone_77 : decode cX5_firstFaultOrNone 77 = .ok (.iinc 3 1, 3) := by decide +kernel
theorem dX5_firstFaultOrNone_80 : decode cX5_firstFaultOrNone 80 = .ok (.goto (-74), 3) := by decide +kernel
theorem dX5_firstFaultOrNone_83 : decode cX5_firstFaultOrNone 83 = .ok (.iload_n 1, 1) := by decide +kernel
theorem dX5_firstFaultOrNone_84 : decode cX5_firstFaultOrNone 84 = .ok (.ifCond .ne 10, 3) := by decide +kernel
theorem dX5_firstFaultOrNone_87 : decode cX5_firstFaultOrNone 87 = .ok (.aload_n 0, 1) := by decide +kernel
theorem dX5_firstFaultOrNone_88 : decode cX5_firstFaultOrNone 88 = .ok (.getfield 15, 3) := by decide +kernel
theorem dX5_firstFaultOrNone_91 : decode cX5_firstFaultOrNone 91 = .ok (.goto 4, 3) := by decide +kernel
theorem dX5_firstFaultOrNone_94 : decode cX5_firstFaultOrNone 94 = .ok (.iconst (-1), 1) := by decide +kernel
theorem dX5_firstFaultOrNone_95 : decode cX5_firstFaultOrNone 95 = .ok (.ireturn, 1) := by decide +kernel
theorem dX5_readShades_0 : decode cX5_readShades 0 = .ok (.iconst 0, 1) := by decide +kernel
theorem dX5_readShades_1 : decode cX5_readShades 1 = .ok (.istore_n 2, 1) := by decide +kernel
theorem dX5_readShades_2 : decode cX5_readShades 2 = .ok (.iconst 0, 1) := by decide +kernel
theorem dX5_readShades_3 : decode cX5_readShades 3 = .ok (.istore_n 3, 1) := by decide +kernel
theorem dX5_readShades_4 : decode cX5_readShades 4 = .ok (.iconst 0, 1) := by decide +kernel
theorem dX5_readShades_5 : decode cX5_readShades 5 = .ok (.istore 4, 2) := by decide +kernel
theorem dX5_readShades_7 : decode cX5_readShades 7 = .ok (.iload 4, 2) := by decide +kernel
theorem dX5_readShades_9 : decode cX5_readShades 9 = .ok (.aload_n 0, 1) := by decide +kernel
theorem dX5_readShades_10 : decode cX5_readShades 10 = .ok (.getfield 15, 3) := by decide +kernel
theorem dX5_readShades_13 : decode cX5_readShades 13 = .ok (.if_icmp .ge 65, 3) := by decide +kernel
theorem dX5_readShades_16 : decode cX5_readShades 16 = .ok (.iload 4, 2) := by decide +kernel
theorem dX5_readShades_18 : decode cX5_readShades 18 = .ok (.aload_n 0, 1) := by decide +kernel
theorem dX5_readShades_19 : decode cX5_readShades 19 = .ok (.getfield 9, 3) := by decide +kernel
theorem dX5_readShades_22 : decode cX5_readShades 22 = .ok (.arraylength, 1) := by decide +kernel
theorem dX5_readShades_23 : decode cX5_readShades 23 = .ok (.if_icmp .ge 55, 3) := by decide +kernel
theorem dX5_readShades_26 : decode cX5_readShades 26 = .ok (.aload_n 0, 1) := by decide +kernel
theorem dX5_readShades_27 : decode cX5_readShades 27 = .ok (.getfield 9, 3) := by decide +kernel
theorem dX5_readShades_30 : decode cX5_readShades 30 = .ok (.iload 4, 2) := by decide +kernel
theorem dX5_readShades_32 : decode cX5_readShades 32 = .ok (.caload, 1) := by decide +kernel
theorem dX5_readShades_33 : decode cX5_readShades 33 = .ok (.bipush 44, 2) := by decide +kernel
theorem dX5_readShades_35 : decode cX5_readShades 35 = .ok (.if_icmp .ne 11, 3) := by decide +kernel
theorem dX5_readShades_38 : decode cX5_readShades 38 = .ok (.iinc 2 1, 3) := by decide +kernel
theorem dX5_readShades_41 : decode cX5_readShades 41 = .ok (.iconst 0, 1) := by decide +kernel
theorem dX5_readShades_42 : decode cX5_readShades 42 = .ok (.istore_n 3, 1) := by decide +kernel
theorem dX5_readShades_43 : decode cX5_readShades 43 = .ok (.goto 19, 3) := by decide +kernel
theorem dX5_readShades_46 : decode cX5_readShades 46 = .ok (.iload_n 3, 1) := by decide +kernel
theorem dX5_readShades_47 : decode cX5_readShades 47 = .ok (.bipush 10, 2) := by decide +kernel
theorem dX5_readShades_49 : decode cX5_readShades 49 = .ok (.imul, 1) := by decide +kernel
theorem dX5_readShades_50 : decode cX5_readShades 50 = .ok (.aload_n 0, 1) := by decide +kernel
theorem dX5_readShades_51 : decode cX5_readShades 51 = .ok (.getfield 9, 3) := by decide +kernel
theorem dX5_readShades_54 : decode cX5_readShades 54 = .ok (.iload 4, 2) := by decide +kernel
theorem dX5_readShades_56 : decode cX5_readShades 56 = .ok (.caload, 1) := by decide +kernel
theorem dX5_readShades_57 : decode cX5_readShades 57 = .ok (.bipush 48, 2) := by decide +kernel
theorem dX5_readShades_59 : decode cX5_readShades 59 = .ok (.isub, 1) := by decide +kernel
theorem dX5_readShades_60 : decode cX5_readShades 60 = .ok (.iadd, 1) := by decide +kernel
theorem dX5_readShades_61 : decode cX5_readShades 61 = .ok (.istore_n 3, 1) := by decide +kernel
theorem dX5_readShades_62 : decode cX5_readShades 62 = .ok (.iload_n 2, 1) := by decide +kernel
theorem dX5_readShades_63 : decode cX5_readShades 63 = .ok (.aload_n 1, 1) := by decide +kernel
theorem dX5_readShades_64 : decode cX5_readShades 64 = .ok (.arraylength, 1) := by decide +kernel
theorem dX5_readShades_65 : decode cX5_readShades 65 = .ok (.if_icmp .ge 7, 3) := by decide +kernel
theorem dX5_readShades_68 : decode cX5_readShades 68 = .ok (.aload_n 1, 1) := by decide +kernel
theorem dX5_readShades_69 : decode cX5_readShades 69 = .ok (.iload_n 2, 1) := by decide +kernel
theorem dX5_readShades_70 : decode cX5_readShades 70 = .ok (.iload_n 3, 1) := by decide +kernel
theorem dX5_readShades_71 : decode cX5_readShades 71 = .ok (.iastore, 1) := by decide +kernel
theorem dX5_readShades_72 : decode cX5_readShades 72 = .ok (.iinc 4 1, 3) := by decide +kernel
theorem dX5_readShades_75 : decode cX5_readShades 75 = .ok (.goto (-68), 3) := by decide +kernel
theorem dX5_readShades_78 : decode cX5_readShades 78 = .ok (.iload_n 2, 1) := by decide +kernel
theorem dX5_readShades_79 : decode cX5_readShades 79 = .ok (.iconst 1, 1) := by decide +kernel
theorem dX5_readShades_80 : decode cX5_readShades 80 = .ok (.iadd, 1) := by decide +kernel
theorem dX5_readShades_81 : decode cX5_readShades 81 = .ok (.aload_n 1, 1) := by decide +kernel
theorem dX5_readShades_82 : decode cX5_readShades 82 = .ok (.arraylength, 1) := by decide +kernel
theorem dX5_readShades_83 : decode cX5_readShades 83 = .ok (.invokestatic 23, 3) := by decide +kernel
theorem dX5_readShades_86 : decode cX5_readShades 86 = .ok (.ireturn, 1) := by decide +kernel
theorem dX5_isDigit_0 : decode cX5_isDigit 0 = .ok (.iload_n 0, 1) := by decide +kernel
theorem dX5_isDigit_1 : decode cX5_isDigit 1 = .ok (.bipush 48, 2) := by decide +kernel
theorem dX5_isDigit_3 : decode cX5_isDigit 3 = .ok (.if_icmp .lt 13, 3) := by decide +kernel
theorem dX5_isDigit_6 : decode cX5_isDigit 6 = .ok (.iload_n 0, 1) := by decide +kernel
theorem dX5_isDigit_7 : decode cX5_isDigit 7 = .ok (.bipush 57, 2) := by decide +kernel
theorem dX5_isDigit_9 : decode cX5_isDigit 9 = .ok (.if_icmp .gt 7, 3) := by decide +kernel
theorem dX5_isDigit_12 : decode cX5_isDigit 12 = .ok (.iconst 1, 1) := by decide +kernel
theorem dX5_isDigit_13 : decode cX5_isDigit 13 = .ok (.goto 4, 3) := by decide +kernel
theorem dX5_isDigit_16 : decode cX5_isDigit 16 = .ok (.iconst 0, 1) := by decide +kernel
theorem dX5_isDigit_17 : decode cX5_isDigit 17 = .ok (.ireturn, 1) := by decide +kernel
theorem dX6_init_0 : decode cX6_init 0 = .ok (.aload_n 0, 1) := by decide +kernel
theorem dX6_init_1 : decode cX6_init 1 = .ok (.invokespecial 1, 3) := by decide +kernel
theorem dX6_init_4 : decode cX6_init 4 = .ok (.aload_n 0, 1) := by decide +kernel
theorem dX6_init_5 : decode cX6_init 5 = .ok (.new 7, 3) := by decide +kernel
theorem dX6_init_8 : decode cX6_init 8 = .ok (.dup, 1) := by decide +kernel
theorem dX6_init_9 : decode cX6_init 9 = .ok (.invokespecial 9, 3) := by decide +kernel
theorem dX6_init_12 : decode cX6_init 12 = .ok (.putfield 10, 3) := by decide +kernel
theorem dX6_init_15 : decode cX6_init 15 = .ok (.aload_n 0, 1) := by decide +kernel
theorem dX6_init_16 : decode cX6_init 16 = .ok (.new 7, 3) := by decide +kernel
theorem dX6_init_19 : decode cX6_init 19 = .ok (.dup, 1) := by decide +kernel
theorem dX6_init_20 : decode cX6_init 20 = .ok (.invokespecial 9, 3) := by decide +kernel
theorem dX6_init_23 : decode cX6_init 23 = .ok (.putfield 16, 3) := by decide +kernel
theorem dX6_init_26 : decode cX6_init 26 = .ok (.aload_n 0, 1) := by decide +kernel
theorem dX6_init_27 : decode cX6_init 27 = .ok (.new 19, 3) := by decide +kernel
theorem dX6_init_30 : decode cX6_init 30 = .ok (.dup, 1) := by decide +kernel
theorem dX6_init_31 : decode cX6_init 31 = .ok (.invokespecial 21, 3) := by decide +kernel
theorem dX6_init_34 : decode cX6_init 34 = .ok (.putfield 22, 3) := by decide +kernel
theorem dX6_init_37 : decode cX6_init 37 = .ok (.aload_n 0, 1) := by decide +kernel
theorem dX6_init_38 : decode cX6_init 38 = .ok (.new 26, 3) := by decide +kernel
theorem dX6_init_41 : decode cX6_init 41 = .ok (.dup, 1) := by decide +kernel
theorem dX6_init_42 : decode cX6_init 42 = .ok (.invokespecial 28, 3) := by decide +kernel
theorem dX6_init_45 : decode cX6_init 45 = .ok (.putfield 29, 3) := by decide +kernel
theorem dX6_init_48 : decode cX6_init 48 = .ok (.return_, 1) := by decide +kernel
theorem dX6_floor_0 : decode cX6_floor 0 = .ok (.iload_n 1, 1) := by decide +kernel
theorem dX6_floor_1 : decode cX6_floor 1 = .ok (.iconst 3, 1) := by decide +kernel
theorem dX6_floor_2 : decode cX6_floor 2 = .ok (.bipush 12, 2) := by decide +kernel
theorem dX6_floor_4 : decode cX6_floor 4 = .ok (.invokestatic 33, 3) := by decide +kernel
theorem dX6_floor_7 : decode cX6_floor 7 = .ok (.ifCond .eq 13, 3) := by decide +kernel
theorem dX6_floor_10 : decode cX6_floor 10 = .ok (.iload_n 2, 1) := by decide +kernel
theorem dX6_floor_11 : decode cX6_floor 11 = .ok (.iconst 3, 1) := by decide +kernel
theorem dX6_floor_12 : decode cX6_floor 12 = .ok (.bipush 12, 2) := by decide +kernel
theorem dX6_floor_14 : decode cX6_floor 14 = .ok (.invokestatic 33, 3) := by decide +kernel
theorem dX6_floor_17 : decode cX6_floor 17 = .ok (.ifCond .ne 5, 3) := by decide +kernel
theorem dX6_floor_20 : decode cX6_floor 20 = .ok (.iconst (-1), 1) := by decide +kernel
theorem dX6_floor_21 : decode cX6_floor 21 = .ok (.ireturn, 1) := by decide +kernel
theorem dX6_floor_22 : decode cX6_floor 22 = .ok (.aload_n 0, 1) := by decide +kernel
theorem dX6_floor_23 : decode cX6_floor 23 = .ok (.getfield 10, 3) := by decide +kernel
theorem dX6_floor_26 : decode cX6_floor 26 = .ok (.invokevirtual 37, 3) := by decide +kernel
theorem dX6_floor_29 : decode cX6_floor 29 = .ok (.ifCond .le 6, 3) := by decide +kernel
theorem dX6_floor_32 : decode cX6_floor 32 = .ok (.bipush (-2), 2) := by decide +kernel
theorem dX6_floor_34 : decode cX6_floor 34 = .ok (.ireturn, 1) := by decide +kernel
theorem dX6_floor_35 : decode cX6_floor 35 = .ok (.aload_n 0, 1) := by decide +kernel
theorem dX6_floor_36 : decode cX6_floor 36 = .ok (.getfield 22, 3) := by decide +kernel
theorem dX6_floor_39 : decode cX6_floor 39 = .ok (.aload_n 0, 1) := by decide +kernel
theorem dX6_floor_40 : decode cX6_floor 40 = .ok (.getfield 10, 3) := by decide +kernel
theorem dX6_floor_43 : decode cX6_floor 43 = .ok (.invokevirtual 41, 3) := by decide +kernel
theorem dX6_floor_46 : decode cX6_floor 46 = .ok (.aload_n 0, 1) := by decide +kernel
theorem dX6_floor_47 : decode cX6_floor 47 = .ok (.getfield 10, 3) := by decide +kernel
theorem dX6_floor_50 : decode cX6_floor 50 = .ok (.getfield 45, 3) := by decide +kernel
theorem dX6_floor_53 : decode cX6_floor 53 = .ok (.iload_n 1, 1) := by decide +kernel
theorem dX6_floor_54 : decode cX6_floor 54 = .ok (.iload_n 2, 1) := by decide +kernel
theorem dX6_floor_55 : decode cX6_floor 55 = .ok (.invokevirtual 49, 3) := by decide +kernel
theorem dX6_floor_58 : decode cX6_floor 58 = .ok (.iload_n 1, 1) := by decide +kernel
theorem dX6_floor_59 : decode cX6_floor 59 = .ok (.iload_n 2, 1) := by decide +kernel
theorem dX6_floor_60 : decode cX6_floor 60 = .ok (.imul, 1) := by decide +kernel
theorem dX6_floor_61 : decode cX6_floor 61 = .ok (.ireturn, 1) := by decide +kernel
theorem dX6_set_0 : decode cX6_set 0 = .ok (.iload_n 1, 1) := by decide +kernel
theorem dX6_set_1 : decode cX6_set 1 = .ok (.lookupswitch 39 #[(0, 27), (1, 33)], 27) := by decide +kernel
theorem dX6_set_28 : decode cX6_set 28 = .ok (.aload_n 0, 1) := by decide +kernel
theorem dX6_set_29 : decode cX6_set 29 = .ok (.iload_n 2, 1) := by decide +kernel
theorem dX6_set_30 : decode cX6_set 30 = .ok (.invokevirtual 55, 3) := by decide +kernel
theorem dX6_set_33 : decode cX6_set 33 = .ok (.ireturn, 1) := by decide +kernel
theorem dX6_set_34 : decode cX6_set 34 = .ok (.aload_n 0, 1) := by decide +kernel
theorem dX6_set_35 : decode cX6_set 35 = .ok (.iload_n 2, 1) := by decide +kernel
theorem dX6_set_36 : decode cX6_set 36 = .ok (.invokevirtual 59, 3) := by decide +kernel
theorem dX6_set_39 : decode cX6_set 39 = .ok (.ireturn, 1) := by decide +kernel
theorem dX6_set_40 : decode cX6_set 40 = .ok (.iconst (-1), 1) := by decide +kernel
theorem dX6_set_41 : decode cX6_set 41 = .ok (.ireturn, 1) := by decide +kernel
theorem dX6_pattern_0 : decode cX6_pattern 0 = .ok (.aload_n 0, 1) := by decide +kernel
theorem dX6_pattern_1 : decode cX6_pattern 1 = .ok (.getfield 29, 3) := by decide +kernel
theorem dX6_pattern_4 : decode cX6_pattern 4 = .ok (.invokevirtual 62, 3) := by decide +kernel
theorem dX6_pattern_7 : decode cX6_pattern 7 = .ok (.iconst (-1), 1) := by decide +kernel
theorem dX6_pattern_8 : decode cX6_pattern 8 = .ok (.if_icmp .ne 13, 3) := by decide +kernel
theorem dX6_pattern_11 : decode cX6_pattern 11 = .ok (.aload_n 0, 1) := by decide +kernel
theorem dX6_pattern_12 : decode cX6_pattern 12 = .ok (.getfield 10, 3) := by decide +kernel
theorem dX6_pattern_15 : decode cX6_pattern 15 = .ok (.invokevirtual 37, 3) := by decide +kernel
theorem dX6_pattern_18 : decode cX6_pattern 18 = .ok (.ifCond .le 6, 3) := by decide +kernel
theorem dX6_pattern_21 : decode cX6_pattern 21 = .ok (.bipush (-2), 2) := by decide +kernel
theorem dX6_pattern_23 : decode cX6_pattern 23 = .ok (.ireturn, 1) := by decide +kernel
theorem dX6_pattern_24 : decode cX6_pattern 24 = .ok (.aload_n 0, 1) := by decide +kernel
theorem dX6_pattern_25 : decode cX6_pattern 25 = .ok (.getfield 22, 3) := by decide +kernel
theorem dX6_pattern_28 : decode cX6_pattern 28 = .ok (.aload_n 0, 1) := by decide +kernel
theorem dX6_pattern_29 : decode cX6_pattern 29 = .ok (.getfield 10, 3) := by decide +kernel
theorem dX6_pattern_32 : decode cX6_pattern 32 = .ok (.invokevirtual 41, 3) := by decide +kernel
theorem dX6_pattern_35 : decode cX6_pattern 35 = .ok (.aload_n 0, 1) := by decide +kernel
theorem dX6_pattern_36 : decode cX6_pattern 36 = .ok (.getfield 10, 3) := by decide +kernel
theorem dX6_pattern_39 : decode cX6_pattern 39 = .ok (.getfield 45, 3) := by decide +kernel
theorem dX6_pattern_42 : decode cX6_pattern 42 = .ok (.aload_n 0, 1) := by decide +kernel
theorem dX6_pattern_43 : decode cX6_pattern 43 = .ok (.getfield 29, 3) := by decide +kernel
theorem dX6_pattern_46 : decode cX6_pattern 46 = .ok (.invokevirtual 65, 3) := by decide +kernel
theorem dX6_pattern_49 : decode cX6_pattern 49 = .ok (.ireturn, 1) := by decide +kernel
theorem dX6_way_0 : decode cX6_way 0 = .ok (.iload_n 1, 1) := by decide +kernel
theorem dX6_way_1 : decode cX6_way 1 = .ok (.iconst 0, 1) := by decide +kernel
theorem dX6_way_2 : decode cX6_way 2 = .ok (.iconst 2, 1) := by decide +kernel
theorem dX6_way_3 : decode cX6_way 3 = .ok (.invokestatic 33, 3) := by decide +kernel
theorem dX6_way_6 : decode cX6_way 6 = .ok (.ifCond .ne 5, 3) := by decide +kernel
theorem dX6_way_9 : decode cX6_way 9 = .ok (.iconst (-1), 1) := by decide +kernel
theorem dX6_way_10 : decode cX6_way 10 = .ok (.ireturn, 1) := by decide +kernel
theorem dX6_way_11 : decode cX6_way 11 = .ok (.aload_n 0, 1) := by decide +kernel
theorem dX6_way_12 : decode cX6_way 12 = .ok (.getfield 10, 3) := by decide +kernel
theorem dX6_way_15 : decode cX6_way 15 = .ok (.invokevirtual 37, 3) := by decide +kernel
theorem dX6_way_18 : decode cX6_way 18 = .ok (.ifCond .le 6, 3) := by decide +kernel
theorem dX6_way_21 : decode cX6_way 21 = .ok (.bipush (-2), 2) := by decide +kernel
theorem dX6_way_23 : decode cX6_way 23 = .ok (.ireturn, 1) := by decide +kernel
theorem dX6_way_24 : decode cX6_way 24 = .ok (.aload_n 0, 1) := by decide +kernel
theorem dX6_way_25 : decode cX6_way 25 = .ok (.getfield 22, 3) := by decide +kernel
theorem dX6_way_28 : decode cX6_way 28 = .ok (.aload_n 0, 1) := by decide +kernel
theorem dX6_way_29 : decode cX6_way 29 = .ok (.getfield 10, 3) := by decide +kernel
theorem dX6_way_32 : decode cX6_way 32 = .ok (.invokevirtual 41, 3) := by decide +kernel
theorem dX6_way_35 : decode cX6_way 35 = .ok (.aload_n 0, 1) := by decide +kernel
theorem dX6_way_36 : decode cX6_way 36 = .ok (.getfield 10, 3) := by decide +kernel
theorem dX6_way_39 : decode cX6_way 39 = .ok (.getfield 45, 3) := by decide +kernel
theorem dX6_way_42 : decode cX6_way 42 = .ok (.getfield 69, 3) := by decide +kernel
theorem dX6_way_45 : decode cX6_way 45 = .ok (.istore_n 2, 1) := by decide +kernel
theorem dX6_way_46 : decode cX6_way 46 = .ok (.aload_n 0, 1) := by decide +kernel
theorem dX6_way_47 : decode cX6_way 47 = .ok (.getfield 10, 3) := by decide +kernel
theorem dX6_way_50 : decode cX6_way 50 = .ok (.getfield 45, 3) := by decide +kernel
theorem dX6_way_53 : decode cX6_way 53 = .ok (.iload_n 1, 1) := by decide +kernel
theorem dX6_way_54 : decode cX6_way 54 = .ok (.putfield 69, 3) := by decide +kernel
theorem dX6_way_57 : decode cX6_way 57 = .ok (.iload_n 2, 1) := by decide +kernel
theorem dX6_way_58 : decode cX6_way 58 = .ok (.ireturn, 1) := by decide +kernel
theorem dX6_want_0 : decode cX6_want 0 = .ok (.aload_n 0, 1) := by decide +kernel
theorem dX6_want_1 : decode cX6_want 1 = .ok (.getfield 10, 3) := by decide +kernel
theorem dX6_want_4 : decode cX6_want 4 = .ok (.getfield 45, 3) := by decide +kernel
theorem dX6_want_7 : decode cX6_want 7 = .ok (.iload_n 1, 1) := by decide +kernel
theorem dX6_want_8 : decode cX6_want 8 = .ok (.iload_n 2, 1) := by decide +kernel
theorem dX6_want_9 : decode cX6_want 9 = .ok (.invokevirtual 73, 3) := by decide +kernel
theorem dX6_want_12 : decode cX6_want 12 = .ok (.ifCond .eq 10, 3) := by decide +kernel
theorem dX6_want_15 : decode cX6_want 15 = .ok (.iload_n 3, 1) := by decide +kernel
theorem dX6_want_16 : decode cX6_want 16 = .ok (.invokestatic 77, 3) := by decide +kernel
theorem dX6_want_19 : decode cX6_want 19 = .ok (.ifCond .ne 5, 3) := by decide +kernel
theorem dX6_want_22 : decode cX6_want 22 = .ok (.iconst (-1), 1) := by decide +kernel
theorem dX6_want_23 : decode cX6_want 23 = .ok (.ireturn, 1) := by decide +kernel
theorem dX6_want_24 : decode cX6_want 24 = .ok (.aload_n 0, 1) := by decide +kernel
theorem dX6_want_25 : decode cX6_want 25 = .ok (.getfield 10, 3) := by decide +kernel
theorem dX6_want_28 : decode cX6_want 28 = .ok (.getfield 45, 3) := by decide +kernel
theorem dX6_want_31 : decode cX6_want 31 = .ok (.iload_n 1, 1) := by decide +kernel
theorem dX6_want_32 : decode cX6_want 32 = .ok (.iload_n 2, 1) := by decide +kernel
theorem dX6_want_33 : decode cX6_want 33 = .ok (.invokevirtual 81, 3) := by decide +kernel
theorem dX6_want_36 : decode cX6_want 36 = .ok (.ifCond .ne 15, 3) := by decide +kernel
theorem dX6_want_39 : decode cX6_want 39 = .ok (.aload_n 0, 1) := by decide +kernel
theorem dX6_want_40 : decode cX6_want 40 = .ok (.getfield 10, 3) := by decide +kernel
theorem dX6_want_43 : decode cX6_want 43 = .ok (.iload_n 1, 1) := by decide +kernel
theorem dX6_want_44 : decode cX6_want 44 = .ok (.iload_n 2, 1) := by decide +kernel
theorem dX6_want_45 : decode cX6_want 45 = .ok (.invokevirtual 84, 3) := by decide +kernel
theorem dX6_want_48 : decode cX6_want 48 = .ok (.ifCond .eq 6, 3) := by decide +kernel
theorem dX6_want_51 : decode cX6_want 51 = .ok (.bipush (-2), 2) := by decide +kernel
theorem dX6_want_53 : decode cX6_want 53 = .ok (.ireturn, 1) := by decide +kernel
theorem dX6_want_54 : decode cX6_want 54 = .ok (.aload_n 0, 1) := by decide +kernel
theorem dX6_want_55 : decode cX6_want 55 = .ok (.getfield 22, 3) := by decide +kernel
theorem dX6_want_58 : decode cX6_want 58 = .ok (.aload_n 0, 1) := by decide +kernel
theorem dX6_want_59 : decode cX6_want 59 = .ok (.getfield 10, 3) := by decide +kernel
theorem dX6_want_62 : decode cX6_want 62 = .ok (.invokevirtual 41, 3) := by decide +kernel
theorem dX6_want_65 : decode cX6_want 65 = .ok (.aload_n 0, 1) := by decide +kernel
theorem dX6_want_66 : decode cX6_want 66 = .ok (.getfield 10, 3) := by decide +kernel
theorem dX6_want_69 : decode cX6_want 69 = .ok (.getfield 45, 3) := by decide +kernel
theorem dX6_want_72 : decode cX6_want 72 = .ok (.iload_n 1, 1) := by decide +kernel
theorem dX6_want_73 : decode cX6_want 73 = .ok (.iload_n 2, 1) := by decide +kernel
theorem dX6_want_74 : decode cX6_want 74 = .ok (.invokevirtual 87, 3) := by decide +kernel
theorem dX6_want_77 : decode cX6_want 77 = .ok (.istore 4, 2) := by decide +kernel
theorem dX6_want_79 : decode cX6_want 79 = .ok (.aload_n 0, 1) := by decide +kernel
theorem dX6_want_80 : decode cX6_want 80 = .ok (.getfield 10, 3) := by decide +kernel
theorem dX6_want_83 : decode cX6_want 83 = .ok (.getfield 45, 3) := by decide +kernel
theorem dX6_want_86 : decode cX6_want 86 = .ok (.iload_n 1, 1) := by decide +kernel
theorem dX6_want_87 : decode cX6_want 87 = .ok (.iload_n 2, 1) := by decide +kernel
theorem dX6_want_88 : decode cX6_want 88 = .ok (.iload_n 3, 1) := by decide +kernel
theorem dX6_want_89 : decode cX6_want 89 = .ok (.invokevirtual 91, 3) := by decide +kernel
theorem dX6_want_92 : decode cX6_want 92 = .ok (.iload 4, 2) := by decide +kernel
theorem dX6_want_94 : decode cX6_want 94 = .ok (.ireturn, 1) := by decide +kernel
theorem dX6_cell_0 : decode cX6_cell 0 = .ok (.aload_n 0, 1) := by decide +kernel
theorem dX6_cell_1 : decode cX6_cell 1 = .ok (.getfield 10, 3) := by decide +kernel
theorem dX6_cell_4 : decode cX6_cell 4 = .ok (.getfield 45, 3) := by decide +kernel
theorem dX6_cell_7 : decode cX6_cell 7 = .ok (.iload_n 1, 1) := by decide +kernel
theorem dX6_cell_8 : decode cX6_cell 8 = .ok (.iload_n 2, 1) := by decide +kernel
theorem dX6_cell_9 : decode cX6_cell 9 = .ok (.invokevirtual 73, 3) := by decide +kernel
theorem dX6_cell_12 : decode cX6_cell 12 = .ok (.ifCond .ne 5, 3) := by decide +kernel
theorem dX6_cell_15 : decode cX6_cell 15 = .ok (.iconst (-1), 1) := by decide +kernel
theorem dX6_cell_16 : decode cX6_cell 16 = .ok (.ireturn, 1) := by decide +kernel
theorem dX6_cell_17 : decode cX6_cell 17 = .ok (.iload_n 3, 1) := by decide +kernel
theorem dX6_cell_18 : decode cX6_cell 18 = .ok (.tableswitch 130 0 3 #[30, 43, 70, 97], 30) := by decide +kernel
theorem dX6_cell_48 : decode cX6_cell 48 = .ok (.aload_n 0, 1) := by decide +kernel
theorem dX6_cell_49 : decode cX6_cell 49 = .ok (.getfield 10, 3) := by decide +kernel
theorem dX6_cell_52 : decode cX6_cell 52 = .ok (.getfield 45, 3) := by decide +kernel
theorem dX6_cell_55 : decode cX6_cell 55 = .ok (.iload_n 1, 1) := by decide +kernel
theorem dX6_cell_56 : decode cX6_cell 56 = .ok (.iload_n 2, 1) := by decide +kernel
theorem dX6_cell_57 : decode cX6_cell 57 = .ok (.invokevirtual 87, 3) := by decide +kernel
theorem dX6_cell_60 : decode cX6_cell 60 = .ok (.ireturn, 1) := by decide +kernel
theorem dX6_cell_61 : decode cX6_cell 61 = .ok (.aload_n 0, 1) := by decide +kernel
theorem dX6_cell_62 : decode cX6_cell 62 = .ok (.getfield 10, 3) := by decide +kernel
theorem dX6_cell_65 : decode cX6_cell 65 = .ok (.iload_n 1, 1) := by decide +kernel
theorem dX6_cell_66 : decode cX6_cell 66 = .ok (.iload_n 2, 1) := by decide +kernel
theorem dX6_cell_67 : decode cX6_cell 67 = .ok (.invokevirtual 84, 3) := by decide +kernel
theorem dX6_cell_70 : decode cX6_cell 70 = .ok (.ifCond .eq 15, 3) := by decide +kernel
theorem dX6_cell_73 : decode cX6_cell 73 = .ok (.aload_n 0, 1) := by decide +kernel
theorem dX6_cell_74 : decode cX6_cell 74 = .ok (.getfield 10, 3) := by decide +kernel
theorem dX6_cell_77 : decode cX6_cell 77 = .ok (.iload_n 1, 1) := by decide +kernel
theorem dX6_cell_78 : decode cX6_cell 78 = .ok (.iload_n 2, 1) := by decide +kernel
theorem dX6_cell_79 : decode cX6_cell 79 = .ok (.invokevirtual 95, 3) := by decide +kernel
theorem dX6_cell_82 : decode cX6_cell 82 = .ok (.goto 5, 3) := by decide +kernel
theorem dX6_cell_85 : decode cX6_cell 85 = .ok (.bipush (-4), 2) := by decide +kernel
theorem dX6_cell_87 : decode cX6_cell 87 = .ok (.ireturn, 1) := by decide +kernel
theorem dX6_cell_88 : decode cX6_cell 88 = .ok (.aload_n 0, 1) := by decide +kernel
theorem dX6_cell_89 : decode cX6_cell 89 = .ok (.getfield 10, 3) := by decide +kernel
theorem dX6_cell_92 : decode cX6_cell 92 = .ok (.iload_n 1, 1) := by decide +kernel
theorem dX6_cell_93 : decode cX6_cell 93 = .ok (.iload_n 2, 1) := by decide +kernel
theorem dX6_cell_94 : decode cX6_cell 94 = .ok (.invokevirtual 84, 3) := by decide +kernel
theorem dX6_cell_97 : decode cX6_cell 97 = .ok (.ifCond .eq 15, 3) := by decide +kernel
theorem dX6_cell_100 : decode cX6_cell 100 = .ok (.aload_n 0, 1) := by decide +kernel
theorem dX6_cell_101 : decode cX6_cell 101 = .ok (.getfield 10, 3) := by decide +kernel
theorem dX6_cell_104 : decode cX6_cell 104 = .ok (.iload_n 1, 1) := by decide +kernel
theorem dX6_cell_105 : decode cX6_cell 105 = .ok (.iload_n 2, 1) := by decide +kernel
theorem dX6_cell_106 : decode cX6_cell 106 = .ok (.invokevirtual 98, 3) := by decide +kernel
theorem dX6_cell_109 : decode cX6_cell 109 = .ok (.goto 5, 3) := by decide +kernel
theorem dX6_cell_112 : decode cX6_cell 112 = .ok (.bipush (-4), 2) := by decide +kernel
theorem dX6_cell_114 : decode cX6_cell 114 = .ok (.ireturn, 1) := by decide +kernel
theorem dX6_cell_115 : decode cX6_cell 115 = .ok (.aload_n 0, 1) := by decide +kernel
theorem dX6_cell_116 : decode cX6_cell 116 = .ok (.getfield 10, 3) := by decide +kernel
theorem dX6_cell_119 : decode cX6_cell 119 = .ok (.getfield 45, 3) := by decide +kernel
theorem dX6_cell_122 : decode cX6_cell 122 = .ok (.iload_n 1, 1) := by decide +kernel
theorem dX6_cell_123 : decode cX6_cell 123 = .ok (.iload_n 2, 1) := by decide +kernel
theorem dX6_cell_124 : decode cX6_cell 124 = .ok (.invokevirtual 81, 3) := by decide +kernel
theorem dX6_cell_127 : decode cX6_cell 127 = .ok (.ifCond .eq 18, 3) := by decide +kernel
theorem dX6_cell_130 : decode cX6_cell 130 = .ok (.aload_n 0, 1) := by decide +kernel
theorem dX6_cell_131 : decode cX6_cell 131 = .ok (.getfield 10, 3) := by decide +kernel
theorem dX6_cell_134 : decode cX6_cell 134 = .ok (.getfield 45, 3) := by decide +kernel
theorem dX6_cell_137 : decode cX6_cell 137 = .ok (.iload_n 1, 1) := by decide +kernel
theorem dX6_cell_138 : decode cX6_cell 138 = .ok (.iload_n 2, 1) := by decide +kernel
theorem dX6_cell_139 : decode cX6_cell 139 = .ok (.invokevirtual 101, 3) := by decide +kernel
theorem dX6_cell_142 : decode cX6_cell 142 = .ok (.goto 5, 3) := by decide +kernel
theorem dX6_cell_145 : decode cX6_cell 145 = .ok (.bipush (-4), 2) := by decide +kernel
theorem dX6_cell_147 : decode cX6_cell 147 = .ok (.ireturn, 1) := by decide +kernel
theorem dX6_cell_148 : decode cX6_cell 148 = .ok (.iconst (-1), 1) := by decide +kernel
theorem dX6_cell_149 : decode cX6_cell 149 = .ok (.ireturn, 1) := by decide +kernel
theorem dX6_count_0 : decode cX6_count 0 = .ok (.iload_n 1, 1) := by decide +kernel
theorem dX6_count_1 : decode cX6_count 1 = .ok (.iconst 0, 1) := by decide +kernel
theorem dX6_count_2 : decode cX6_count 2 = .ok (.iconst 5, 1) := by decide +kernel
theorem dX6_count_3 : decode cX6_count 3 = .ok (.invokestatic 33, 3) := by decide +kernel
theorem dX6_count_6 : decode cX6_count 6 = .ok (.ifCond .eq 9, 3) := by decide +kernel
theorem dX6_count_9 : decode cX6_count 9 = .ok (.aload_n 0, 1) := by decide +kernel
theorem dX6_count_10 : decode cX6_count 10 = .ok (.iload_n 1, 1) := by decide +kernel
theorem dX6_count_11 : decode cX6_count 11 = .ok (.invokevirtual 104, 3) := by decide +kernel
theorem dX6_count_14 : decode cX6_count 14 = .ok (.ireturn, 1) := by decide +kernel
theorem dX6_count_15 : decode cX6_count 15 = .ok (.iload_n 1, 1) := by decide +kernel
theorem dX6_count_16 : decode cX6_count 16 = .ok (.bipush 6, 2) := by decide +kernel
theorem dX6_count_18 : decode cX6_count 18 = .ok (.bipush 16, 2) := by decide +kernel
theorem dX6_count_20 : decode cX6_count 20 = .ok (.invokestatic 33, 3) := by decide +kernel
theorem dX6_count_23 : decode cX6_count 23 = .ok (.ifCond .eq 9, 3) := by decide +kernel
theorem dX6_count_26 : decode cX6_count 26 = .ok (.aload_n 0, 1) := by decide +kernel
theorem dX6_count_27 : decode cX6_count 27 = .ok (.iload_n 1, 1) := by decide +kernel
theorem dX6_count_28 : decode cX6_count 28 = .ok (.invokevirtual 107, 3) := by decide +kernel
theorem dX6_count_31 : decode cX6_count 31 = .ok (.ireturn, 1) := by decide +kernel
theorem dX6_count_32 : decode cX6_count 32 = .ok (.iload_n 1, 1) := by decide +kernel
theorem dX6_count_33 : decode cX6_count 33 = .ok (.bipush 20, 2) := by decide +kernel
theorem dX6_count_35 : decode cX6_count 35 = .ok (.bipush 26, 2) := by decide +kernel
theorem dX6_count_37 : decode cX6_count 37 = .ok (.invokestatic 33, 3) := by decide +kernel
theorem dX6_count_40 : decode cX6_count 40 = .ok (.ifCond .eq 12, 3) := by decide +kernel
theorem dX6_count_43 : decode cX6_count 43 = .ok (.aload_n 0, 1) := by decide +kernel
theorem dX6_count_44 : decode cX6_count 44 = .ok (.iload_n 1, 1) := by decide +kernel
theorem dX6_count_45 : decode cX6_count 45 = .ok (.bipush 20, 2) := by decide +kernel
theorem dX6_count_47 : decode cX6_count 47 = .ok (.isub, 1) := by decide +kernel
theorem dX6_count_48 : decode cX6_count 48 = .ok (.invokevirtual 110, 3) := by decide +kernel
theorem dX6_count_51 : decode cX6_count 51 = .ok (.ireturn, 1) := by decide +kernel
theorem dX6_count_52 : decode cX6_count 52 = .ok (.iconst (-1), 1) := by decide +kernel
theorem dX6_count_53 : decode cX6_count 53 = .ok (.ireturn, 1) := by decide +kernel
theorem dX6_shade_0 : decode cX6_shade 0 = .ok (.iload_n 1, 1) := by decide +kernel
theorem dX6_shade_1 : decode cX6_shade 1 = .ok (.ifCond .ge 5, 3) := by decide +kernel
theorem dX6_shade_4 : decode cX6_shade 4 = .ok (.iconst (-1), 1) := by decide +kernel
theorem dX6_shade_5 : decode cX6_shade 5 = .ok (.ireturn, 1) := by decide +kernel
theorem dX6_shade_6 : decode cX6_shade 6 = .ok (.iload_n 1, 1) := by decide +kernel
theorem dX6_shade_7 : decode cX6_shade 7 = .ok (.aload_n 0, 1) := by decide +kernel
theorem dX6_shade_8 : decode cX6_shade 8 = .ok (.getfield 10, 3) := by decide +kernel
theorem dX6_shade_11 : decode cX6_shade 11 = .ok (.getfield 45, 3) := by decide +kernel
theorem dX6_shade_14 : decode cX6_shade 14 = .ok (.getfield 113, 3) := by decide +kernel
theorem dX6_shade_17 : decode cX6_shade 17 = .ok (.if_icmp .ge 17, 3) := by decide +kernel
theorem dX6_shade_20 : decode cX6_shade 20 = .ok (.aload_n 0, 1) := by decide +kernel
theorem dX6_shade_21 : decode cX6_shade 21 = .ok (.getfield 10, 3) := by decide +kernel
theorem dX6_shade_24 : decode cX6_shade 24 = .ok (.getfield 45, 3) := by decide +kernel
theorem dX6_shade_27 : decode cX6_shade 27 = .ok (.iload_n 1, 1) := by decide +kernel
theorem dX6_shade_28 : decode cX6_shade 28 = .ok (.invokevirtual 116, 3) := by decide +kernel
theorem dX6_shade_31 : decode cX6_shade 31 = .ok (.goto 5, 3) := by decide +kernel
theorem dX6_shade_34 : decode cX6_shade 34 = .ok (.bipush (-4), 2) := by decide +kernel
theorem dX6_shade_36 : decode cX6_shade 36 = .ok (.ireturn, 1) := by decide +kernel
theorem dX6_undo_0 : decode cX6_undo 0 = .ok (.aload_n 0, 1) := by decide +kernel
theorem dX6_undo_1 : decode cX6_undo 1 = .ok (.getfield 22, 3) := by decide +kernel
theorem dX6_undo_4 : decode cX6_undo 4 = .ok (.invokevirtual 119, 3) := by decide +kernel
theorem dX6_undo_7 : decode cX6_undo 7 = .ok (.ifCond .ne 6, 3) := by decide +kernel
theorem dX6_undo_10 : decode cX6_undo 10 = .ok (.bipush (-2), 2) := by decide +kernel
theorem dX6_undo_12 : decode cX6_undo 12 = .ok (.ireturn, 1) := by decide +kernel
theorem dX6_undo_13 : decode cX6_undo 13 = .ok (.aload_n 0, 1) := by decide +kernel
theorem dX6_undo_14 : decode cX6_undo 14 = .ok (.getfield 22, 3) := by decide +kernel
theorem dX6_undo_17 : decode cX6_undo 17 = .ok (.aload_n 0, 1) := by decide +kernel
theorem dX6_undo_18 : decode cX6_undo 18 = .ok (.getfield 10, 3) := by decide +kernel
theorem dX6_undo_21 : decode cX6_undo 21 = .ok (.invokevirtual 122, 3) := by decide +kernel
theorem dX6_undo_24 : decode cX6_undo 24 = .ok (.aload_n 0, 1) := by decide +kernel
theorem dX6_undo_25 : decode cX6_undo 25 = .ok (.getfield 22, 3) := by decide +kernel
theorem dX6_undo_28 : decode cX6_undo 28 = .ok (.invokevirtual 119, 3) := by decide +kernel
theorem dX6_undo_31 : decode cX6_undo 31 = .ok (.ireturn, 1) := by decide +kernel
theorem dX6_strip_0 : decode cX6_strip 0 = .ok (.iload_n 1, 1) := by decide +kernel
theorem dX6_strip_1 : decode cX6_strip 1 = .ok (.bipush 20, 2) := by decide +kernel
theorem dX6_strip_3 : decode cX6_strip 3 = .ok (.sipush 1000, 3) := by decide +kernel
theorem dX6_strip_6 : decode cX6_strip 6 = .ok (.invokestatic 33, 3) := by decide +kernel
theorem dX6_strip_9 : decode cX6_strip 9 = .ok (.ifCond .eq 10, 3) := by decide +kernel
theorem dX6_strip_12 : decode cX6_strip 12 = .ok (.iload_n 2, 1) := by decide +kernel
theorem dX6_strip_13 : decode cX6_strip 13 = .ok (.invokestatic 77, 3) := by decide +kernel
theorem dX6_strip_16 : decode cX6_strip 16 = .ok (.ifCond .ne 5, 3) := by decide +kernel
theorem dX6_strip_19 : decode cX6_strip 19 = .ok (.iconst (-1), 1) := by decide +kernel
theorem dX6_strip_20 : decode cX6_strip 20 = .ok (.ireturn, 1) := by decide +kernel
theorem dX6_strip_21 : decode cX6_strip 21 = .ok (.aload_n 0, 1) := by decide +kernel
theorem dX6_strip_22 : decode cX6_strip 22 = .ok (.getfield 10, 3) := by decide +kernel
theorem dX6_strip_25 : decode cX6_strip 25 = .ok (.getfield 125, 3) := by decide +kernel
theorem dX6_strip_28 : decode cX6_strip 28 = .ok (.getfield 129, 3) := by decide +kernel
theorem dX6_strip_31 : decode cX6_strip 31 = .ok (.bipush 10, 2) := by decide +kernel
theorem dX6_strip_33 : decode cX6_strip 33 = .ok (.if_icmp .lt 6, 3) := by decide +kernel
theorem dX6_strip_36 : decode cX6_strip 36 = .ok (.bipush (-3), 2) := by decide +kernel
theorem dX6_strip_38 : decode cX6_strip 38 = .ok (.ireturn, 1) := by decide +kernel
theorem dX6_strip_39 : decode cX6_strip 39 = .ok (.aload_n 0, 1) := by decide +kernel
theorem dX6_strip_40 : decode cX6_strip 40 = .ok (.getfield 22, 3) := by decide +kernel
theorem dX6_strip_43 : decode cX6_strip 43 = .ok (.aload_n 0, 1) := by decide +kernel
theorem dX6_strip_44 : decode cX6_strip 44 = .ok (.getfield 10, 3) := by decide +kernel
theorem dX6_strip_47 : decode cX6_strip 47 = .ok (.invokevirtual 41, 3) := by decide +kernel
theorem dX6_strip_50 : decode cX6_strip 50 = .ok (.aload_n 0, 1) := by decide +kernel
theorem dX6_strip_51 : decode cX6_strip 51 = .ok (.getfield 10, 3) := by decide +kernel
theorem dX6_strip_54 : decode cX6_strip 54 = .ok (.getfield 125, 3) := by decide +kernel
theorem dX6_strip_57 : decode cX6_strip 57 = .ok (.iload_n 1, 1) := by decide +kernel
theorem dX6_strip_58 : decode cX6_strip 58 = .ok (.iload_n 2, 1) := by decide +kernel
theorem dX6_strip_59 : decode cX6_strip 59 = .ok (.invokevirtual 134, 3) := by decide +kernel
theorem dX6_strip_62 : decode cX6_strip 62 = .ok (.ireturn, 1) := by decide +kernel
theorem dX6_flaw_0 : decode cX6_flaw 0 = .ok (.aload_n 0, 1) := by decide +kernel
theorem dX6_flaw_1 : decode cX6_flaw 1 = .ok (.getfield 10, 3) := by decide +kernel
theorem dX6_flaw_4 : decode cX6_flaw 4 = .ok (.getfield 125, 3) := by decide +kernel
theorem dX6_flaw_7 : decode cX6_flaw 7 = .ok (.iload_n 1, 1) := by decide +kernel
theorem dX6_flaw_8 : decode cX6_flaw 8 = .ok (.invokevirtual 137, 3) := by decide +kernel
theorem dX6_flaw_11 : decode cX6_flaw 11 = .ok (.astore_n 3, 1) := by decide +kernel
theorem dX6_flaw_12 : decode cX6_flaw 12 = .ok (.aload_n 3, 1) := by decide +kernel
theorem dX6_flaw_13 : decode cX6_flaw 13 = .ok (.ifnull 14, 3) := by decide +kernel
theorem dX6_flaw_16 : decode cX6_flaw 16 = .ok (.iload_n 2, 1) := by decide +kernel
theorem dX6_flaw_17 : decode cX6_flaw 17 = .ok (.iconst 0, 1) := by decide +kernel
theorem dX6_flaw_18 : decode cX6_flaw 18 = .ok (.sipush 999, 3) := by decide +kernel
theorem dX6_flaw_21 : decode cX6_flaw 21 = .ok (.invokestatic 33, 3) := by decide +kernel
theorem dX6_flaw_24 : decode cX6_flaw 24 = .ok (.ifCond .ne 5, 3) := by decide +kernel
theorem dX6_flaw_27 : decode cX6_flaw 27 = .ok (.iconst (-1), 1) := by decide +kernel
theorem dX6_flaw_28 : decode cX6_flaw 28 = .ok (.ireturn, 1) := by decide +kernel
theorem dX6_flaw_29 : decode cX6_flaw 29 = .ok (.iload_n 2, 1) := by decide +kernel
theorem dX6_flaw_30 : decode cX6_flaw 30 = .ok (.aload_n 3, 1) := by decide +kernel
theorem dX6_flaw_31 : decode cX6_flaw 31 = .ok (.getfield 141, 3) := by decide +kernel
theorem dX6_flaw_34 : decode cX6_flaw 34 = .ok (.aload_n 3, 1) := by decide +kernel
theorem dX6_flaw_35 : decode cX6_flaw 35 = .ok (.getfield 146, 3) := by decide +kernel
theorem dX6_flaw_38 : decode cX6_flaw 38 = .ok (.iconst 1, 1) := by decide +kernel
theorem dX6_flaw_39 : decode cX6_flaw 39 = .ok (.isub, 1) := by decide +kernel
theorem dX6_flaw_40 : decode cX6_flaw 40 = .ok (.invokestatic 33, 3) := by decide +kernel
theorem dX6_flaw_43 : decode cX6_flaw 43 = .ok (.ifCond .eq 14, 3) := by decide +kernel
theorem dX6_flaw_46 : decode cX6_flaw 46 = .ok (.aload_n 3, 1) := by decide +kernel
theorem dX6_flaw_47 : decode cX6_flaw 47 = .ok (.iload_n 2, 1) := by decide +kernel
theorem dX6_flaw_48 : decode cX6_flaw 48 = .ok (.iload_n 2, 1) := by decide +kernel
theorem dX6_flaw_49 : decode cX6_flaw 49 = .ok (.iconst 1, 1) := by decide +kernel
theorem dX6_flaw_50 : decode cX6_flaw 50 = .ok (.iadd, 1) := by decide +kernel
theorem dX6_flaw_51 : decode cX6_flaw 51 = .ok (.invokevirtual 149, 3) := by decide +kernel
theorem dX6_flaw_54 : decode cX6_flaw 54 = .ok (.ifCond .eq 6, 3) := by decide +kernel
theorem dX6_flaw_57 : decode cX6_flaw 57 = .ok (.bipush (-2), 2) := by decide +kernel
theorem dX6_flaw_59 : decode cX6_flaw 59 = .ok (.ireturn, 1) := by decide +kernel
theorem dX6_flaw_60 : decode cX6_flaw 60 = .ok (.aload_n 3, 1) := by decide +kernel
theorem dX6_flaw_61 : decode cX6_flaw 61 = .ok (.getfield 152, 3) := by decide +kernel
theorem dX6_flaw_64 : decode cX6_flaw 64 = .ok (.bipush 6, 2) := by decide +kernel
theorem dX6_flaw_66 : decode cX6_flaw 66 = .ok (.if_icmp .lt 6, 3) := by decide +kernel
theorem dX6_flaw_69 : decode cX6_flaw 69 = .ok (.bipush (-3), 2) := by decide +kernel
theorem dX6_flaw_71 : decode cX6_flaw 71 = .ok (.ireturn, 1) := by decide +kernel
theorem dX6_flaw_72 : decode cX6_flaw 72 = .ok (.aload_n 0, 1) := by decide +kernel
theorem dX6_flaw_73 : decode cX6_flaw 73 = .ok (.getfield 22, 3) := by decide +kernel
theorem dX6_flaw_76 : decode cX6_flaw 76 = .ok (.aload_n 0, 1) := by decide +kernel
theorem dX6_flaw_77 : decode cX6_flaw 77 = .ok (.getfield 10, 3) := by decide +kernel
theorem dX6_flaw_80 : decode cX6_flaw 80 = .ok (.invokevirtual 41, 3) := by decide +kernel
theorem dX6_flaw_83 : decode cX6_flaw 83 = .ok (.aload_n 3, 1) := by decide +kernel
theorem dX6_flaw_84 : decode cX6_flaw 84 = .ok (.iload_n 2, 1) := by decide +kernel
theorem dX6_flaw_85 : decode cX6_flaw 85 = .ok (.invokevirtual 155, 3) := by decide +kernel
theorem dX6_flaw_88 : decode cX6_flaw 88 = .ok (.aload_n 3, 1) := by decide +kernel
theorem dX6_flaw_89 : decode cX6_flaw 89 = .ok (.getfield 152, 3) := by decide +kernel
theorem dX6_flaw_92 : decode cX6_flaw 92 = .ok (.ireturn, 1) := by decide +kernel
theorem dX6_cut_0 : decode cX6_cut 0 = .ok (.aload_n 0, 1) := by decide +kernel
theorem dX6_cut_1 : decode cX6_cut 1 = .ok (.getfield 10, 3) := by decide +kernel
theorem dX6_cut_4 : decode cX6_cut 4 = .ok (.getfield 125, 3) := by decide +kernel
theorem dX6_cut_7 : decode cX6_cut 7 = .ok (.iload_n 1, 1) := by decide +kernel
theorem dX6_cut_8 : decode cX6_cut 8 = .ok (.invokevirtual 137, 3) := by decide +kernel
theorem dX6_cut_11 : decode cX6_cut 11 = .ok (.astore_n 2, 1) := by decide +kernel
theorem dX6_cut_12 : decode cX6_cut 12 = .ok (.aload_n 2, 1) := by decide +kernel
theorem dX6_cut_13 : decode cX6_cut 13 = .ok (.ifnonnull 5, 3) := by decide +kernel
theorem dX6_cut_16 : decode cX6_cut 16 = .ok (.iconst (-1), 1) := by decide +kernel
theorem dX6_cut_17 : decode cX6_cut 17 = .ok (.ireturn, 1) := by decide +kernel
theorem dX6_cut_18 : decode cX6_cut 18 = .ok (.aload_n 2, 1) := by decide +kernel
theorem dX6_cut_19 : decode cX6_cut 19 = .ok (.invokevirtual 159, 3) := by decide +kernel
theorem dX6_cut_22 : decode cX6_cut 22 = .ok (.aload_n 0, 1) := by decide +kernel
theorem dX6_cut_23 : decode cX6_cut 23 = .ok (.getfield 10, 3) := by decide +kernel
theorem dX6_cut_26 : decode cX6_cut 26 = .ok (.getfield 125, 3) := by decide +kernel
theorem dX6_cut_29 : decode cX6_cut 29 = .ok (.getfield 162, 3) := by decide +kernel
theorem dX6_cut_32 : decode cX6_cut 32 = .ok (.if_icmp .ge 6, 3) := by decide +kernel
theorem dX6_cut_35 : decode cX6_cut 35 = .ok (.bipush (-2), 2) := by decide +kernel
theorem dX6_cut_37 : decode cX6_cut 37 = .ok (.ireturn, 1) := by decide +kernel
theorem dX6_cut_38 : decode cX6_cut 38 = .ok (.aload_n 0, 1) := by decide +kernel
theorem dX6_cut_39 : decode cX6_cut 39 = .ok (.getfield 22, 3) := by decide +kernel
theorem dX6_cut_42 : decode cX6_cut 42 = .ok (.aload_n 0, 1) := by decide +kernel
theorem dX6_cut_43 : decode cX6_cut 43 = .ok (.getfield 10, 3) := by decide +kernel
theorem dX6_cut_46 : decode cX6_cut 46 = .ok (.invokevirtual 41, 3) := by decide +kernel
theorem dX6_cut_49 : decode cX6_cut 49 = .ok (.aload_n 0, 1) := by decide +kernel
theorem dX6_cut_50 : decode cX6_cut 50 = .ok (.getfield 10, 3) := by decide +kernel
theorem dX6_cut_53 : decode cX6_cut 53 = .ok (.getfield 125, 3) := by decide +kernel
theorem dX6_cut_56 : decode cX6_cut 56 = .ok (.aload_n 2, 1) := by decide +kernel
theorem dX6_cut_57 : decode cX6_cut 57 = .ok (.invokevirtual 165, 3) := by decide +kernel
theorem dX6_cut_60 : decode cX6_cut 60 = .ok (.ifCond .eq 7, 3) := by decide +kernel
theorem dX6_cut_63 : decode cX6_cut 63 = .ok (.iconst 1, 1) := by decide +kernel
theorem dX6_cut_64 : decode cX6_cut 64 = .ok (.goto 4, 3) := by decide +kernel
theorem dX6_cut_67 : decode cX6_cut 67 = .ok (.iconst 0, 1) := by decide +kernel
theorem dX6_cut_68 : decode cX6_cut 68 = .ok (.ireturn, 1) := by decide +kernel
theorem dX6_stripOf_0 : decode cX6_stripOf 0 = .ok (.aload_n 0, 1) := by decide +kernel
theorem dX6_stripOf_1 : decode cX6_stripOf 1 = .ok (.getfield 10, 3) := by decide +kernel
theorem dX6_stripOf_4 : decode cX6_stripOf 4 = .ok (.getfield 125, 3) := by decide +kernel
theorem dX6_stripOf_7 : decode cX6_stripOf 7 = .ok (.iload_n 1, 1) := by decide +kernel
theorem dX6_stripOf_8 : decode cX6_stripOf 8 = .ok (.invokevirtual 137, 3) := by decide +kernel
theorem dX6_stripOf_11 : decode cX6_stripOf 11 = .ok (.astore_n 3, 1) := by decide +kernel
theorem dX6_stripOf_12 : decode cX6_stripOf 12 = .ok (.aload_n 3, 1) := by decide +kernel
theorem dX6_stripOf_13 : decode cX6_stripOf 13 = .ok (.ifnonnull 5, 3) := by decide +kernel
theorem dX6_stripOf_16 : decode cX6_stripOf 16 = .ok (.iconst (-1), 1) := by decide +kernel
theorem dX6_stripOf_17 : decode cX6_stripOf 17 = .ok (.ireturn, 1) := by decide +kernel
theorem dX6_stripOf_18 : decode cX6_stripOf 18 = .ok (.iload_n 2, 1) := by decide +kernel
theorem dX6_stripOf_19 : decode cX6_stripOf 19 = .ok (.tableswitch 116 0 6 #[41, 46, 51, 56, 61, 86, 111], 41) := by decide +kernel
theorem dX6_stripOf_60 : decode cX6_stripOf 60 = .ok (.aload_n 3, 1) := by decide +kernel
theorem dX6_stripOf_61 : decode cX6_stripOf 61 = .ok (.getfield 146, 3) := by decide +kernel
theorem dX6_stripOf_64 : decode cX6_stripOf 64 = .ok (.ireturn, 1) := by decide +kernel
theorem dX6_stripOf_65 : decode cX6_stripOf 65 = .ok (.aload_n 3, 1) := by decide +kernel
theorem dX6_stripOf_66 : decode cX6_stripOf 66 = .ok (.getfield 169, 3) := by decide +kernel
theorem dX6_stripOf_69 : decode cX6_stripOf 69 = .ok (.ireturn, 1) := by decide +kernel
theorem dX6_stripOf_70 : decode cX6_stripOf 70 = .ok (.aload_n 3, 1) := by decide +kernel
theorem dX6_stripOf_71 : decode cX6_stripOf 71 = .ok (.invokevirtual 159, 3) := by decide +kernel
theorem dX6_stripOf_74 : decode cX6_stripOf 74 = .ok (.ireturn, 1) := by decide +kernel
theorem dX6_stripOf_75 : decode cX6_stripOf 75 = .ok (.aload_n 3, 1) := by decide +kernel
theorem dX6_stripOf_76 : decode cX6_stripOf 76 = .ok (.getfield 152, 3) := by decide +kernel
theorem dX6_stripOf_79 : decode cX6_stripOf 79 = .ok (.ireturn, 1) := by decide +kernel
theorem dX6_stripOf_80 : decode cX6_stripOf 80 = .ok (.aload_n 3, 1) := by decide +kernel
theorem dX6_stripOf_81 : decode cX6_stripOf 81 = .ok (.aload_n 0, 1) := by decide +kernel
theorem dX6_stripOf_82 : decode cX6_stripOf 82 = .ok (.getfield 10, 3) := by decide +kernel
theorem dX6_stripOf_85 : decode cX6_stripOf 85 = .ok (.getfield 125, 3) := by decide +kernel
theorem dX6_stripOf_88 : decode cX6_stripOf 88 = .ok (.getfield 162, 3) := by decide +kernel
theorem dX6_stripOf_91 : decode cX6_stripOf 91 = .ok (.aload_n 0, 1) := by decide +kernel
theorem dX6_stripOf_92 : decode cX6_stripOf 92 = .ok (.getfield 10, 3) := by decide +kernel
theorem dX6_stripOf_95 : decode cX6_stripOf 95 = .ok (.getfield 125, 3) := by decide +kernel
theorem dX6_stripOf_98 : decode cX6_stripOf 98 = .ok (.getfield 172, 3) := by decide +kernel
theorem dX6_stripOf_101 : decode cX6_stripOf 101 = .ok (.invokevirtual 175, 3) := by decide +kernel
theorem dX6_stripOf_104 : decode cX6_stripOf 104 = .ok (.ireturn, 1) := by decide +kernel
theorem dX6_stripOf_105 : decode cX6_stripOf 105 = .ok (.aload_n 3, 1) := by decide +kernel
theorem dX6_stripOf_106 : decode cX6_stripOf 106 = .ok (.aload_n 0, 1) := by decide +kernel
theorem dX6_stripOf_107 : decode cX6_stripOf 107 = .ok (.getfield 10, 3) := by decide +kernel
theorem dX6_stripOf_110 : decode cX6_stripOf 110 = .ok (.getfield 125, 3) := by decide +kernel
theorem dX6_stripOf_113 : decode cX6_stripOf 113 = .ok (.getfield 162, 3) := by decide +kernel
theorem dX6_stripOf_116 : decode cX6_stripOf 116 = .ok (.aload_n 0, 1) := by decide +kernel
theorem dX6_stripOf_117 : decode cX6_stripOf 117 = .ok (.getfield 10, 3) := by decide +kernel
theorem dX6_stripOf_120 : decode cX6_stripOf 120 = .ok (.getfield 125, 3) := by decide +kernel
theorem dX6_stripOf_123 : decode cX6_stripOf 123 = .ok (.getfield 172, 3) := by decide +kernel
theorem dX6_stripOf_126 : decode cX6_stripOf 126 = .ok (.invokevirtual 178, 3) := by decide +kernel
theorem dX6_stripOf_129 : decode cX6_stripOf 129 = .ok (.ireturn, 1) := by decide +kernel
theorem dX6_stripOf_130 : decode cX6_stripOf 130 = .ok (.aload_n 3, 1) := by decide +kernel
theorem dX6_stripOf_131 : decode cX6_stripOf 131 = .ok (.getfield 181, 3) := by decide +kernel
theorem dX6_stripOf_134 : decode cX6_stripOf 134 = .ok (.ireturn, 1) := by decide +kernel
theorem dX6_stripOf_135 : decode cX6_stripOf 135 = .ok (.iconst (-1), 1) := by decide +kernel
theorem dX6_stripOf_136 : decode cX6_stripOf 136 = .ok (.ireturn, 1) := by decide +kernel
theorem dX6_lay_0 : decode cX6_lay 0 = .ok (.aload_n 0, 1) := by decide +kernel
theorem dX6_lay_1 : decode cX6_lay 1 = .ok (.getfield 10, 3) := by decide +kernel
theorem dX6_lay_4 : decode cX6_lay 4 = .ok (.getfield 45, 3) := by decide +kernel
theorem dX6_lay_7 : decode cX6_lay 7 = .ok (.iload_n 1, 1) := by decide +kernel
theorem dX6_lay_8 : decode cX6_lay 8 = .ok (.iload_n 2, 1) := by decide +kernel
theorem dX6_lay_9 : decode cX6_lay 9 = .ok (.invokevirtual 73, 3) := by decide +kernel
theorem dX6_lay_12 : decode cX6_lay 12 = .ok (.ifCond .ne 5, 3) := by decide +kernel
theorem dX6_lay_15 : decode cX6_lay 15 = .ok (.iconst (-1), 1) := by decide +kernel
theorem dX6_lay_16 : decode cX6_lay 16 = .ok (.ireturn, 1) := by decide +kernel
theorem dX6_lay_17 : decode cX6_lay 17 = .ok (.aload_n 0, 1) := by decide +kernel
theorem dX6_lay_18 : decode cX6_lay 18 = .ok (.getfield 10, 3) := by decide +kernel
theorem dX6_lay_21 : decode cX6_lay 21 = .ok (.iload_n 1, 1) := by decide +kernel
theorem dX6_lay_22 : decode cX6_lay 22 = .ok (.iload_n 2, 1) := by decide +kernel
theorem dX6_lay_23 : decode cX6_lay 23 = .ok (.invokevirtual 84, 3) := by decide +kernel
theorem dX6_lay_26 : decode cX6_lay 26 = .ok (.ifCond .ne 16, 3) := by decide +kernel
theorem dX6_lay_29 : decode cX6_lay 29 = .ok (.aload_n 0, 1) := by decide +kernel
theorem dX6_lay_30 : decode cX6_lay 30 = .ok (.getfield 10, 3) := by decide +kernel
theorem dX6_lay_33 : decode cX6_lay 33 = .ok (.iload_n 1, 1) := by decide +kernel
theorem dX6_lay_34 : decode cX6_lay 34 = .ok (.iload_n 2, 1) := by decide +kernel
theorem dX6_lay_35 : decode cX6_lay 35 = .ok (.invokevirtual 184, 3) := by decide +kernel
theorem dX6_lay_38 : decode cX6_lay 38 = .ok (.iconst (-1), 1) := by decide +kernel
theorem dX6_lay_39 : decode cX6_lay 39 = .ok (.if_icmp .ne 6, 3) := by decide +kernel
theorem dX6_lay_42 : decode cX6_lay 42 = .ok (.bipush (-2), 2) := by decide +kernel
theorem dX6_lay_44 : decode cX6_lay 44 = .ok (.ireturn, 1) := by decide +kernel
theorem dX6_lay_45 : decode cX6_lay 45 = .ok (.aload_n 0, 1) := by decide +kernel
theorem dX6_lay_46 : decode cX6_lay 46 = .ok (.getfield 22, 3) := by decide +kernel
theorem dX6_lay_49 : decode cX6_lay 49 = .ok (.aload_n 0, 1) := by decide +kernel
theorem dX6_lay_50 : decode cX6_lay 50 = .ok (.getfield 10, 3) := by decide +kernel
theorem dX6_lay_53 : decode cX6_lay 53 = .ok (.invokevirtual 41, 3) := by decide +kernel
theorem dX6_lay_56 : decode cX6_lay 56 = .ok (.aload_n 0, 1) := by decide +kernel
theorem dX6_lay_57 : decode cX6_lay 57 = .ok (.getfield 10, 3) := by decide +kernel
theorem dX6_lay_60 : decode cX6_lay 60 = .ok (.iload_n 1, 1) := by decide +kernel
theorem dX6_lay_61 : decode cX6_lay 61 = .ok (.iload_n 2, 1) := by decide +kernel
theorem dX6_lay_62 : decode cX6_lay 62 = .ok (.invokevirtual 187, 3) := by decide +kernel
theorem dX6_lay_65 : decode cX6_lay 65 = .ok (.aload_n 0, 1) := by decide +kernel
theorem dX6_lay_66 : decode cX6_lay 66 = .ok (.getfield 10, 3) := by decide +kernel
theorem dX6_lay_69 : decode cX6_lay 69 = .ok (.iload_n 1, 1) := by decide +kernel
theorem dX6_lay_70 : decode cX6_lay 70 = .ok (.iload_n 2, 1) := by decide +kernel
theorem dX6_lay_71 : decode cX6_lay 71 = .ok (.invokevirtual 95, 3) := by decide +kernel
theorem dX6_lay_74 : decode cX6_lay 74 = .ok (.ireturn, 1) := by decide +kernel
theorem dX6_layAll_0 : decode cX6_layAll 0 = .ok (.aload_n 0, 1) := by decide +kernel
theorem dX6_layAll_1 : decode cX6_layAll 1 = .ok (.getfield 22, 3) := by decide +kernel
theorem dX6_layAll_4 : decode cX6_layAll 4 = .ok (.aload_n 0, 1) := by decide +kernel
theorem dX6_layAll_5 : decode cX6_layAll 5 = .ok (.getfield 10, 3) := by decide +kernel
theorem dX6_layAll_8 : decode cX6_layAll 8 = .ok (.invokevirtual 41, 3) := by decide +kernel
theorem dX6_layAll_11 : decode cX6_layAll 11 = .ok (.aload_n 0, 1) := by decide +kernel
theorem dX6_layAll_12 : decode cX6_layAll 12 = .ok (.getfield 10, 3) := by decide +kernel
theorem dX6_layAll_15 : decode cX6_layAll 15 = .ok (.invokevirtual 190, 3) := by decide +kernel
theorem dX6_layAll_18 : decode cX6_layAll 18 = .ok (.ireturn, 1) := by decide +kernel
theorem dX6_lift_0 : decode cX6_lift 0 = .ok (.aload_n 0, 1) := by decide +kernel
theorem dX6_lift_1 : decode cX6_lift 1 = .ok (.getfield 10, 3) := by decide +kernel
theorem dX6_lift_4 : decode cX6_lift 4 = .ok (.getfield 45, 3) := by decide +kernel
theorem dX6_lift_7 : decode cX6_lift 7 = .ok (.iload_n 1, 1) := by decide +kernel
theorem dX6_lift_8 : decode cX6_lift 8 = .ok (.iload_n 2, 1) := by decide +kernel
theorem dX6_lift_9 : decode cX6_lift 9 = .ok (.invokevirtual 73, 3) := by decide +kernel
theorem dX6_lift_12 : decode cX6_lift 12 = .ok (.ifCond .ne 5, 3) := by decide +kernel
theorem dX6_lift_15 : decode cX6_lift 15 = .ok (.iconst (-1), 1) := by decide +kernel
theorem dX6_lift_16 : decode cX6_lift 16 = .ok (.ireturn, 1) := by decide +kernel
theorem dX6_lift_17 : decode cX6_lift 17 = .ok (.aload_n 0, 1) := by decide +kernel
theorem dX6_lift_18 : decode cX6_lift 18 = .ok (.getfield 10, 3) := by decide +kernel
theorem dX6_lift_21 : decode cX6_lift 21 = .ok (.iload_n 1, 1) := by decide +kernel
theorem dX6_lift_22 : decode cX6_lift 22 = .ok (.iload_n 2, 1) := by decide +kernel
theorem dX6_lift_23 : decode cX6_lift 23 = .ok (.invokevirtual 84, 3) := by decide +kernel
theorem dX6_lift_26 : decode cX6_lift 26 = .ok (.ifCond .ne 6, 3) := by decide +kernel
theorem dX6_lift_29 : decode cX6_lift 29 = .ok (.bipush (-2), 2) := by decide +kernel
theorem dX6_lift_31 : decode cX6_lift 31 = .ok (.ireturn, 1) := by decide +kernel
theorem dX6_lift_32 : decode cX6_lift 32 = .ok (.aload_n 0, 1) := by decide +kernel
theorem dX6_lift_33 : decode cX6_lift 33 = .ok (.getfield 22, 3) := by decide +kernel
theorem dX6_lift_36 : decode cX6_lift 36 = .ok (.aload_n 0, 1) := by decide +kernel
theorem dX6_lift_37 : decode cX6_lift 37 = .ok (.getfield 10, 3) := by decide +kernel
theorem dX6_lift_40 : decode cX6_lift 40 = .ok (.invokevirtual 41, 3) := by decide +kernel
theorem dX6_lift_43 : decode cX6_lift 43 = .ok (.aload_n 0, 1) := by decide +kernel
theorem dX6_lift_44 : decode cX6_lift 44 = .ok (.getfield 10, 3) := by decide +kernel
theorem dX6_lift_47 : decode cX6_lift 47 = .ok (.iload_n 1, 1) := by decide +kernel
theorem dX6_lift_48 : decode cX6_lift 48 = .ok (.iload_n 2, 1) := by decide +kernel
theorem dX6_lift_49 : decode cX6_lift 49 = .ok (.invokevirtual 193, 3) := by decide +kernel
theorem dX6_lift_52 : decode cX6_lift 52 = .ok (.ifCond .eq 7, 3) := by decide +kernel
theorem dX6_lift_55 : decode cX6_lift 55 = .ok (.iconst 1, 1) := by decide +kernel
theorem dX6_lift_56 : decode cX6_lift 56 = .ok (.goto 4, 3) := by decide +kernel
theorem dX6_lift_59 : decode cX6_lift 59 = .ok (.iconst 0, 1) := by decide +kernel
theorem dX6_lift_60 : decode cX6_lift 60 = .ok (.ireturn, 1) := by decide +kernel
theorem dX6_nearest_0 : decode cX6_nearest 0 = .ok (.aload_n 0, 1) := by decide +kernel
theorem dX6_nearest_1 : decode cX6_nearest 1 = .ok (.getfield 10, 3) := by decide +kernel
theorem dX6_nearest_4 : decode cX6_nearest 4 = .ok (.getfield 45, 3) := by decide +kernel
theorem dX6_nearest_7 : decode cX6_nearest 7 = .ok (.iload_n 1, 1) := by decide +kernel
theorem dX6_nearest_8 : decode cX6_nearest 8 = .ok (.iload_n 2, 1) := by decide +kernel
theorem dX6_nearest_9 : decode cX6_nearest 9 = .ok (.invokevirtual 73, 3) := by decide +kernel
theorem dX6_nearest_12 : decode cX6_nearest 12 = .ok (.ifCond .ne 5, 3) := by decide +kernel
theorem dX6_nearest_15 : decode cX6_nearest 15 = .ok (.iconst (-1), 1) := by decide +kernel
theorem dX6_nearest_16 : decode cX6_nearest 16 = .ok (.ireturn, 1) := by decide +kernel
theorem dX6_nearest_17 : decode cX6_nearest 17 = .ok (.aload_n 0, 1) := by decide +kernel
theorem dX6_nearest_18 : decode cX6_nearest 18 = .ok (.getfield 10, 3) := by decide +kernel
theorem dX6_nearest_21 : decode cX6_nearest 21 = .ok (.iload_n 1, 1) := by decide +kernel
theorem dX6_nearest_22 : decode cX6_nearest 22 = .ok (.iload_n 2, 1) := by decide +kernel
theorem dX6_nearest_23 : decode cX6_nearest 23 = .ok (.invokevirtual 84, 3) := by decide +kernel
theorem dX6_nearest_26 : decode cX6_nearest 26 = .ok (.ifCond .eq 6, 3) := by decide +kernel
theorem dX6_nearest_29 : decode cX6_nearest 29 = .ok (.bipush (-4), 2) := by decide +kernel
theorem dX6_nearest_31 : decode cX6_nearest 31 = .ok (.ireturn, 1) := by decide +kernel
theorem dX6_nearest_32 : decode cX6_nearest 32 = .ok (.aload_n 0, 1) := by decide +kernel
theorem dX6_nearest_33 : decode cX6_nearest 33 = .ok (.getfield 10, 3) := by decide +kernel
theorem dX6_nearest_36 : decode cX6_nearest 36 = .ok (.iload_n 1, 1) := by decide +kernel
theorem dX6_nearest_37 : decode cX6_nearest 37 = .ok (.iload_n 2, 1) := by decide +kernel
theorem dX6_nearest_38 : decode cX6_nearest 38 = .ok (.invokevirtual 184, 3) := by decide +kernel
theorem dX6_nearest_41 : decode cX6_nearest 41 = .ok (.istore_n 3, 1) := by decide +kernel
theorem dX6_nearest_42 : decode cX6_nearest 42 = .ok (.iload_n 3, 1) := by decide +kernel
theorem dX6_nearest_43 : decode cX6_nearest 43 = .ok (.iconst (-1), 1) := by decide +kernel
theorem dX6_nearest_44 : decode cX6_nearest 44 = .ok (.if_icmp .ne 8, 3) := by decide +kernel
theorem dX6_nearest_47 : decode cX6_nearest 47 = .ok (.bipush (-4), 2) := by decide +kernel
theorem dX6_nearest_49 : decode cX6_nearest 49 = .ok (.goto 4, 3) := by decide +kernel
theorem dX6_nearest_52 : decode cX6_nearest 52 = .ok (.iload_n 3, 1) := by decide +kernel
theorem dX6_nearest_53 : decode cX6_nearest 53 = .ok (.ireturn, 1) := by decide +kernel
theorem dX6_ready_0 : decode cX6_ready 0 = .ok (.iload_n 1, 1) := by decide +kernel
theorem dX6_ready_1 : decode cX6_ready 1 = .ok (.invokestatic 77, 3) := by decide +kernel
theorem dX6_ready_4 : decode cX6_ready 4 = .ok (.ifCond .eq 17, 3) := by decide +kernel
theorem dX6_ready_7 : decode cX6_ready 7 = .ok (.aload_n 0, 1) := by decide +kernel
theorem dX6_ready_8 : decode cX6_ready 8 = .ok (.getfield 10, 3) := by decide +kernel
theorem dX6_ready_11 : decode cX6_ready 11 = .ok (.getfield 125, 3) := by decide +kernel
theorem dX6_ready_14 : decode cX6_ready 14 = .ok (.iload_n 1, 1) := by decide +kernel
theorem dX6_ready_15 : decode cX6_ready 15 = .ok (.invokevirtual 196, 3) := by decide +kernel
theorem dX6_ready_18 : decode cX6_ready 18 = .ok (.goto 4, 3) := by decide +kernel
theorem dX6_ready_21 : decode cX6_ready 21 = .ok (.iconst (-1), 1) := by decide +kernel
theorem dX6_ready_22 : decode cX6_ready 22 = .ok (.ireturn, 1) := by decide +kernel
theorem dX6_lacks_0 : decode cX6_lacks 0 = .ok (.iload_n 1, 1) := by decide +kernel
theorem dX6_lacks_1 : decode cX6_lacks 1 = .ok (.invokestatic 77, 3) := by decide +kernel
theorem dX6_lacks_4 : decode cX6_lacks 4 = .ok (.ifCond .eq 14, 3) := by decide +kernel
theorem dX6_lacks_7 : decode cX6_lacks 7 = .ok (.aload_n 0, 1) := by decide +kernel
theorem dX6_lacks_8 : decode cX6_lacks 8 = .ok (.getfield 10, 3) := by decide +kernel
theorem dX6_lacks_11 : decode cX6_lacks 11 = .ok (.iload_n 1, 1) := by decide +kernel
theorem dX6_lacks_12 : decode cX6_lacks 12 = .ok (.invokevirtual 199, 3) := by decide +kernel
theorem dX6_lacks_15 : decode cX6_lacks 15 = .ok (.goto 4, 3) := by decide +kernel
theorem dX6_lacks_18 : decode cX6_lacks 18 = .ok (.iconst (-1), 1) := by decide +kernel
theorem dX6_lacks_19 : decode cX6_lacks 19 = .ok (.ireturn, 1) := by decide +kernel
theorem dX6_stripFor_0 : decode cX6_stripFor 0 = .ok (.iload_n 1, 1) := by decide +kernel
theorem dX6_stripFor_1 : decode cX6_stripFor 1 = .ok (.invokestatic 77, 3) := by decide +kernel
theorem dX6_stripFor_4 : decode cX6_stripFor 4 = .ok (.ifCond .ne 5, 3) := by decide +kernel
theorem dX6_stripFor_7 : decode cX6_stripFor 7 = .ok (.iconst (-1), 1) := by decide +kernel
theorem dX6_stripFor_8 : decode cX6_stripFor 8 = .ok (.ireturn, 1) := by decide +kernel
theorem dX6_stripFor_9 : decode cX6_stripFor 9 = .ok (.aload_n 0, 1) := by decide +kernel
theorem dX6_stripFor_10 : decode cX6_stripFor 10 = .ok (.getfield 10, 3) := by decide +kernel
theorem dX6_stripFor_13 : decode cX6_stripFor 13 = .ok (.iload_n 1, 1) := by decide +kernel
theorem dX6_stripFor_14 : decode cX6_stripFor 14 = .ok (.invokevirtual 199, 3) := by decide +kernel
theorem dX6_stripFor_17 : decode cX6_stripFor 17 = .ok (.istore_n 2, 1) := by decide +kernel
theorem dX6_stripFor_18 : decode cX6_stripFor 18 = .ok (.iload_n 2, 1) := by decide +kernel
theorem dX6_stripFor_19 : decode cX6_stripFor 19 = .ok (.ifCond .ne 5, 3) := by decide +kernel
theorem dX6_stripFor_22 : decode cX6_stripFor 22 = .ok (.iconst 0, 1) := by decide +kernel
theorem dX6_stripFor_23 : decode cX6_stripFor 23 = .ok (.ireturn, 1) := by decide +kernel
theorem dX6_stripFor_24 : decode cX6_stripFor 24 = .ok (.iload_n 2, 1) := by decide +kernel
theorem dX6_stripFor_25 : decode cX6_stripFor 25 = .ok (.aload_n 0, 1) := by decide +kernel
theorem dX6_stripFor_26 : decode cX6_stripFor 26 = .ok (.getfield 10, 3) := by decide +kernel
theorem dX6_stripFor_29 : decode cX6_stripFor 29 = .ok (.getfield 125, 3) := by decide +kernel
theorem dX6_stripFor_32 : decode cX6_stripFor 32 = .ok (.getfield 162, 3) := by decide +kernel
theorem dX6_stripFor_35 : decode cX6_stripFor 35 = .ok (.imul, 1) := by decide +kernel
theorem dX6_stripFor_36 : decode cX6_stripFor 36 = .ok (.iload_n 2, 1) := by decide +kernel
theorem dX6_stripFor_37 : decode cX6_stripFor 37 = .ok (.iconst 1, 1) := by decide +kernel
theorem dX6_stripFor_38 : decode cX6_stripFor 38 = .ok (.isub, 1) := by decide +kernel
theorem dX6_stripFor_39 : decode cX6_stripFor 39 = .ok (.aload_n 0, 1) := by decide +kernel
theorem dX6_stripFor_40 : decode cX6_stripFor 40 = .ok (.getfield 10, 3) := by decide +kernel
theorem dX6_stripFor_43 : decode cX6_stripFor 43 = .ok (.getfield 125, 3) := by decide +kernel
theorem dX6_stripFor_46 : decode cX6_stripFor 46 = .ok (.getfield 172, 3) := by decide +kernel
theorem dX6_stripFor_49 : decode cX6_stripFor 49 = .ok (.imul, 1) := by decide +kernel
theorem dX6_stripFor_50 : decode cX6_stripFor 50 = .ok (.iadd, 1) := by decide +kernel
theorem dX6_stripFor_51 : decode cX6_stripFor 51 = .ok (.istore_n 3, 1) := by decide +kernel
theorem dX6_stripFor_52 : decode cX6_stripFor 52 = .ok (.iload_n 3, 1) := by decide +kernel
theorem dX6_stripFor_53 : decode cX6_stripFor 53 = .ok (.sipush 1000, 3) := by decide +kernel
theorem dX6_stripFor_56 : decode cX6_stripFor 56 = .ok (.if_icmp .le 8, 3) := by decide +kernel
theorem dX6_stripFor_59 : decode cX6_stripFor 59 = .ok (.bipush (-4), 2) := by decide +kernel
theorem dX6_stripFor_61 : decode cX6_stripFor 61 = .ok (.goto 9, 3) := by decide +kernel
theorem dX6_stripFor_64 : decode cX6_stripFor 64 = .ok (.iload_n 3, 1) := by decide +kernel
theorem dX6_stripFor_65 : decode cX6_stripFor 65 = .ok (.bipush 20, 2) := by decide +kernel
theorem dX6_stripFor_67 : decode cX6_stripFor 67 = .ok (.invokestatic 202, 3) := by decide +kernel
theorem dX6_stripFor_70 : decode cX6_stripFor 70 = .ok (.ireturn, 1) := by decide +kernel
theorem dX6_ifLaid_0 : decode cX6_ifLaid 0 = .ok (.aload_n 0, 1) := by decide +kernel
theorem dX6_ifLaid_1 : decode cX6_ifLaid 1 = .ok (.getfield 16, 3) := by decide +kernel
theorem dX6_ifLaid_4 : decode cX6_ifLaid 4 = .ok (.aload_n 0, 1) := by decide +kernel
theorem dX6_ifLaid_5 : decode cX6_ifLaid 5 = .ok (.getfield 10, 3) := by decide +kernel
theorem dX6_ifLaid_8 : decode cX6_ifLaid 8 = .ok (.invokevirtual 207, 3) := by decide +kernel
theorem dX6_ifLaid_11 : decode cX6_ifLaid 11 = .ok (.aload_n 0, 1) := by decide +kernel
theorem dX6_ifLaid_12 : decode cX6_ifLaid 12 = .ok (.getfield 16, 3) := by decide +kernel
theorem dX6_ifLaid_15 : decode cX6_ifLaid 15 = .ok (.invokevirtual 190, 3) := by decide +kernel
theorem dX6_ifLaid_18 : decode cX6_ifLaid 18 = .ok (.pop, 1) := by decide +kernel
theorem dX6_ifLaid_19 : decode cX6_ifLaid 19 = .ok (.aload_n 0, 1) := by decide +kernel
theorem dX6_ifLaid_20 : decode cX6_ifLaid 20 = .ok (.getfield 16, 3) := by decide +kernel
theorem dX6_ifLaid_23 : decode cX6_ifLaid 23 = .ok (.invokevirtual 210, 3) := by decide +kernel
theorem dX6_ifLaid_26 : decode cX6_ifLaid 26 = .ok (.ireturn, 1) := by decide +kernel
theorem dX6_type_0 : decode cX6_type 0 = .ok (.iload_n 1, 1) := by decide +kernel
theorem dX6_type_1 : decode cX6_type 1 = .ok (.bipush 32, 2) := by decide +kernel
theorem dX6_type_3 : decode cX6_type 3 = .ok (.bipush 126, 2) := by decide +kernel
theorem dX6_type_5 : decode cX6_type 5 = .ok (.invokestatic 33, 3) := by decide +kernel
theorem dX6_type_8 : decode cX6_type 8 = .ok (.ifCond .ne 5, 3) := by decide +kernel
theorem dX6_type_11 : decode cX6_type 11 = .ok (.iconst (-1), 1) := by decide +kernel
theorem dX6_type_12 : decode cX6_type 12 = .ok (.ireturn, 1) := by decide +kernel
theorem dX6_type_13 : decode cX6_type 13 = .ok (.aload_n 0, 1) := by decide +kernel
theorem dX6_type_14 : decode cX6_type 14 = .ok (.getfield 29, 3) := by decide +kernel
theorem dX6_type_17 : decode cX6_type 17 = .ok (.getfield 213, 3) := by decide +kernel
theorem dX6_type_20 : decode cX6_type 20 = .ok (.bipush 80, 2) := by decide +kernel
theorem dX6_type_22 : decode cX6_type 22 = .ok (.if_icmp .lt 6, 3) := by decide +kernel
theorem dX6_type_25 : decode cX6_type 25 = .ok (.bipush (-3), 2) := by decide +kernel
theorem dX6_type_27 : decode cX6_type 27 = .ok (.ireturn, 1) := by decide +kernel
theorem dX6_type_28 : decode cX6_type 28 = .ok (.aload_n 0, 1) := by decide +kernel
theorem dX6_type_29 : decode cX6_type 29 = .ok (.getfield 29, 3) := by decide +kernel
theorem dX6_type_32 : decode cX6_type 32 = .ok (.iload_n 1, 1) := by decide +kernel
theorem dX6_type_33 : decode cX6_type 33 = .ok (.invokevirtual 214, 3) := by decide +kernel
theorem dX6_type_36 : decode cX6_type 36 = .ok (.aload_n 0, 1) := by decide +kernel
theorem dX6_type_37 : decode cX6_type 37 = .ok (.getfield 29, 3) := by decide +kernel
theorem dX6_type_40 : decode cX6_type 40 = .ok (.getfield 213, 3) := by decide +kernel
theorem dX6_type_43 : decode cX6_type 43 = .ok (.ireturn, 1) := by decide +kernel
theorem dX6_clearText_0 : decode cX6_clearText 0 = .ok (.aload_n 0, 1) := by decide +kernel
theorem dX6_clearText_1 : decode cX6_clearText 1 = .ok (.getfield 29, 3) := by decide +kernel
theorem dX6_clearText_4 : decode cX6_clearText 4 = .ok (.getfield 213, 3) := by decide +kernel
theorem dX6_clearText_7 : decode cX6_clearText 7 = .ok (.istore_n 1, 1) := by decide +kernel
theorem dX6_clearText_8 : decode cX6_clearText 8 = .ok (.aload_n 0, 1) := by decide +kernel
theorem dX6_clearText_9 : decode cX6_clearText 9 = .ok (.getfield 29, 3) := by decide +kernel
theorem dX6_clearText_12 : decode cX6_clearText 12 = .ok (.iconst 0, 1) := by decide +kernel
theorem dX6_clearText_13 : decode cX6_clearText 13 = .ok (.putfield 213, 3) := by decide +kernel
theorem dX6_clearText_16 : decode cX6_clearText 16 = .ok (.iload_n 1, 1) := by decide +kernel
theorem dX6_clearText_17 : decode cX6_clearText 17 = .ok (.ireturn, 1) := by decide +kernel
theorem dX6_fault_0 : decode cX6_fault 0 = .ok (.aload_n 0, 1) := by decide +kernel
theorem dX6_fault_1 : decode cX6_fault 1 = .ok (.getfield 29, 3) := by decide +kernel
theorem dX6_fault_4 : decode cX6_fault 4 = .ok (.invokevirtual 62, 3) := by decide +kernel
theorem dX6_fault_7 : decode cX6_fault 7 = .ok (.istore_n 1, 1) := by decide +kernel
theorem dX6_fault_8 : decode cX6_fault 8 = .ok (.iload_n 1, 1) := by decide +kernel
theorem dX6_fault_9 : decode cX6_fault 9 = .ok (.iconst (-1), 1) := by decide +kernel
theorem dX6_fault_10 : decode cX6_fault 10 = .ok (.if_icmp .ne 8, 3) := by decide +kernel
theorem dX6_fault_13 : decode cX6_fault 13 = .ok (.bipush (-4), 2) := by decide +kernel
theorem dX6_fault_15 : decode cX6_fault 15 = .ok (.goto 4, 3) := by decide +kernel
theorem dX6_fault_18 : decode cX6_fault 18 = .ok (.iload_n 1, 1) := by decide +kernel
theorem dX6_fault_19 : decode cX6_fault 19 = .ok (.ireturn, 1) := by decide +kernel
theorem dX6_isWithin_0 : decode cX6_isWithin 0 = .ok (.iload_n 0, 1) := by decide +kernel
theorem dX6_isWithin_1 : decode cX6_isWithin 1 = .ok (.iload_n 1, 1) := by decide +kernel
theorem dX6_isWithin_2 : decode cX6_isWithin 2 = .ok (.if_icmp .lt 12, 3) := by decide +kernel
theorem dX6_isWithin_5 : decode cX6_isWithin 5 = .ok (.iload_n 0, 1) := by decide +kernel
theorem dX6_isWithin_6 : decode cX6_isWithin 6 = .ok (.iload_n 2, 1) := by decide +kernel
theorem dX6_isWithin_7 : decode cX6_isWithin 7 = .ok (.if_icmp .gt 7, 3) := by decide +kernel
theorem dX6_isWithin_10 : decode cX6_isWithin 10 = .ok (.iconst 1, 1) := by decide +kernel
theorem dX6_isWithin_11 : decode cX6_isWithin 11 = .ok (.goto 4, 3) := by decide +kernel
theorem dX6_isWithin_14 : decode cX6_isWithin 14 = .ok (.iconst 0, 1) := by decide +kernel
theorem dX6_isWithin_15 : decode cX6_isWithin 15 = .ok (.ireturn, 1) := by decide +kernel
theorem dX6_isShade_0 : decode cX6_isShade 0 = .ok (.iload_n 0, 1) := by decide +kernel
theorem dX6_isShade_1 : decode cX6_isShade 1 = .ok (.ifCond .lt 13, 3) := by decide +kernel
theorem dX6_isShade_4 : decode cX6_isShade 4 = .ok (.iload_n 0, 1) := by decide +kernel
theorem dX6_isShade_5 : decode cX6_isShade 5 = .ok (.bipush 100, 2) := by decide +kernel
theorem dX6_isShade_7 : decode cX6_isShade 7 = .ok (.if_icmp .ge 7, 3) := by decide +kernel
theorem dX6_isShade_10 : decode cX6_isShade 10 = .ok (.iconst 1, 1) := by decide +kernel
theorem dX6_isShade_11 : decode cX6_isShade 11 = .ok (.goto 4, 3) := by decide +kernel
theorem dX6_isShade_14 : decode cX6_isShade 14 = .ok (.iconst 0, 1) := by decide +kernel
theorem dX6_isShade_15 : decode cX6_isShade 15 = .ok (.ireturn, 1) := by decide +kernel
theorem dX6_changeSize_0 : decode cX6_changeSize 0 = .ok (.iload_n 1, 1) := by decide +kernel
theorem dX6_changeSize_1 : decode cX6_changeSize 1 = .ok (.iconst 5, 1) := by decide +kernel
theorem dX6_changeSize_2 : decode cX6_changeSize 2 = .ok (.bipush 60, 2) := by decide +kernel
theorem dX6_changeSize_4 : decode cX6_changeSize 4 = .ok (.invokestatic 33, 3) := by decide +kernel
theorem dX6_changeSize_7 : decode cX6_changeSize 7 = .ok (.ifCond .ne 5, 3) := by decide +kernel
theorem dX6_changeSize_10 : decode cX6_changeSize 10 = .ok (.iconst (-1), 1) := by decide +kernel
theorem dX6_changeSize_11 : decode cX6_changeSize 11 = .ok (.ireturn, 1) := by decide +kernel
theorem dX6_changeSize_12 : decode cX6_changeSize 12 = .ok (.aload_n 0, 1) := by decide +kernel
theorem dX6_changeSize_13 : decode cX6_changeSize 13 = .ok (.getfield 10, 3) := by decide +kernel
theorem dX6_changeSize_16 : decode cX6_changeSize 16 = .ok (.invokevirtual 37, 3) := by decide +kernel
theorem dX6_changeSize_19 : decode cX6_changeSize 19 = .ok (.ifCond .le 6, 3) := by decide +kernel
theorem dX6_changeSize_22 : decode cX6_changeSize 22 = .ok (.bipush (-2), 2) := by decide +kernel
theorem dX6_changeSize_24 : decode cX6_changeSize 24 = .ok (.ireturn, 1) := by decide +kernel
theorem dX6_changeSize_25 : decode cX6_changeSize 25 = .ok (.aload_n 0, 1) := by decide +kernel
theorem dX6_changeSize_26 : decode cX6_changeSize 26 = .ok (.getfield 22, 3) := by decide +kernel
theorem dX6_changeSize_29 : decode cX6_changeSize 29 = .ok (.aload_n 0, 1) := by decide +kernel
theorem dX6_changeSize_30 : decode cX6_changeSize 30 = .ok (.getfield 10, 3) := by decide +kernel
theorem dX6_changeSize_33 : decode cX6_changeSize 33 = .ok (.invokevirtual 41, 3) := by decide +kernel
theorem dX6_changeSize_36 : decode cX6_changeSize 36 = .ok (.aload_n 0, 1) := by decide +kernel
theorem dX6_changeSize_37 : decode cX6_changeSize 37 = .ok (.getfield 10, 3) := by decide +kernel
theorem dX6_changeSize_40 : decode cX6_changeSize 40 = .ok (.getfield 125, 3) := by decide +kernel
theorem dX6_changeSize_43 : decode cX6_changeSize 43 = .ok (.getfield 162, 3) := by decide +kernel
theorem dX6_changeSize_46 : decode cX6_changeSize 46 = .ok (.istore_n 2, 1) := by decide +kernel
theorem dX6_changeSize_47 : decode cX6_changeSize 47 = .ok (.aload_n 0, 1) := by decide +kernel
theorem dX6_changeSize_48 : decode cX6_changeSize 48 = .ok (.getfield 10, 3) := by decide +kernel
theorem dX6_changeSize_51 : decode cX6_changeSize 51 = .ok (.getfield 125, 3) := by decide +kernel
theorem dX6_changeSize_54 : decode cX6_changeSize 54 = .ok (.invokevirtual 217, 3) := by decide +kernel
theorem dX6_changeSize_57 : decode cX6_changeSize 57 = .ok (.aload_n 0, 1) := by decide +kernel
theorem dX6_changeSize_58 : decode cX6_changeSize 58 = .ok (.getfield 10, 3) := by decide +kernel
theorem dX6_changeSize_61 : decode cX6_changeSize 61 = .ok (.getfield 125, 3) := by decide +kernel
theorem dX6_changeSize_64 : decode cX6_changeSize 64 = .ok (.iload_n 1, 1) := by decide +kernel
theorem dX6_changeSize_65 : decode cX6_changeSize 65 = .ok (.putfield 162, 3) := by decide +kernel
theorem dX6_changeSize_68 : decode cX6_changeSize 68 = .ok (.iload_n 2, 1) := by decide +kernel
theorem dX6_changeSize_69 : decode cX6_changeSize 69 = .ok (.ireturn, 1) := by decide +kernel
theorem dX6_changeLoss_0 : decode cX6_changeLoss 0 = .ok (.iload_n 1, 1) := by decide +kernel
theorem dX6_changeLoss_1 : decode cX6_changeLoss 1 = .ok (.iconst 0, 1) := by decide +kernel
theorem dX6_changeLoss_2 : decode cX6_changeLoss 2 = .ok (.iconst 5, 1) := by decide +kernel
theorem dX6_changeLoss_3 : decode cX6_changeLoss 3 = .ok (.invokestatic 33, 3) := by decide +kernel
theorem dX6_changeLoss_6 : decode cX6_changeLoss 6 = .ok (.ifCond .ne 5, 3) := by decide +kernel
theorem dX6_changeLoss_9 : decode cX6_changeLoss 9 = .ok (.iconst (-1), 1) := by decide +kernel
theorem dX6_changeLoss_10 : decode cX6_changeLoss 10 = .ok (.ireturn, 1) := by decide +kernel
theorem dX6_changeLoss_11 : decode cX6_changeLoss 11 = .ok (.aload_n 0, 1) := by decide +kernel
theorem dX6_changeLoss_12 : decode cX6_changeLoss 12 = .ok (.getfield 22, 3) := by decide +kernel
theorem dX6_changeLoss_15 : decode cX6_changeLoss 15 = .ok (.aload_n 0, 1) := by decide +kernel
theorem dX6_changeLoss_16 : decode cX6_changeLoss 16 = .ok (.getfield 10, 3) := by decide +kernel
theorem dX6_changeLoss_19 : decode cX6_changeLoss 19 = .ok (.invokevirtual 41, 3) := by decide +kernel
theorem dX6_changeLoss_22 : decode cX6_changeLoss 22 = .ok (.aload_n 0, 1) := by decide +kernel
theorem dX6_changeLoss_23 : decode cX6_changeLoss 23 = .ok (.getfield 10, 3) := by decide +kernel
theorem dX6_changeLoss_26 : decode cX6_changeLoss 26 = .ok (.getfield 125, 3) := by decide +kernel
theorem dX6_changeLoss_29 : decode cX6_changeLoss 29 = .ok (.getfield 172, 3) := by decide +kernel
theorem dX6_changeLoss_32 : decode cX6_changeLoss 32 = .ok (.istore_n 2, 1) := by decide +kernel
theorem dX6_changeLoss_33 : decode cX6_changeLoss 33 = .ok (.aload_n 0, 1) := by decide +kernel
theorem dX6_changeLoss_34 : decode cX6_changeLoss 34 = .ok (.getfield 10, 3) := by decide +kernel
theorem dX6_changeLoss_37 : decode cX6_changeLoss 37 = .ok (.getfield 125, 3) := by decide +kernel
theorem dX6_changeLoss_40 : decode cX6_changeLoss 40 = .ok (.iload_n 1, 1) := by decide +kernel
theorem dX6_changeLoss_41 : decode cX6_changeLoss 41 = .ok (.putfield 172, 3) := by decide +kernel
theorem dX6_changeLoss_44 : decode cX6_changeLoss 44 = .ok (.iload_n 2, 1) := by decide +kernel
theorem dX6_changeLoss_45 : decode cX6_changeLoss 45 = .ok (.ireturn, 1) := by decide +kernel
theorem dX6_countOfPlan_0 : decode cX6_countOfPlan 0 = .ok (.iload_n 1, 1) := by decide +kernel
theorem dX6_countOfPlan_1 : decode cX6_countOfPlan 1 = .ok (.tableswitch 90 0 4 #[35, 46, 57, 68, 79], 35) := by decide +kernel
theorem dX6_countOfPlan_36 : decode cX6_countOfPlan 36 = .ok (.aload_n 0, 1) := by decide +kernel
theorem dX6_countOfPlan_37 : decode cX6_countOfPlan 37 = .ok (.getfield 10, 3) := by decide +kernel
theorem dX6_countOfPlan_40 : decode cX6_countOfPlan 40 = .ok (.getfield 45, 3) := by decide +kernel
theorem dX6_countOfPlan_43 : decode cX6_countOfPlan 43 = .ok (.getfield 220, 3) := by decide +kernel
theorem dX6_countOfPlan_46 : decode cX6_countOfPlan 46 = .ok (.ireturn, 1) := by decide +kernel
theorem dX6_countOfPlan_47 : decode cX6_countOfPlan 47 = .ok (.aload_n 0, 1) := by decide +kernel
theorem dX6_countOfPlan_48 : decode cX6_countOfPlan 48 = .ok (.getfield 10, 3) := by decide +kernel
theorem dX6_countOfPlan_51 : decode cX6_countOfPlan 51 = .ok (.getfield 45, 3) := by decide +kernel
theorem dX6_countOfPlan_54 : decode cX6_countOfPlan 54 = .ok (.getfield 223, 3) := by decide +kernel
theorem dX6_countOfPlan_57 : decode cX6_countOfPlan 57 = .ok (.ireturn, 1) := by decide +kernel
theorem dX6_countOfPlan_58 : decode cX6_countOfPlan 58 = .ok (.aload_n 0, 1) := by decide +kernel
theorem dX6_countOfPlan_59 : decode cX6_countOfPlan 59 = .ok (.getfield 10, 3) := by decide +kernel
theorem dX6_countOfPlan_62 : decode cX6_countOfPlan 62 = .ok (.getfield 45, 3) := by decide +kernel
theorem dX6_countOfPlan_65 : decode cX6_countOfPlan 65 = .ok (.invokevirtual 226, 3) := by decide +kernel
theorem dX6_countOfPlan_68 : decode cX6_countOfPlan 68 = .ok (.ireturn, 1) := by decide +kernel
theorem dX6_countOfPlan_69 : decode cX6_countOfPlan 69 = .ok (.aload_n 0, 1) := by decide +kernel
theorem dX6_countOfPlan_70 : decode cX6_countOfPlan 70 = .ok (.getfield 10, 3) := by decide +kernel
theorem dX6_countOfPlan_73 : decode cX6_countOfPlan 73 = .ok (.getfield 45, 3) := by decide +kernel
theorem dX6_countOfPlan_76 : decode cX6_countOfPlan 76 = .ok (.getfield 113, 3) := by decide +kernel
theorem dX6_countOfPlan_79 : decode cX6_countOfPlan 79 = .ok (.ireturn, 1) := by decide +kernel
theorem dX6_countOfPlan_80 : decode cX6_countOfPlan 80 = .ok (.aload_n 0, 1) := by decide +kernel
theorem dX6_countOfPlan_81 : decode cX6_countOfPlan 81 = .ok (.getfield 10, 3) := by decide +kernel
theorem dX6_countOfPlan_84 : decode cX6_countOfPlan 84 = .ok (.getfield 45, 3) := by decide +kernel
theorem dX6_countOfPlan_87 : decode cX6_countOfPlan 87 = .ok (.getfield 69, 3) := by decide +kernel
theorem dX6_countOfPlan_90 : decode cX6_countOfPlan 90 = .ok (.ireturn, 1) := by decide +kernel
theorem dX6_countOfPlan_91 : decode cX6_countOfPlan 91 = .ok (.aload_n 0, 1) := by decide +kernel
theorem dX6_countOfPlan_92 : decode cX6_countOfPlan 92 = .ok (.getfield 10, 3) := by decide +kernel
theorem dX6_countOfPlan_95 : decode cX6_countOfPlan 95 = .ok (.getfield 45, 3) := by decide +kernel
theorem dX6_countOfPlan_98 : decode cX6_countOfPlan 98 = .ok (.invokevirtual 229, 3) := by decide +kernel
theorem dX6_countOfPlan_101 : decode cX6_countOfPlan 101 = .ok (.ifCond .eq 7, 3) := by decide +kernel
theorem dX6_countOfPlan_104 : decode cX6_countOfPlan 104 = .ok (.iconst 1, 1) := by decide +kernel
theorem dX6_countOfPlan_105 : decode cX6_countOfPlan 105 = .ok (.goto 4, 3) := by decide +kernel
theorem dX6_countOfPlan_108 : decode cX6_countOfPlan 108 = .ok (.iconst 0, 1) := by decide +kernel
theorem dX6_countOfPlan_109 : decode cX6_countOfPlan 109 = .ok (.ireturn, 1) := by decide +kernel
theorem dX6_countOfWork_0 : decode cX6_countOfWork 0 = .ok (.iload_n 1, 1) := by decide +kernel
theorem dX6_countOfWork_1 : decode cX6_countOfWork 1 = .ok (.tableswitch 162 6 15 #[55, 63, 71, 94, 105, 116, 127, 135, 143, 151], 55) := by decide +kernel
theorem dX6_countOfWork_56 : decode cX6_countOfWork 56 = .ok (.aload_n 0, 1) := by decide +kernel
theorem dX6_countOfWork_57 : decode cX6_countOfWork 57 = .ok (.getfield 10, 3) := by decide +kernel
theorem dX6_countOfWork_60 : decode cX6_countOfWork 60 = .ok (.invokevirtual 37, 3) := by decide +kernel
theorem dX6_countOfWork_63 : decode cX6_countOfWork 63 = .ok (.ireturn, 1) := by decide +kernel
theorem dX6_countOfWork_64 : decode cX6_countOfWork 64 = .ok (.aload_n 0, 1) := by decide +kernel
theorem dX6_countOfWork_65 : decode cX6_countOfWork 65 = .ok (.getfield 10, 3) := by decide +kernel
theorem dX6_countOfWork_68 : decode cX6_countOfWork 68 = .ok (.invokevirtual 210, 3) := by decide +kernel
theorem dX6_countOfWork_71 : decode cX6_countOfWork 71 = .ok (.ireturn, 1) := by decide +kernel
theorem dX6_countOfWork_72 : decode cX6_countOfWork 72 = .ok (.aload_n 0, 1) := by decide +kernel
theorem dX6_countOfWork_73 : decode cX6_countOfWork 73 = .ok (.getfield 10, 3) := by decide +kernel
theorem dX6_countOfWork_76 : decode cX6_countOfWork 76 = .ok (.invokevirtual 37, 3) := by decide +kernel
theorem dX6_countOfWork_79 : decode cX6_countOfWork 79 = .ok (.ifCond .le 13, 3) := by decide +kernel
theorem dX6_countOfWork_82 : decode cX6_countOfWork 82 = .ok (.aload_n 0, 1) := by decide +kernel
theorem dX6_countOfWork_83 : decode cX6_countOfWork 83 = .ok (.getfield 10, 3) := by decide +kernel
theorem dX6_countOfWork_86 : decode cX6_countOfWork 86 = .ok (.invokevirtual 233, 3) := by decide +kernel
theorem dX6_countOfWork_89 : decode cX6_countOfWork 89 = .ok (.goto 5, 3) := by decide +kernel
theorem dX6_countOfWork_92 : decode cX6_countOfWork 92 = .ok (.bipush (-4), 2) := by decide +kernel
theorem dX6_countOfWork_94 : decode cX6_countOfWork 94 = .ok (.ireturn, 1) := by decide +kernel
theorem dX6_countOfWork_95 : decode cX6_countOfWork 95 = .ok (.aload_n 0, 1) := by decide +kernel
theorem dX6_countOfWork_96 : decode cX6_countOfWork 96 = .ok (.getfield 10, 3) := by decide +kernel
theorem dX6_countOfWork_99 : decode cX6_countOfWork 99 = .ok (.getfield 125, 3) := by decide +kernel
theorem dX6_countOfWork_102 : decode cX6_countOfWork 102 = .ok (.getfield 129, 3) := by decide +kernel
theorem dX6_countOfWork_105 : decode cX6_countOfWork 105 = .ok (.ireturn, 1) := by decide +kernel
theorem dX6_countOfWork_106 : decode cX6_countOfWork 106 = .ok (.aload_n 0, 1) := by decide +kernel
theorem dX6_countOfWork_107 : decode cX6_countOfWork 107 = .ok (.getfield 10, 3) := by decide +kernel
theorem dX6_countOfWork_110 : decode cX6_countOfWork 110 = .ok (.getfield 125, 3) := by decide +kernel
theorem dX6_countOfWork_113 : decode cX6_countOfWork 113 = .ok (.invokevirtual 236, 3) := by decide +kernel
theorem dX6_countOfWork_116 : decode cX6_countOfWork 116 = .ok (.ireturn, 1) := by decide +kernel
theorem dX6_countOfWork_117 : decode cX6_countOfWork 117 = .ok (.aload_n 0, 1) := by decide +kernel
theorem dX6_countOfWork_118 : decode cX6_countOfWork 118 = .ok (.getfield 10, 3) := by decide +kernel
theorem dX6_countOfWork_121 : decode cX6_countOfWork 121 = .ok (.getfield 125, 3) := by decide +kernel
theorem dX6_countOfWork_124 : decode cX6_countOfWork 124 = .ok (.getfield 239, 3) := by decide +kernel
theorem dX6_countOfWork_127 : decode cX6_countOfWork 127 = .ok (.ireturn, 1) := by decide +kernel
theorem dX6_countOfWork_128 : decode cX6_countOfWork 128 = .ok (.aload_n 0, 1) := by decide +kernel
theorem dX6_countOfWork_129 : decode cX6_countOfWork 129 = .ok (.getfield 10, 3) := by decide +kernel
theorem dX6_countOfWork_132 : decode cX6_countOfWork 132 = .ok (.getfield 242, 3) := by decide +kernel
theorem dX6_countOfWork_135 : decode cX6_countOfWork 135 = .ok (.ireturn, 1) := by decide +kernel
theorem dX6_countOfWork_136 : decode cX6_countOfWork 136 = .ok (.aload_n 0, 1) := by decide +kernel
theorem dX6_countOfWork_137 : decode cX6_countOfWork 137 = .ok (.getfield 22, 3) := by decide +kernel
theorem dX6_countOfWork_140 : decode cX6_countOfWork 140 = .ok (.invokevirtual 119, 3) := by decide +kernel
theorem dX6_countOfWork_143 : decode cX6_countOfWork 143 = .ok (.ireturn, 1) := by decide +kernel
theorem dX6_countOfWork_144 : decode cX6_countOfWork 144 = .ok (.aload_n 0, 1) := by decide +kernel
theorem dX6_countOfWork_145 : decode cX6_countOfWork 145 = .ok (.getfield 29, 3) := by decide +kernel
theorem dX6_countOfWork_148 : decode cX6_countOfWork 148 = .ok (.getfield 213, 3) := by decide +kernel
theorem dX6_countOfWork_151 : decode cX6_countOfWork 151 = .ok (.ireturn, 1) := by decide +kernel
theorem dX6_countOfWork_152 : decode cX6_countOfWork 152 = .ok (.aload_n 0, 1) := by decide +kernel
theorem dX6_countOfWork_153 : decode cX6_countOfWork 153 = .ok (.getfield 10, 3) := by decide +kernel
theorem dX6_countOfWork_156 : decode cX6_countOfWork 156 = .ok (.getfield 125, 3) := by decide +kernel
theorem dX6_countOfWork_159 : decode cX6_countOfWork 159 = .ok (.getfield 162, 3) := by decide +kernel
theorem dX6_countOfWork_162 : decode cX6_countOfWork 162 = .ok (.ireturn, 1) := by decide +kernel
theorem dX6_countOfWork_163 : decode cX6_countOfWork 163 = .ok (.aload_n 0, 1) := by decide +kernel
theorem dX6_countOfWork_164 : decode cX6_countOfWork 164 = .ok (.getfield 10, 3) := by decide +kernel
theorem dX6_countOfWork_167 : decode cX6_countOfWork 167 = .ok (.getfield 125, 3) := by decide +kernel
theorem dX6_countOfWork_170 : decode cX6_countOfWork 170 = .ok (.getfield 172, 3) := by decide +kernel
theorem dX6_countOfWork_173 : decode cX6_countOfWork 173 = .ok (.ireturn, 1) := by decide +kernel
theorem dX6_account_0 : decode cX6_account 0 = .ok (.iload_n 1, 1) := by decide +kernel
theorem dX6_account_1 : decode cX6_account 1 = .ok (.tableswitch 124 0 5 #[39, 50, 61, 83, 102, 113], 39) := by decide +kernel
theorem dX6_account_40 : decode cX6_account 40 = .ok (.aload_n 0, 1) := by decide +kernel
theorem dX6_account_41 : decode cX6_account 41 = .ok (.getfield 10, 3) := by decide +kernel
theorem dX6_account_44 : decode cX6_account 44 = .ok (.getfield 125, 3) := by decide +kernel
theorem dX6_account_47 : decode cX6_account 47 = .ok (.invokevirtual 245, 3) := by decide +kernel
theorem dX6_account_50 : decode cX6_account 50 = .ok (.ireturn, 1) := by decide +kernel
theorem dX6_account_51 : decode cX6_account 51 = .ok (.aload_n 0, 1) := by decide +kernel
theorem dX6_account_52 : decode cX6_account 52 = .ok (.getfield 10, 3) := by decide +kernel
theorem dX6_account_55 : decode cX6_account 55 = .ok (.getfield 125, 3) := by decide +kernel
theorem dX6_account_58 : decode cX6_account 58 = .ok (.invokevirtual 248, 3) := by decide +kernel
theorem dX6_account_61 : decode cX6_account 61 = .ok (.ireturn, 1) := by decide +kernel
theorem dX6_account_62 : decode cX6_account 62 = .ok (.aload_n 0, 1) := by decide +kernel
theorem dX6_account_63 : decode cX6_account 63 = .ok (.getfield 10, 3) := by decide +kernel
theorem dX6_account_66 : decode cX6_account 66 = .ok (.getfield 125, 3) := by decide +kernel
theorem dX6_account_69 : decode cX6_account 69 = .ok (.invokevirtual 236, 3) := by decide +kernel
theorem dX6_account_72 : decode cX6_account 72 = .ok (.aload_n 0, 1) := by decide +kernel
theorem dX6_account_73 : decode cX6_account 73 = .ok (.getfield 10, 3) := by decide +kernel
theorem dX6_account_76 : decode cX6_account 76 = .ok (.getfield 125, 3) := by decide +kernel
theorem dX6_account_79 : decode cX6_account 79 = .ok (.getfield 162, 3) := by decide +kernel
theorem dX6_account_82 : decode cX6_account 82 = .ok (.imul, 1) := by decide +kernel
theorem dX6_account_83 : decode cX6_account 83 = .ok (.ireturn, 1) := by decide +kernel
theorem dX6_account_84 : decode cX6_account 84 = .ok (.aload_n 0, 1) := by decide +kernel
theorem dX6_account_85 : decode cX6_account 85 = .ok (.getfield 10, 3) := by decide +kernel
theorem dX6_account_88 : decode cX6_account 88 = .ok (.invokevirtual 37, 3) := by decide +kernel
theorem dX6_account_91 : decode cX6_account 91 = .ok (.aload_n 0, 1) := by decide +kernel
theorem dX6_account_92 : decode cX6_account 92 = .ok (.getfield 10, 3) := by decide +kernel
theorem dX6_account_95 : decode cX6_account 95 = .ok (.getfield 125, 3) := by decide +kernel
theorem dX6_account_98 : decode cX6_account 98 = .ok (.getfield 162, 3) := by decide +kernel
theorem dX6_account_101 : decode cX6_account 101 = .ok (.imul, 1) := by decide +kernel
theorem dX6_account_102 : decode cX6_account 102 = .ok (.ireturn, 1) := by decide +kernel
theorem dX6_account_103 : decode cX6_account 103 = .ok (.aload_n 0, 1) := by decide +kernel
theorem dX6_account_104 : decode cX6_account 104 = .ok (.getfield 10, 3) := by decide +kernel
theorem dX6_account_107 : decode cX6_account 107 = .ok (.getfield 125, 3) := by decide +kernel
theorem dX6_account_110 : decode cX6_account 110 = .ok (.getfield 251, 3) := by decide +kernel
theorem dX6_account_113 : decode cX6_account 113 = .ok (.ireturn, 1) := by decide +kernel
theorem dX6_account_114 : decode cX6_account 114 = .ok (.aload_n 0, 1) := by decide +kernel
theorem dX6_account_115 : decode cX6_account 115 = .ok (.getfield 10, 3) := by decide +kernel
theorem dX6_account_118 : decode cX6_account 118 = .ok (.getfield 125, 3) := by decide +kernel
theorem dX6_account_121 : decode cX6_account 121 = .ok (.getfield 254, 3) := by decide +kernel
theorem dX6_account_124 : decode cX6_account 124 = .ok (.ireturn, 1) := by decide +kernel
theorem dX6_account_125 : decode cX6_account 125 = .ok (.aload_n 0, 1) := by decide +kernel
theorem dX6_account_126 : decode cX6_account 126 = .ok (.getfield 10, 3) := by decide +kernel
theorem dX6_account_129 : decode cX6_account 129 = .ok (.getfield 125, 3) := by decide +kernel
theorem dX6_account_132 : decode cX6_account 132 = .ok (.getfield 257, 3) := by decide +kernel
theorem dX6_account_135 : decode cX6_account 135 = .ok (.ireturn, 1) := by decide +kernel
theorem dJ9_abs_0f7a4_0 : decode cJ9_abs_0f7a4 0 = .ok (.iload_n 0, 1) := by decide +kernel
theorem dJ9_abs_0f7a4_1 : decode cJ9_abs_0f7a4 1 = .ok (.ifCond .ge 8, 3) := by decide +kernel
theorem dJ9_abs_0f7a4_4 : decode cJ9_abs_0f7a4 4 = .ok (.iload_n 0, 1) := by decide +kernel
theorem dJ9_abs_0f7a4_5 : decode cJ9_abs_0f7a4 5 = .ok (.ineg, 1) := by decide +kernel
theorem dJ9_abs_0f7a4_6 : decode cJ9_abs_0f7a4 6 = .ok (.goto 4, 3) := by decide +kernel
theorem dJ9_abs_0f7a4_9 : decode cJ9_abs_0f7a4 9 = .ok (.iload_n 0, 1) := by decide +kernel
theorem dJ9_abs_0f7a4_10 : decode cJ9_abs_0f7a4 10 = .ok (.ireturn, 1) := by decide +kernel
theorem dJ9_max_7cf53_0 : decode cJ9_max_7cf53 0 = .ok (.iload_n 0, 1) := by decide +kernel
theorem dJ9_max_7cf53_1 : decode cJ9_max_7cf53 1 = .ok (.iload_n 1, 1) := by decide +kernel
theorem dJ9_max_7cf53_2 : decode cJ9_max_7cf53 2 = .ok (.if_icmp .lt 7, 3) := by decide +kernel
theorem dJ9_max_7cf53_5 : decode cJ9_max_7cf53 5 = .ok (.iload_n 0, 1) := by decide +kernel
theorem dJ9_max_7cf53_6 : decode cJ9_max_7cf53 6 = .ok (.goto 4, 3) := by decide +kernel
theorem dJ9_max_7cf53_9 : decode cJ9_max_7cf53 9 = .ok (.iload_n 1, 1) := by decide +kernel
theorem dJ9_max_7cf53_10 : decode cJ9_max_7cf53 10 = .ok (.ireturn, 1) := by decide +kernel
theorem dJ9_min_7cf53_0 : decode cJ9_min_7cf53 0 = .ok (.iload_n 0, 1) := by decide +kernel
theorem dJ9_min_7cf53_1 : decode cJ9_min_7cf53 1 = .ok (.iload_n 1, 1) := by decide +kernel
theorem dJ9_min_7cf53_2 : decode cJ9_min_7cf53 2 = .ok (.if_icmp .gt 7, 3) := by decide +kernel
theorem dJ9_min_7cf53_5 : decode cJ9_min_7cf53 5 = .ok (.iload_n 0, 1) := by decide +kernel
theorem dJ9_min_7cf53_6 : decode cJ9_min_7cf53 6 = .ok (.goto 4, 3) := by decide +kernel
theorem dJ9_min_7cf53_9 : decode cJ9_min_7cf53 9 = .ok (.iload_n 1, 1) := by decide +kernel
theorem dJ9_min_7cf53_10 : decode cJ9_min_7cf53 10 = .ok (.ireturn, 1) := by decide +kernel
theorem dJ7_fill_53178_0 : decode cJ7_fill_53178 0 = .ok (.iconst 0, 1) := by decide +kernel
theorem dJ7_fill_53178_1 : decode cJ7_fill_53178 1 = .ok (.istore_n 2, 1) := by decide +kernel
theorem dJ7_fill_53178_2 : decode cJ7_fill_53178 2 = .ok (.aload_n 0, 1) := by decide +kernel
theorem dJ7_fill_53178_3 : decode cJ7_fill_53178 3 = .ok (.arraylength, 1) := by decide +kernel
theorem dJ7_fill_53178_4 : decode cJ7_fill_53178 4 = .ok (.istore_n 3, 1) := by decide +kernel
theorem dJ7_fill_53178_5 : decode cJ7_fill_53178 5 = .ok (.iload_n 2, 1) := by decide +kernel
theorem dJ7_fill_53178_6 : decode cJ7_fill_53178 6 = .ok (.iload_n 3, 1) := by decide +kernel
theorem dJ7_fill_53178_7 : decode cJ7_fill_53178 7 = .ok (.if_icmp .ge 13, 3) := by decide +kernel
theorem dJ7_fill_53178_10 : decode cJ7_fill_53178 10 = .ok (.aload_n 0, 1) := by decide +kernel
theorem dJ7_fill_53178_11 : decode cJ7_fill_53178 11 = .ok (.iload_n 2, 1) := by decide +kernel
theorem dJ7_fill_53178_12 : decode cJ7_fill_53178 12 = .ok (.iload_n 1, 1) := by decide +kernel
theorem dJ7_fill_53178_13 : decode cJ7_fill_53178 13 = .ok (.iastore, 1) := by decide +kernel
theorem dJ7_fill_53178_14 : decode cJ7_fill_53178 14 = .ok (.iinc 2 1, 3) := by decide +kernel
theorem dJ7_fill_53178_17 : decode cJ7_fill_53178 17 = .ok (.goto (-12), 3) := by decide +kernel
theorem dJ7_fill_53178_20 : decode cJ7_fill_53178 20 = .ok (.return_, 1) := by decide +kernel
