theorem dX0_init_0 : decode cX0_init 0 = .ok (.aload_n 0, 1) := by decide +kernel
theorem dX0_init_1 : decode cX0_init 1 = .ok (.invokespecial 3, 3) := by decide +kernel
theorem dX0_init_4 : decode cX0_init 4 = .ok (.aload_n 0, 1) := by decide +kernel
theorem dX0_init_5 : decode cX0_init 5 = .ok (.iconst 5, 1) := by decide +kernel
theorem dX0_init_6 : decode cX0_init 6 = .ok (.newarray .int, 2) := by decide +kernel
theorem dX0_init_8 : decode cX0_init 8 = .ok (.putfield 9, 3) := by decide +kernel
theorem dX0_init_11 : decode cX0_init 11 = .ok (.aload_n 0, 1) := by decide +kernel
theorem dX0_init_12 : decode cX0_init 12 = .ok (.iconst 5, 1) := by decide +kernel
theorem dX0_init_13 : decode cX0_init 13 = .ok (.newarray .int, 2) := by decide +kernel
theorem dX0_init_15 : decode cX0_init 15 = .ok (.putfield 15, 3) := by decide +kernel
theorem dX0_init_18 : decode cX0_init 18 = .ok (.aload_n 0, 1) := by decide +kernel
theorem dX0_init_19 : decode cX0_init 19 = .ok (.iconst 5, 1) := by decide +kernel
theorem dX0_init_20 : decode cX0_init 20 = .ok (.newarray .int, 2) := by decide +kernel
theorem dX0_init_22 : decode cX0_init 22 = .ok (.putfield 18, 3) := by decide +kernel
theorem dX0_init_25 : decode cX0_init 25 = .ok (.aload_n 0, 1) := by decide +kernel
theorem dX0_init_26 : decode cX0_init 26 = .ok (.iconst 4, 1) := by decide +kernel
theorem dX0_init_27 : decode cX0_init 27 = .ok (.newarray .int, 2) := by decide +kernel
theorem dX0_init_29 : decode cX0_init 29 = .ok (.putfield 21, 3) := by decide +kernel
theorem dX0_init_32 : decode cX0_init 32 = .ok (.aload_n 0, 1) := by decide +kernel
theorem dX0_init_33 : decode cX0_init 33 = .ok (.iconst 4, 1) := by decide +kernel
theorem dX0_init_34 : decode cX0_init 34 = .ok (.newarray .int, 2) := by decide +kernel
theorem dX0_init_36 : decode cX0_init 36 = .ok (.putfield 24, 3) := by decide +kernel
theorem dX0_init_39 : decode cX0_init 39 = .ok (.aload_n 0, 1) := by decide +kernel
theorem dX0_init_40 : decode cX0_init 40 = .ok (.bipush 16, 2) := by decide +kernel
theorem dX0_init_42 : decode cX0_init 42 = .ok (.newarray .int, 2) := by decide +kernel
theorem dX0_init_44 : decode cX0_init 44 = .ok (.putfield 27, 3) := by decide +kernel
theorem dX0_init_47 : decode cX0_init 47 = .ok (.aload_n 0, 1) := by decide +kernel
theorem dX0_init_48 : decode cX0_init 48 = .ok (.bipush 16, 2) := by decide +kernel
theorem dX0_init_50 : decode cX0_init 50 = .ok (.newarray .int, 2) := by decide +kernel
theorem dX0_init_52 : decode cX0_init 52 = .ok (.putfield 30, 3) := by decide +kernel
theorem dX0_init_55 : decode cX0_init 55 = .ok (.return_, 1) := by decide +kernel
theorem dX0_begin_0 : decode cX0_begin 0 = .ok (.aload_n 0, 1) := by decide +kernel
theorem dX0_begin_1 : decode cX0_begin 1 = .ok (.getfield 9, 3) := by decide +kernel
theorem dX0_begin_4 : decode cX0_begin 4 = .ok (.bipush 100, 2) := by decide +kernel
theorem dX0_begin_6 : decode cX0_begin 6 = .ok (.invokestatic 33, 3) := by decide +kernel
theorem dX0_begin_9 : decode cX0_begin 9 = .ok (.aload_n 0, 1) := by decide +kernel
theorem dX0_begin_10 : decode cX0_begin 10 = .ok (.getfield 9, 3) := by decide +kernel
theorem dX0_begin_13 : decode cX0_begin 13 = .ok (.iconst 4, 1) := by decide +kernel
theorem dX0_begin_14 : decode cX0_begin 14 = .ok (.sipush (-400), 3) := by decide +kernel
theorem dX0_begin_17 : decode cX0_begin 17 = .ok (.invokestatic 37, 3) := by decide +kernel
theorem dX0_begin_20 : decode cX0_begin 20 = .ok (.aload_n 0, 1) := by decide +kernel
theorem dX0_begin_21 : decode cX0_begin 21 = .ok (.getfield 15, 3) := by decide +kernel
theorem dX0_begin_24 : decode cX0_begin 24 = .ok (.iconst 1, 1) := by decide +kernel
theorem dX0_begin_25 : decode cX0_begin 25 = .ok (.invokestatic 33, 3) := by decide +kernel
theorem dX0_begin_28 : decode cX0_begin 28 = .ok (.aload_n 0, 1) := by decide +kernel
theorem dX0_begin_29 : decode cX0_begin 29 = .ok (.getfield 18, 3) := by decide +kernel
theorem dX0_begin_32 : decode cX0_begin 32 = .ok (.iconst 0, 1) := by decide +kernel
theorem dX0_begin_33 : decode cX0_begin 33 = .ok (.invokestatic 33, 3) := by decide +kernel
theorem dX0_begin_36 : decode cX0_begin 36 = .ok (.aload_n 0, 1) := by decide +kernel
theorem dX0_begin_37 : decode cX0_begin 37 = .ok (.getfield 21, 3) := by decide +kernel
theorem dX0_begin_40 : decode cX0_begin 40 = .ok (.iconst 0, 1) := by decide +kernel
theorem dX0_begin_41 : decode cX0_begin 41 = .ok (.invokestatic 33, 3) := by decide +kernel
theorem dX0_begin_44 : decode cX0_begin 44 = .ok (.aload_n 0, 1) := by decide +kernel
theorem dX0_begin_45 : decode cX0_begin 45 = .ok (.getfield 24, 3) := by decide +kernel
theorem dX0_begin_48 : decode cX0_begin 48 = .ok (.iconst 0, 1) := by decide +kernel
theorem dX0_begin_49 : decode cX0_begin 49 = .ok (.invokestatic 33, 3) := by decide +kernel
theorem dX0_begin_52 : decode cX0_begin 52 = .ok (.return_, 1) := by decide +kernel
theorem dX0_transfer_0 : decode cX0_transfer 0 = .ok (.aload_n 0, 1) := by decide +kernel
theorem dX0_transfer_1 : decode cX0_transfer 1 = .ok (.getfield 9, 3) := by decide +kernel
theorem dX0_transfer_4 : decode cX0_transfer 4 = .ok (.iload_n 1, 1) := by decide +kernel
theorem dX0_transfer_5 : decode cX0_transfer 5 = .ok (.aload_n 0, 1) := by decide +kernel
theorem dX0_transfer_6 : decode cX0_transfer 6 = .ok (.getfield 9, 3) := by decide +kernel
theorem dX0_transfer_9 : decode cX0_transfer 9 = .ok (.iload_n 1, 1) := by decide +kernel
theorem dX0_transfer_10 : decode cX0_transfer 10 = .ok (.invokestatic 41, 3) := by decide +kernel
theorem dX0_transfer_13 : decode cX0_transfer 13 = .ok (.iload_n 3, 1) := by decide +kernel
theorem dX0_transfer_14 : decode cX0_transfer 14 = .ok (.isub, 1) := by decide +kernel
theorem dX0_transfer_15 : decode cX0_transfer 15 = .ok (.invokestatic 37, 3) := by decide +kernel
theorem dX0_transfer_18 : decode cX0_transfer 18 = .ok (.aload_n 0, 1) := by decide +kernel
theorem dX0_transfer_19 : decode cX0_transfer 19 = .ok (.getfield 9, 3) := by decide +kernel
theorem dX0_transfer_22 : decode cX0_transfer 22 = .ok (.iload_n 2, 1) := by decide +kernel
theorem dX0_transfer_23 : decode cX0_transfer 23 = .ok (.aload_n 0, 1) := by decide +kernel
theorem dX0_transfer_24 : decode cX0_transfer 24 = .ok (.getfield 9, 3) := by decide +kernel
theorem dX0_transfer_27 : decode cX0_transfer 27 = .ok (.iload_n 2, 1) := by decide +kernel
theorem dX0_transfer_28 : decode cX0_transfer 28 = .ok (.invokestatic 41, 3) := by decide +kernel
theorem dX0_transfer_31 : decode cX0_transfer 31 = .ok (.iload_n 3, 1) := by decide +kernel
theorem dX0_transfer_32 : decode cX0_transfer 32 = .ok (.iadd, 1) := by decide +kernel
theorem dX0_transfer_33 : decode cX0_transfer 33 = .ok (.invokestatic 37, 3) := by decide +kernel
theorem dX0_transfer_36 : decode cX0_transfer 36 = .ok (.return_, 1) := by decide +kernel
theorem dX0_payRent_0 : decode cX0_payRent 0 = .ok (.aload_n 0, 1) := by decide +kernel
theorem dX0_payRent_1 : decode cX0_payRent 1 = .ok (.iload_n 1, 1) := by decide +kernel
theorem dX0_payRent_2 : decode cX0_payRent 2 = .ok (.iload_n 2, 1) := by decide +kernel
theorem dX0_payRent_3 : decode cX0_payRent 3 = .ok (.iload_n 3, 1) := by decide +kernel
theorem dX0_payRent_4 : decode cX0_payRent 4 = .ok (.invokevirtual 45, 3) := by decide +kernel
theorem dX0_payRent_7 : decode cX0_payRent 7 = .ok (.aload_n 0, 1) := by decide +kernel
theorem dX0_payRent_8 : decode cX0_payRent 8 = .ok (.getfield 18, 3) := by decide +kernel
theorem dX0_payRent_11 : decode cX0_payRent 11 = .ok (.iload_n 2, 1) := by decide +kernel
theorem dX0_payRent_12 : decode cX0_payRent 12 = .ok (.aload_n 0, 1) := by decide +kernel
theorem dX0_payRent_13 : decode cX0_payRent 13 = .ok (.getfield 18, 3) := by decide +kernel
theorem dX0_payRent_16 : decode cX0_payRent 16 = .ok (.iload_n 2, 1) := by decide +kernel
theorem dX0_payRent_17 : decode cX0_payRent 17 = .ok (.invokestatic 41, 3) := by decide +kernel
theorem dX0_payRent_20 : decode cX0_payRent 20 = .ok (.iload_n 3, 1) := by decide +kernel
theorem dX0_payRent_21 : decode cX0_payRent 21 = .ok (.iadd, 1) := by decide +kernel
theorem dX0_payRent_22 : decode cX0_payRent 22 = .ok (.invokestatic 37, 3) := by decide +kernel
theorem dX0_payRent_25 : decode cX0_payRent 25 = .ok (.return_, 1) := by decide +kernel
theorem dX0_changeRent_0 : decode cX0_changeRent 0 = .ok (.aload_n 0, 1) := by decide +kernel
theorem dX0_changeRent_1 : decode cX0_changeRent 1 = .ok (.getfield 15, 3) := by decide +kernel
theorem dX0_changeRent_4 : decode cX0_changeRent 4 = .ok (.iload_n 1, 1) := by decide +kernel
theorem dX0_changeRent_5 : decode cX0_changeRent 5 = .ok (.iload_n 2, 1) := by decide +kernel
theorem dX0_changeRent_6 : decode cX0_changeRent 6 = .ok (.invokestatic 37, 3) := by decide +kernel
theorem dX0_changeRent_9 : decode cX0_changeRent 9 = .ok (.return_, 1) := by decide +kernel
theorem dX0_rentFor_0 : decode cX0_rentFor 0 = .ok (.iload_n 1, 1) := by decide +kernel
theorem dX0_rentFor_1 : decode cX0_rentFor 1 = .ok (.iload_n 2, 1) := by decide +kernel
theorem dX0_rentFor_2 : decode cX0_rentFor 2 = .ok (.if_icmp .ne 7, 3) := by decide +kernel
theorem dX0_rentFor_5 : decode cX0_rentFor 5 = .ok (.iconst 0, 1) := by decide +kernel
theorem dX0_rentFor_6 : decode cX0_rentFor 6 = .ok (.goto 11, 3) := by decide +kernel
theorem dX0_rentFor_9 : decode cX0_rentFor 9 = .ok (.aload_n 0, 1) := by decide +kernel
theorem dX0_rentFor_10 : decode cX0_rentFor 10 = .ok (.getfield 15, 3) := by decide +kernel
theorem dX0_rentFor_13 : decode cX0_rentFor 13 = .ok (.iload_n 2, 1) := by decide +kernel
theorem dX0_rentFor_14 : decode cX0_rentFor 14 = .ok (.invokestatic 41, 3) := by decide +kernel
theorem dX0_rentFor_17 : decode cX0_rentFor 17 = .ok (.ireturn, 1) := by decide +kernel
theorem dX0_hasTrain_0 : decode cX0_hasTrain 0 = .ok (.iload_n 2, 1) := by decide +kernel
theorem dX0_hasTrain_1 : decode cX0_hasTrain 1 = .ok (.ifCond .lt 19, 3) := by decide +kernel
theorem dX0_hasTrain_4 : decode cX0_hasTrain 4 = .ok (.iload_n 2, 1) := by decide +kernel
theorem dX0_hasTrain_5 : decode cX0_hasTrain 5 = .ok (.aload_n 0, 1) := by decide +kernel
theorem dX0_hasTrain_6 : decode cX0_hasTrain 6 = .ok (.getfield 24, 3) := by decide +kernel
theorem dX0_hasTrain_9 : decode cX0_hasTrain 9 = .ok (.iload_n 1, 1) := by decide +kernel
theorem dX0_hasTrain_10 : decode cX0_hasTrain 10 = .ok (.invokestatic 41, 3) := by decide +kernel
theorem dX0_hasTrain_13 : decode cX0_hasTrain 13 = .ok (.if_icmp .ge 7, 3) := by decide +kernel
theorem dX0_hasTrain_16 : decode cX0_hasTrain 16 = .ok (.iconst 1, 1) := by decide +kernel
theorem dX0_hasTrain_17 : decode cX0_hasTrain 17 = .ok (.goto 4, 3) := by decide +kernel
theorem dX0_hasTrain_20 : decode cX0_hasTrain 20 = .ok (.iconst 0, 1) := by decide +kernel
theorem dX0_hasTrain_21 : decode cX0_hasTrain 21 = .ok (.ireturn, 1) := by decide +kernel
theorem dX0_hasRun_0 : decode cX0_hasRun 0 = .ok (.aload_n 0, 1) := by decide +kernel
theorem dX0_hasRun_1 : decode cX0_hasRun 1 = .ok (.iload_n 1, 1) := by decide +kernel
theorem dX0_hasRun_2 : decode cX0_hasRun 2 = .ok (.iload_n 2, 1) := by decide +kernel
theorem dX0_hasRun_3 : decode cX0_hasRun 3 = .ok (.invokevirtual 49, 3) := by decide +kernel
theorem dX0_hasRun_6 : decode cX0_hasRun 6 = .ok (.ifCond .eq 23, 3) := by decide +kernel
theorem dX0_hasRun_9 : decode cX0_hasRun 9 = .ok (.aload_n 0, 1) := by decide +kernel
theorem dX0_hasRun_10 : decode cX0_hasRun 10 = .ok (.getfield 30, 3) := by decide +kernel
theorem dX0_hasRun_13 : decode cX0_hasRun 13 = .ok (.iload_n 1, 1) := by decide +kernel
theorem dX0_hasRun_14 : decode cX0_hasRun 14 = .ok (.iload_n 2, 1) := by decide +kernel
theorem dX0_hasRun_15 : decode cX0_hasRun 15 = .ok (.invokestatic 53, 3) := by decide +kernel
theorem dX0_hasRun_18 : decode cX0_hasRun 18 = .ok (.invokestatic 41, 3) := by decide +kernel
theorem dX0_hasRun_21 : decode cX0_hasRun 21 = .ok (.iconst 1, 1) := by decide +kernel
theorem dX0_hasRun_22 : decode cX0_hasRun 22 = .ok (.if_icmp .ne 7, 3) := by decide +kernel
theorem dX0_hasRun_25 : decode cX0_hasRun 25 = .ok (.iconst 1, 1) := by decide +kernel
theorem dX0_hasRun_26 : decode cX0_hasRun 26 = .ok (.goto 4, 3) := by decide +kernel
theorem dX0_hasRun_29 : decode cX0_hasRun 29 = .ok (.iconst 0, 1) := by decide +kernel
theorem dX0_hasRun_30 : decode cX0_hasRun 30 = .ok (.ireturn, 1) := by decide +kernel
theorem dX0_markRun_0 : decode cX0_markRun 0 = .ok (.aload_n 0, 1) := by decide +kernel
theorem dX0_markRun_1 : decode cX0_markRun 1 = .ok (.iload_n 1, 1) := by decide +kernel
theorem dX0_markRun_2 : decode cX0_markRun 2 = .ok (.iload_n 2, 1) := by decide +kernel
theorem dX0_markRun_3 : decode cX0_markRun 3 = .ok (.invokevirtual 49, 3) := by decide +kernel
theorem dX0_markRun_6 : decode cX0_markRun 6 = .ok (.ifCond .eq 16, 3) := by decide +kernel
theorem dX0_markRun_9 : decode cX0_markRun 9 = .ok (.aload_n 0, 1) := by decide +kernel
theorem dX0_markRun_10 : decode cX0_markRun 10 = .ok (.getfield 30, 3) := by decide +kernel
theorem dX0_markRun_13 : decode cX0_markRun 13 = .ok (.iload_n 1, 1) := by decide +kernel
theorem dX0_markRun_14 : decode cX0_markRun 14 = .ok (.iload_n 2, 1) := by decide +kernel
theorem dX0_markRun_15 : decode cX0_markRun 15 = .ok (.invokestatic 53, 3) := by decide +kernel
theorem dX0_markRun_18 : decode cX0_markRun 18 = .ok (.iconst 1, 1) := by decide +kernel
theorem dX0_markRun_19 : decode cX0_markRun 19 = .ok (.invokestatic 37, 3) := by decide +kernel
theorem dX0_markRun_22 : decode cX0_markRun 22 = .ok (.return_, 1) := by decide +kernel
theorem dX0_levelOf_0 : decode cX0_levelOf 0 = .ok (.aload_n 0, 1) := by decide +kernel
theorem dX0_levelOf_1 : decode cX0_levelOf 1 = .ok (.iload_n 1, 1) := by decide +kernel
theorem dX0_levelOf_2 : decode cX0_levelOf 2 = .ok (.iload_n 2, 1) := by decide +kernel
theorem dX0_levelOf_3 : decode cX0_levelOf 3 = .ok (.invokevirtual 49, 3) := by decide +kernel
theorem dX0_levelOf_6 : decode cX0_levelOf 6 = .ok (.ifCond .eq 18, 3) := by decide +kernel
theorem dX0_levelOf_9 : decode cX0_levelOf 9 = .ok (.aload_n 0, 1) := by decide +kernel
theorem dX0_levelOf_10 : decode cX0_levelOf 10 = .ok (.getfield 27, 3) := by decide +kernel
theorem dX0_levelOf_13 : decode cX0_levelOf 13 = .ok (.iload_n 1, 1) := by decide +kernel
theorem dX0_levelOf_14 : decode cX0_levelOf 14 = .ok (.iload_n 2, 1) := by decide +kernel
theorem dX0_levelOf_15 : decode cX0_levelOf 15 = .ok (.invokestatic 53, 3) := by decide +kernel
theorem dX0_levelOf_18 : decode cX0_levelOf 18 = .ok (.invokestatic 41, 3) := by decide +kernel
theorem dX0_levelOf_21 : decode cX0_levelOf 21 = .ok (.goto 4, 3) := by decide +kernel
theorem dX0_levelOf_24 : decode cX0_levelOf 24 = .ok (.iconst 0, 1) := by decide +kernel
theorem dX0_levelOf_25 : decode cX0_levelOf 25 = .ok (.ireturn, 1) := by decide +kernel
theorem dX0_levelsOf_0 : decode cX0_levelsOf 0 = .ok (.iconst 0, 1) := by decide +kernel
theorem dX0_levelsOf_1 : decode cX0_levelsOf 1 = .ok (.istore_n 2, 1) := by decide +kernel
theorem dX0_levelsOf_2 : decode cX0_levelsOf 2 = .ok (.iconst 0, 1) := by decide +kernel
theorem dX0_levelsOf_3 : decode cX0_levelsOf 3 = .ok (.istore_n 3, 1) := by decide +kernel
theorem dX0_levelsOf_4 : decode cX0_levelsOf 4 = .ok (.iload_n 3, 1) := by decide +kernel
theorem dX0_levelsOf_5 : decode cX0_levelsOf 5 = .ok (.aload_n 0, 1) := by decide +kernel
theorem dX0_levelsOf_6 : decode cX0_levelsOf 6 = .ok (.getfield 24, 3) := by decide +kernel
theorem dX0_levelsOf_9 : decode cX0_levelsOf 9 = .ok (.iload_n 1, 1) := by decide +kernel
theorem dX0_levelsOf_10 : decode cX0_levelsOf 10 = .ok (.invokestatic 41, 3) := by decide +kernel
theorem dX0_levelsOf_13 : decode cX0_levelsOf 13 = .ok (.if_icmp .ge 24, 3) := by decide +kernel
theorem dX0_levelsOf_16 : decode cX0_levelsOf 16 = .ok (.iload_n 2, 1) := by decide +kernel
theorem dX0_levelsOf_17 : decode cX0_levelsOf 17 = .ok (.aload_n 0, 1) := by decide +kernel
theorem dX0_levelsOf_18 : decode cX0_levelsOf 18 = .ok (.getfield 27, 3) := by decide +kernel
theorem dX0_levelsOf_21 : decode cX0_levelsOf 21 = .ok (.iload_n 1, 1) := by decide +kernel
theorem dX0_levelsOf_22 : decode cX0_levelsOf 22 = .ok (.iload_n 3, 1) := by decide +kernel
theorem dX0_levelsOf_23 : decode cX0_levelsOf 23 = .ok (.invokestatic 53, 3) := by decide +kernel
theorem dX0_levelsOf_26 : decode cX0_levelsOf 26 = .ok (.invokestatic 41, 3) := by decide +kernel
theorem dX0_levelsOf_29 : decode cX0_levelsOf 29 = .ok (.iadd, 1) := by decide +kernel
theorem dX0_levelsOf_30 : decode cX0_levelsOf 30 = .ok (.istore_n 2, 1) := by decide +kernel
theorem dX0_levelsOf_31 : decode cX0_levelsOf 31 = .ok (.iinc 3 1, 3) := by decide +kernel
theorem dX0_levelsOf_34 : decode cX0_levelsOf 34 = .ok (.goto (-30), 3) := by decide +kernel
theorem dX0_levelsOf_37 : decode cX0_levelsOf 37 = .ok (.iload_n 2, 1) := by decide +kernel
theorem dX0_levelsOf_38 : decode cX0_levelsOf 38 = .ok (.ireturn, 1) := by decide +kernel
theorem dX0_greatestLevel_0 : decode cX0_greatestLevel 0 = .ok (.iconst 0, 1) := by decide +kernel
theorem dX0_greatestLevel_1 : decode cX0_greatestLevel 1 = .ok (.istore_n 2, 1) := by decide +kernel
theorem dX0_greatestLevel_2 : decode cX0_greatestLevel 2 = .ok (.iconst 0, 1) := by decide +kernel
theorem dX0_greatestLevel_3 : decode cX0_greatestLevel 3 = .ok (.istore_n 3, 1) := by decide +kernel
theorem dX0_greatestLevel_4 : decode cX0_greatestLevel 4 = .ok (.iload_n 3, 1) := by decide +kernel
theorem dX0_greatestLevel_5 : decode cX0_greatestLevel 5 = .ok (.aload_n 0, 1) := by decide +kernel
theorem dX0_greatestLevel_6 : decode cX0_greatestLevel 6 = .ok (.getfield 24, 3) := by decide +kernel
theorem dX0_greatestLevel_9 : decode cX0_greatestLevel 9 = .ok (.iload_n 1, 1) := by decide +kernel
theorem dX0_greatestLevel_10 : decode cX0_greatestLevel 10 = .ok (.invokestatic 41, 3) := by decide +kernel
theorem dX0_greatestLevel_13 : decode cX0_greatestLevel 13 = .ok (.if_icmp .ge 26, 3) := by decide +kernel
theorem dX0_greatestLevel_16 : decode cX0_greatestLevel 16 = .ok (.iload_n 2, 1) := by decide +kernel
theorem dX0_greatestLevel_17 : decode cX0_greatestLevel 17 = .ok (.aload_n 0, 1) := by decide +kernel
theorem dX0_greatestLevel_18 : decode cX0_greatestLevel 18 = .ok (.getfield 27, 3) := by decide +kernel
theorem dX0_greatestLevel_21 : decode cX0_greatestLevel 21 = .ok (.iload_n 1, 1) := by decide +kernel
theorem dX0_greatestLevel_22 : decode cX0_greatestLevel 22 = .ok (.iload_n 3, 1) := by decide +kernel
theorem dX0_greatestLevel_23 : decode cX0_greatestLevel 23 = .ok (.invokestatic 53, 3) := by decide +kernel
theorem dX0_greatestLevel_26 : decode cX0_greatestLevel 26 = .ok (.invokestatic 41, 3) := by decide +kernel
theorem dX0_greatestLevel_29 : decode cX0_greatestLevel 29 = .ok (.invokestatic 57, 3) := by decide +kernel
theorem dX0_greatestLevel_32 : decode cX0_greatestLevel 32 = .ok (.istore_n 2, 1) := by decide +kernel
theorem dX0_greatestLevel_33 : decode cX0_greatestLevel 33 = .ok (.iinc 3 1, 3) := by decide +kernel
theorem dX0_greatestLevel_36 : decode cX0_greatestLevel 36 = .ok (.goto (-32), 3) := by decide +kernel
theorem dX0_greatestLevel_39 : decode cX0_greatestLevel 39 = .ok (.iload_n 2, 1) := by decide +kernel
theorem dX0_greatestLevel_40 : decode cX0_greatestLevel 40 = .ok (.ireturn, 1) := by decide +kernel
theorem dX0_addTrain_0 : decode cX0_addTrain 0 = .ok (.aload_n 0, 1) := by decide +kernel
theorem dX0_addTrain_1 : decode cX0_addTrain 1 = .ok (.getfield 24, 3) := by decide +kernel
theorem dX0_addTrain_4 : decode cX0_addTrain 4 = .ok (.iload_n 1, 1) := by decide +kernel
theorem dX0_addTrain_5 : decode cX0_addTrain 5 = .ok (.invokestatic 41, 3) := by decide +kernel
theorem dX0_addTrain_8 : decode cX0_addTrain 8 = .ok (.istore_n 3, 1) := by decide +kernel
theorem dX0_addTrain_9 : decode cX0_addTrain 9 = .ok (.iload_n 3, 1) := by decide +kernel
theorem dX0_addTrain_10 : decode cX0_addTrain 10 = .ok (.iconst 4, 1) := by decide +kernel
theorem dX0_addTrain_11 : decode cX0_addTrain 11 = .ok (.if_icmp .ge 40, 3) := by decide +kernel
theorem dX0_addTrain_14 : decode cX0_addTrain 14 = .ok (.aload_n 0, 1) := by decide +kernel
theorem dX0_addTrain_15 : decode cX0_addTrain 15 = .ok (.getfield 27, 3) := by decide +kernel
theorem dX0_addTrain_18 : decode cX0_addTrain 18 = .ok (.iload_n 1, 1) := by decide +kernel
theorem dX0_addTrain_19 : decode cX0_addTrain 19 = .ok (.iload_n 3, 1) := by decide +kernel
theorem dX0_addTrain_20 : decode cX0_addTrain 20 = .ok (.invokestatic 53, 3) := by decide +kernel
theorem dX0_addTrain_23 : decode cX0_addTrain 23 = .ok (.iload_n 2, 1) := by decide +kernel
theorem dX0_addTrain_24 : decode cX0_addTrain 24 = .ok (.invokestatic 37, 3) := by decide +kernel
theorem dX0_addTrain_27 : decode cX0_addTrain 27 = .ok (.aload_n 0, 1) := by decide +kernel
theorem dX0_addTrain_28 : decode cX0_addTrain 28 = .ok (.getfield 30, 3) := by decide +kernel
theorem dX0_addTrain_31 : decode cX0_addTrain 31 = .ok (.iload_n 1, 1) := by decide +kernel
theorem dX0_addTrain_32 : decode cX0_addTrain 32 = .ok (.iload_n 3, 1) := by decide +kernel
theorem dX0_addTrain_33 : decode cX0_addTrain 33 = .ok (.invokestatic 53, 3) := by decide +kernel
theorem dX0_addTrain_36 : decode cX0_addTrain 36 = .ok (.iconst 0, 1) := by decide +kernel
theorem dX0_addTrain_37 : decode cX0_addTrain 37 = .ok (.invokestatic 37, 3) := by decide +kernel
theorem dX0_addTrain_40 : decode cX0_addTrain 40 = .ok (.aload_n 0, 1) := by decide +kernel
theorem dX0_addTrain_41 : decode cX0_addTrain 41 = .ok (.getfield 24, 3) := by decide +kernel
theorem dX0_addTrain_44 : decode cX0_addTrain 44 = .ok (.iload_n 1, 1) := by decide +kernel
theorem dX0_addTrain_45 : decode cX0_addTrain 45 = .ok (.iload_n 3, 1) := by decide +kernel
theorem dX0_addTrain_46 : decode cX0_addTrain 46 = .ok (.iconst 1, 1) := by decide +kernel
theorem dX0_addTrain_47 : decode cX0_addTrain 47 = .ok (.iadd, 1) := by decide +kernel
theorem dX0_addTrain_48 : decode cX0_addTrain 48 = .ok (.invokestatic 37, 3) := by decide +kernel
theorem dX0_addTrain_51 : decode cX0_addTrain 51 = .ok (.return_, 1) := by decide +kernel
theorem dX0_dropBelow_0 : decode cX0_dropBelow 0 = .ok (.iconst 0, 1) := by decide +kernel
theorem dX0_dropBelow_1 : decode cX0_dropBelow 1 = .ok (.istore_n 2, 1) := by decide +kernel
theorem dX0_dropBelow_2 : decode cX0_dropBelow 2 = .ok (.iconst 0, 1) := by decide +kernel
theorem dX0_dropBelow_3 : decode cX0_dropBelow 3 = .ok (.istore_n 3, 1) := by decide +kernel
theorem dX0_dropBelow_4 : decode cX0_dropBelow 4 = .ok (.iload_n 3, 1) := by decide +kernel
theorem dX0_dropBelow_5 : decode cX0_dropBelow 5 = .ok (.iconst 4, 1) := by decide +kernel
theorem dX0_dropBelow_6 : decode cX0_dropBelow 6 = .ok (.if_icmp .ge 130, 3) := by decide +kernel
theorem dX0_dropBelow_9 : decode cX0_dropBelow 9 = .ok (.iconst 0, 1) := by decide +kernel
theorem dX0_dropBelow_10 : decode cX0_dropBelow 10 = .ok (.istore 4, 2) := by decide +kernel
theorem dX0_dropBelow_12 : decode cX0_dropBelow 12 = .ok (.iconst 0, 1) := by decide +kernel
theorem dX0_dropBelow_13 : decode cX0_dropBelow 13 = .ok (.istore 5, 2) := by decide +kernel
theorem dX0_dropBelow_15 : decode cX0_dropBelow 15 = .ok (.iload 5, 2) := by decide +kernel
theorem dX0_dropBelow_17 : decode cX0_dropBelow 17 = .ok (.aload_n 0, 1) := by decide +kernel
theorem dX0_dropBelow_18 : decode cX0_dropBelow 18 = .ok (.getfield 24, 3) := by decide +kernel
theorem dX0_dropBelow_21 : decode cX0_dropBelow 21 = .ok (.iload_n 3, 1) := by decide +kernel
theorem dX0_dropBelow_22 : decode cX0_dropBelow 22 = .ok (.invokestatic 41, 3) := by decide +kernel
theorem dX0_dropBelow_25 : decode cX0_dropBelow 25 = .ok (.if_icmp .ge 81, 3) := by decide +kernel
theorem dX0_dropBelow_28 : decode cX0_dropBelow 28 = .ok (.aload_n 0, 1) := by decide +kernel
theorem dX0_dropBelow_29 : decode cX0_dropBelow 29 = .ok (.getfield 27, 3) := by decide +kernel
theorem dX0_dropBelow_32 : decode cX0_dropBelow 32 = .ok (.iload_n 3, 1) := by decide +kernel
theorem dX0_dropBelow_33 : decode cX0_dropBelow 33 = .ok (.iload 5, 2) := by decide +kernel
theorem dX0_dropBelow_35 : decode cX0_dropBelow 35 = .ok (.invokestatic 53, 3) := by decide +kernel
theorem dX0_dropBelow_38 : decode cX0_dropBelow 38 = .ok (.invokestatic 41, 3) := by decide +kernel
theorem dX0_dropBelow_41 : decode cX0_dropBelow 41 = .ok (.iload_n 1, 1) := by decide +kernel
theorem dX0_dropBelow_42 : decode cX0_dropBelow 42 = .ok (.if_icmp .lt 58, 3) := by decide +kernel
theorem dX0_dropBelow_45 : decode cX0_dropBelow 45 = .ok (.aload_n 0, 1) := by decide +kernel
theorem dX0_dropBelow_46 : decode cX0_dropBelow 46 = .ok (.getfield 27, 3) := by decide +kernel
theorem dX0_dropBelow_49 : decode cX0_dropBelow 49 = .ok (.iload_n 3, 1) := by decide +kernel
theorem dX0_dropBelow_50 : decode cX0_dropBelow 50 = .ok (.iload 4, 2) := by decide +kernel
theorem dX0_dropBelow_52 : decode cX0_dropBelow 52 = .ok (.invokestatic 53, 3) := by decide +kernel
theorem dX0_dropBelow_55 : decode cX0_dropBelow 55 = .ok (.aload_n 0, 1) := by decide +kernel
theorem dX0_dropBelow_56 : decode cX0_dropBelow 56 = .ok (.getfield 27, 3) := by decide +kernel
theorem dX0_dropBelow_59 : decode cX0_dropBelow 59 = .ok (.iload_n 3, 1) := by decide +kernel
theorem dX0_dropBelow_60 : decode cX0_dropBelow 60 = .ok (.iload 5, 2) := by decide +kernel
theorem dX0_dropBelow_62 : decode cX0_dropBelow 62 = .ok (.invokestatic 53, 3) := by decide +kernel
theorem dX0_dropBelow_65 : decode cX0_dropBelow 65 = .ok (.invokestatic 41, 3) := by decide +kernel
theorem dX0_dropBelow_68 : decode cX0_dropBelow 68 = .ok (.invokestatic 37, 3) := by decide +kernel
theorem dX0_dropBelow_71 : decode cX0_dropBelow 71 = .ok (.aload_n 0, 1) := by decide +kernel
theorem dX0_dropBelow_72 : decode cX0_dropBelow 72 = .ok (.getfield 30, 3) := by decide +kernel
theorem dX0_dropBelow_75 : decode cX0_dropBelow 75 = .ok (.iload_n 3, 1) := by decide +kernel
theorem dX0_dropBelow_76 : decode cX0_dropBelow 76 = .ok (.iload 4, 2) := by decide +kernel
theorem dX0_dropBelow_78 : decode cX0_dropBelow 78 = .ok (.invokestatic 53, 3) := by decide +kernel
theorem dX0_dropBelow_81 : decode cX0_dropBelow 81 = .ok (.aload_n 0, 1) := by decide +kernel
theorem dX0_dropBelow_82 : decode cX0_dropBelow 82 = .ok (.getfield 30, 3) := by decide +kernel
theorem dX0_dropBelow_85 : decode cX0_dropBelow 85 = .ok (.iload_n 3, 1) := by decide +kernel
theorem dX0_dropBelow_86 : decode cX0_dropBelow 86 = .ok (.iload 5, 2) := by decide +kernel
theorem dX0_dropBelow_88 : decode cX0_dropBelow 88 = .ok (.invokestatic 53, 3) := by decide +kernel
theorem dX0_dropBelow_91 : decode cX0_dropBelow 91 = .ok (.invokestatic 41, 3) := by decide +kernel
theorem dX0_dropBelow_94 : decode cX0_dropBelow 94 = .ok (.invokestatic 37, 3) := by decide +kernel
theorem dX0_dropBelow_97 : decode cX0_dropBelow 97 = .ok (.iinc 4 1, 3) := by decide +kernel
theorem dX0_dropBelow_100 : decode cX0_dropBelow 100 = .ok (.iinc 5 1, 3) := by decide +kernel
theorem dX0_dropBelow_103 : decode cX0_dropBelow 103 = .ok (.goto (-88), 3) := by decide +kernel
theorem dX0_dropBelow_106 : decode cX0_dropBelow 106 = .ok (.iload_n 2, 1) := by decide +kernel
theorem dX0_dropBelow_107 : decode cX0_dropBelow 107 = .ok (.aload_n 0, 1) := by decide +kernel
theorem dX0_dropBelow_108 : decode cX0_dropBelow 108 = .ok (.getfield 24, 3) := by decide +kernel
theorem dX0_dropBelow_111 : decode cX0_dropBelow 111 = .ok (.iload_n 3, 1) := by decide +kernel
theorem dX0_dropBelow_112 : decode cX0_dropBelow 112 = .ok (.invokestatic 41, 3) := by decide +kernel
theorem dX0_dropBelow_115 : decode cX0_dropBelow 115 = .ok (.iload 4, 2) := by decide +kernel
theorem dX0_dropBelow_117 : decode cX0_dropBelow 117 = .ok (.isub, 1) := by decide +kernel
theorem dX0_dropBelow_118 : decode cX0_dropBelow 118 = .ok (.iadd, 1) := by decide +kernel
theorem dX0_dropBelow_119 : decode cX0_dropBelow 119 = .ok (.istore_n 2, 1) := by decide +kernel
theorem dX0_dropBelow_120 : decode cX0_dropBelow 120 = .ok (.aload_n 0, 1) := by decide +kernel
theorem dX0_dropBelow_121 : decode cX0_dropBelow 121 = .ok (.getfield 24, 3) := by decide +kernel
theorem dX0_dropBelow_124 : decode cX0_dropBelow 124 = .ok (.iload_n 3, 1) := by decide +kernel
theorem dX0_dropBelow_125 : decode cX0_dropBelow 125 = .ok (.iload 4, 2) := by decide +kernel
theorem dX0_dropBelow_127 : decode cX0_dropBelow 127 = .ok (.invokestatic 37, 3) := by decide +kernel
theorem dX0_dropBelow_130 : decode cX0_dropBelow 130 = .ok (.iinc 3 1, 3) := by decide +kernel
theorem dX0_dropBelow_133 : decode cX0_dropBelow 133 = .ok (.goto (-129), 3) := by decide +kernel
theorem dX0_dropBelow_136 : decode cX0_dropBelow 136 = .ok (.iload_n 2, 1) := by decide +kernel
theorem dX0_dropBelow_137 : decode cX0_dropBelow 137 = .ok (.ireturn, 1) := by decide +kernel
theorem dX0_goBankrupt_0 : decode cX0_goBankrupt 0 = .ok (.aload_n 0, 1) := by decide +kernel
theorem dX0_goBankrupt_1 : decode cX0_goBankrupt 1 = .ok (.iconst 4, 1) := by decide +kernel
theorem dX0_goBankrupt_2 : decode cX0_goBankrupt 2 = .ok (.iload_n 1, 1) := by decide +kernel
theorem dX0_goBankrupt_3 : decode cX0_goBankrupt 3 = .ok (.aload_n 0, 1) := by decide +kernel
theorem dX0_goBankrupt_4 : decode cX0_goBankrupt 4 = .ok (.getfield 9, 3) := by decide +kernel
theorem dX0_goBankrupt_7 : decode cX0_goBankrupt 7 = .ok (.iload_n 1, 1) := by decide +kernel
theorem dX0_goBankrupt_8 : decode cX0_goBankrupt 8 = .ok (.invokestatic 41, 3) := by decide +kernel
theorem dX0_goBankrupt_11 : decode cX0_goBankrupt 11 = .ok (.ineg, 1) := by decide +kernel
theorem dX0_goBankrupt_12 : decode cX0_goBankrupt 12 = .ok (.invokevirtual 45, 3) := by decide +kernel
theorem dX0_goBankrupt_15 : decode cX0_goBankrupt 15 = .ok (.aload_n 0, 1) := by decide +kernel
theorem dX0_goBankrupt_16 : decode cX0_goBankrupt 16 = .ok (.getfield 24, 3) := by decide +kernel
theorem dX0_goBankrupt_19 : decode cX0_goBankrupt 19 = .ok (.iload_n 1, 1) := by decide +kernel
theorem dX0_goBankrupt_20 : decode cX0_goBankrupt 20 = .ok (.iconst 0, 1) := by decide +kernel
theorem dX0_goBankrupt_21 : decode cX0_goBankrupt 21 = .ok (.invokestatic 37, 3) := by decide +kernel
theorem dX0_goBankrupt_24 : decode cX0_goBankrupt 24 = .ok (.aload_n 0, 1) := by decide +kernel
theorem dX0_goBankrupt_25 : decode cX0_goBankrupt 25 = .ok (.getfield 21, 3) := by decide +kernel
theorem dX0_goBankrupt_28 : decode cX0_goBankrupt 28 = .ok (.iload_n 1, 1) := by decide +kernel
theorem dX0_goBankrupt_29 : decode cX0_goBankrupt 29 = .ok (.aload_n 0, 1) := by decide +kernel
theorem dX0_goBankrupt_30 : decode cX0_goBankrupt 30 = .ok (.getfield 21, 3) := by decide +kernel
theorem dX0_goBankrupt_33 : decode cX0_goBankrupt 33 = .ok (.iload_n 1, 1) := by decide +kernel
theorem dX0_goBankrupt_34 : decode cX0_goBankrupt 34 = .ok (.invokestatic 41, 3) := by decide +kernel
theorem dX0_goBankrupt_37 : decode cX0_goBankrupt 37 = .ok (.iconst 1, 1) := by decide +kernel
theorem dX0_goBankrupt_38 : decode cX0_goBankrupt 38 = .ok (.iadd, 1) := by decide +kernel
theorem dX0_goBankrupt_39 : decode cX0_goBankrupt 39 = .ok (.invokestatic 37, 3) := by decide +kernel
theorem dX0_goBankrupt_42 : decode cX0_goBankrupt 42 = .ok (.return_, 1) := by decide +kernel
theorem dX0_place_0 : decode cX0_place 0 = .ok (.iload_n 0, 1) := by decide +kernel
theorem dX0_place_1 : decode cX0_place 1 = .ok (.iconst 4, 1) := by decide +kernel
theorem dX0_place_2 : decode cX0_place 2 = .ok (.imul, 1) := by decide +kernel
theorem dX0_place_3 : decode cX0_place 3 = .ok (.iload_n 1, 1) := by decide +kernel
theorem dX0_place_4 : decode cX0_place 4 = .ok (.iadd, 1) := by decide +kernel
theorem dX0_place_5 : decode cX0_place 5 = .ok (.ireturn, 1) := by decide +kernel
theorem dX0_copyFrom_0 : decode cX0_copyFrom 0 = .ok (.aload_n 1, 1) := by decide +kernel
theorem dX0_copyFrom_1 : decode cX0_copyFrom 1 = .ok (.getfield 9, 3) := by decide +kernel
theorem dX0_copyFrom_4 : decode cX0_copyFrom 4 = .ok (.aload_n 0, 1) := by decide +kernel
theorem dX0_copyFrom_5 : decode cX0_copyFrom 5 = .ok (.getfield 9, 3) := by decide +kernel
theorem dX0_copyFrom_8 : decode cX0_copyFrom 8 = .ok (.invokestatic 62, 3) := by decide +kernel
theorem dX0_copyFrom_11 : decode cX0_copyFrom 11 = .ok (.aload_n 1, 1) := by decide +kernel
theorem dX0_copyFrom_12 : decode cX0_copyFrom 12 = .ok (.getfield 15, 3) := by decide +kernel
theorem dX0_copyFrom_15 : decode cX0_copyFrom 15 = .ok (.aload_n 0, 1) := by decide +kernel
theorem dX0_copyFrom_16 : decode cX0_copyFrom 16 = .ok (.getfield 15, 3) := by decide +kernel
theorem dX0_copyFrom_19 : decode cX0_copyFrom 19 = .ok (.invokestatic 62, 3) := by decide +kernel
theorem dX0_copyFrom_22 : decode cX0_copyFrom 22 = .ok (.aload_n 1, 1) := by decide +kernel
theorem dX0_copyFrom_23 : decode cX0_copyFrom 23 = .ok (.getfield 18, 3) := by decide +kernel
theorem dX0_copyFrom_26 : decode cX0_copyFrom 26 = .ok (.aload_n 0, 1) := by decide +kernel
theorem dX0_copyFrom_27 : decode cX0_copyFrom 27 = .ok (.getfield 18, 3) := by decide +kernel
theorem dX0_copyFrom_30 : decode cX0_copyFrom 30 = .ok (.invokestatic 62, 3) := by decide +kernel
theorem dX0_copyFrom_33 : decode cX0_copyFrom 33 = .ok (.aload_n 1, 1) := by decide +kernel
theorem dX0_copyFrom_34 : decode cX0_copyFrom 34 = .ok (.getfield 21, 3) := by decide +kernel
theorem dX0_copyFrom_37 : decode cX0_copyFrom 37 = .ok (.aload_n 0, 1) := by decide +kernel
theorem dX0_copyFrom_38 : decode cX0_copyFrom 38 = .ok (.getfield 21, 3) := by decide +kernel
theorem dX0_copyFrom_41 : decode cX0_copyFrom 41 = .ok (.invokestatic 62, 3) := by decide +kernel
theorem dX0_copyFrom_44 : decode cX0_copyFrom 44 = .ok (.aload_n 1, 1) := by decide +kernel
theorem dX0_copyFrom_45 : decode cX0_copyFrom 45 = .ok (.getfield 24, 3) := by decide +kernel
theorem dX0_copyFrom_48 : decode cX0_copyFrom 48 = .ok (.aload_n 0, 1) := by decide +kernel
theorem dX0_copyFrom_49 : decode cX0_copyFrom 49 = .ok (.getfield 24, 3) := by decide +kernel
theorem dX0_copyFrom_52 : decode cX0_copyFrom 52 = .ok (.invokestatic 62, 3) := by decide +kernel
theorem dX0_copyFrom_55 : decode cX0_copyFrom 55 = .ok (.aload_n 1, 1) := by decide +kernel
theorem dX0_copyFrom_56 : decode cX0_copyFrom 56 = .ok (.getfield 27, 3) := by decide +kernel
theorem dX0_copyFrom_59 : decode cX0_copyFrom 59 = .ok (.aload_n 0, 1) := by decide +kernel
theorem dX0_copyFrom_60 : decode cX0_copyFrom 60 = .ok (.getfield 27, 3) := by decide +kernel
theorem dX0_copyFrom_63 : decode cX0_copyFrom 63 = .ok (.invokestatic 62, 3) := by decide +kernel
theorem dX0_copyFrom_66 : decode cX0_copyFrom 66 = .ok (.aload_n 1, 1) := by decide +kernel
theorem dX0_copyFrom_67 : decode cX0_copyFrom 67 = .ok (.getfield 30, 3) := by decide +kernel
theorem dX0_copyFrom_70 : decode cX0_copyFrom 70 = .ok (.aload_n 0, 1) := by decide +kernel
theorem dX0_copyFrom_71 : decode cX0_copyFrom 71 = .ok (.getfield 30, 3) := by decide +kernel
theorem dX0_copyFrom_74 : decode cX0_copyFrom 74 = .ok (.invokestatic 62, 3) := by decide +kernel
theorem dX0_copyFrom_77 : decode cX0_copyFrom 77 = .ok (.return_, 1) := by decide +kernel
theorem dX1_init_0 : decode cX1_init 0 = .ok (.aload_n 0, 1) := by decide +kernel
theorem dX1_init_1 : decode cX1_init 1 = .ok (.invokespecial 3, 3) := by decide +kernel
theorem dX1_init_4 : decode cX1_init 4 = .ok (.aload_n 0, 1) := by decide +kernel
theorem dX1_init_5 : decode cX1_init 5 = .ok (.bipush 8, 2) := by decide +kernel
theorem dX1_init_7 : decode cX1_init 7 = .ok (.newarray .int, 2) := by decide +kernel
theorem dX1_init_9 : decode cX1_init 9 = .ok (.putfield 9, 3) := by decide +kernel
theorem dX1_init_12 : decode cX1_init 12 = .ok (.aload_n 0, 1) := by decide +kernel
theorem dX1_init_13 : decode cX1_init 13 = .ok (.bipush 8, 2) := by decide +kernel
theorem dX1_init_15 : decode cX1_init 15 = .ok (.newarray .int, 2) := by decide +kernel
theorem dX1_init_17 : decode cX1_init 17 = .ok (.putfield 15, 3) := by decide +kernel
theorem dX1_init_20 : decode cX1_init 20 = .ok (.aload_n 0, 1) := by decide +kernel
theorem dX1_init_21 : decode cX1_init 21 = .ok (.bipush 8, 2) := by decide +kernel
theorem dX1_init_23 : decode cX1_init 23 = .ok (.newarray .int, 2) := by decide +kernel
theorem dX1_init_25 : decode cX1_init 25 = .ok (.putfield 18, 3) := by decide +kernel
theorem dX1_init_28 : decode cX1_init 28 = .ok (.aload_n 0, 1) := by decide +kernel
theorem dX1_init_29 : decode cX1_init 29 = .ok (.bipush 8, 2) := by decide +kernel
theorem dX1_init_31 : decode cX1_init 31 = .ok (.newarray .int, 2) := by decide +kernel
theorem dX1_init_33 : decode cX1_init 33 = .ok (.putfield 21, 3) := by decide +kernel
theorem dX1_init_36 : decode cX1_init 36 = .ok (.aload_n 0, 1) := by decide +kernel
theorem dX1_init_37 : decode cX1_init 37 = .ok (.bipush 8, 2) := by decide +kernel
theorem dX1_init_39 : decode cX1_init 39 = .ok (.newarray .int, 2) := by decide +kernel
theorem dX1_init_41 : decode cX1_init 41 = .ok (.putfield 24, 3) := by decide +kernel
theorem dX1_init_44 : decode cX1_init 44 = .ok (.aload_n 0, 1) := by decide +kernel
theorem dX1_init_45 : decode cX1_init 45 = .ok (.bipush 8, 2) := by decide +kernel
theorem dX1_init_47 : decode cX1_init 47 = .ok (.newarray .int, 2) := by decide +kernel
theorem dX1_init_49 : decode cX1_init 49 = .ok (.putfield 27, 3) := by decide +kernel
theorem dX1_init_52 : decode cX1_init 52 = .ok (.return_, 1) := by decide +kernel
theorem dX1_has_0 : decode cX1_has 0 = .ok (.iload_n 1, 1) := by decide +kernel
theorem dX1_has_1 : decode cX1_has 1 = .ok (.ifCond .lt 15, 3) := by decide +kernel
theorem dX1_has_4 : decode cX1_has 4 = .ok (.iload_n 1, 1) := by decide +kernel
theorem dX1_has_5 : decode cX1_has 5 = .ok (.aload_n 0, 1) := by decide +kernel
theorem dX1_has_6 : decode cX1_has 6 = .ok (.getfield 30, 3) := by decide +kernel
theorem dX1_has_9 : decode cX1_has 9 = .ok (.if_icmp .ge 7, 3) := by decide +kernel
theorem dX1_has_12 : decode cX1_has 12 = .ok (.iconst 1, 1) := by decide +kernel
theorem dX1_has_13 : decode cX1_has 13 = .ok (.goto 4, 3) := by decide +kernel
theorem dX1_has_16 : decode cX1_has 16 = .ok (.iconst 0, 1) := by decide +kernel
theorem dX1_has_17 : decode cX1_has 17 = .ok (.ireturn, 1) := by decide +kernel
theorem dX1_areFull_0 : decode cX1_areFull 0 = .ok (.aload_n 0, 1) := by decide +kernel
theorem dX1_areFull_1 : decode cX1_areFull 1 = .ok (.getfield 30, 3) := by decide +kernel
theorem dX1_areFull_4 : decode cX1_areFull 4 = .ok (.bipush 8, 2) := by decide +kernel
theorem dX1_areFull_6 : decode cX1_areFull 6 = .ok (.if_icmp .lt 7, 3) := by decide +kernel
theorem dX1_areFull_9 : decode cX1_areFull 9 = .ok (.iconst 1, 1) := by decide +kernel
theorem dX1_areFull_10 : decode cX1_areFull 10 = .ok (.goto 4, 3) := by decide +kernel
theorem dX1_areFull_13 : decode cX1_areFull 13 = .ok (.iconst 0, 1) := by decide +kernel
theorem dX1_areFull_14 : decode cX1_areFull 14 = .ok (.ireturn, 1) := by decide +kernel
theorem dX1_isFree_0 : decode cX1_isFree 0 = .ok (.aload_n 0, 1) := by decide +kernel
theorem dX1_isFree_1 : decode cX1_isFree 1 = .ok (.iload_n 1, 1) := by decide +kernel
theorem dX1_isFree_2 : decode cX1_isFree 2 = .ok (.invokevirtual 34, 3) := by decide +kernel
theorem dX1_isFree_5 : decode cX1_isFree 5 = .ok (.bipush (-9), 2) := by decide +kernel
theorem dX1_isFree_7 : decode cX1_isFree 7 = .ok (.if_icmp .ne 7, 3) := by decide +kernel
theorem dX1_isFree_10 : decode cX1_isFree 10 = .ok (.iconst 1, 1) := by decide +kernel
theorem dX1_isFree_11 : decode cX1_isFree 11 = .ok (.goto 4, 3) := by decide +kernel
theorem dX1_isFree_14 : decode cX1_isFree 14 = .ok (.iconst 0, 1) := by decide +kernel
theorem dX1_isFree_15 : decode cX1_isFree 15 = .ok (.ireturn, 1) := by decide +kernel
theorem dX1_holderOf_0 : decode cX1_holderOf 0 = .ok (.aload_n 0, 1) := by decide +kernel
theorem dX1_holderOf_1 : decode cX1_holderOf 1 = .ok (.iload_n 1, 1) := by decide +kernel
theorem dX1_holderOf_2 : decode cX1_holderOf 2 = .ok (.invokevirtual 38, 3) := by decide +kernel
theorem dX1_holderOf_5 : decode cX1_holderOf 5 = .ok (.ifCond .eq 14, 3) := by decide +kernel
theorem dX1_holderOf_8 : decode cX1_holderOf 8 = .ok (.aload_n 0, 1) := by decide +kernel
theorem dX1_holderOf_9 : decode cX1_holderOf 9 = .ok (.getfield 24, 3) := by decide +kernel
theorem dX1_holderOf_12 : decode cX1_holderOf 12 = .ok (.iload_n 1, 1) := by decide +kernel
theorem dX1_holderOf_13 : decode cX1_holderOf 13 = .ok (.invokestatic 42, 3) := by decide +kernel
theorem dX1_holderOf_16 : decode cX1_holderOf 16 = .ok (.goto 5, 3) := by decide +kernel
theorem dX1_holderOf_19 : decode cX1_holderOf 19 = .ok (.bipush (-9), 2) := by decide +kernel
theorem dX1_holderOf_21 : decode cX1_holderOf 21 = .ok (.ireturn, 1) := by decide +kernel
theorem dX1_add_0 : decode cX1_add 0 = .ok (.aload_n 0, 1) := by decide +kernel
theorem dX1_add_1 : decode cX1_add 1 = .ok (.invokevirtual 46, 3) := by decide +kernel
theorem dX1_add_4 : decode cX1_add 4 = .ok (.ifCond .ne 87, 3) := by decide +kernel
theorem dX1_add_7 : decode cX1_add 7 = .ok (.aload_n 0, 1) := by decide +kernel
theorem dX1_add_8 : decode cX1_add 8 = .ok (.getfield 9, 3) := by decide +kernel
theorem dX1_add_11 : decode cX1_add 11 = .ok (.aload_n 0, 1) := by decide +kernel
theorem dX1_add_12 : decode cX1_add 12 = .ok (.getfield 30, 3) := by decide +kernel
theorem dX1_add_15 : decode cX1_add 15 = .ok (.iload_n 1, 1) := by decide +kernel
theorem dX1_add_16 : decode cX1_add 16 = .ok (.invokestatic 50, 3) := by decide +kernel
theorem dX1_add_19 : decode cX1_add 19 = .ok (.aload_n 0, 1) := by decide +kernel
theorem dX1_add_20 : decode cX1_add 20 = .ok (.getfield 15, 3) := by decide +kernel
theorem dX1_add_23 : decode cX1_add 23 = .ok (.aload_n 0, 1) := by decide +kernel
theorem dX1_add_24 : decode cX1_add 24 = .ok (.getfield 30, 3) := by decide +kernel
theorem dX1_add_27 : decode cX1_add 27 = .ok (.iload_n 2, 1) := by decide +kernel
theorem dX1_add_28 : decode cX1_add 28 = .ok (.invokestatic 50, 3) := by decide +kernel
theorem dX1_add_31 : decode cX1_add 31 = .ok (.aload_n 0, 1) := by decide +kernel
theorem dX1_add_32 : decode cX1_add 32 = .ok (.getfield 18, 3) := by decide +kernel
theorem dX1_add_35 : decode cX1_add 35 = .ok (.aload_n 0, 1) := by decide +kernel
theorem dX1_add_36 : decode cX1_add 36 = .ok (.getfield 30, 3) := by decide +kernel
theorem dX1_add_39 : decode cX1_add 39 = .ok (.iload_n 3, 1) := by decide +kernel
theorem dX1_add_40 : decode cX1_add 40 = .ok (.invokestatic 50, 3) := by decide +kernel
theorem dX1_add_43 : decode cX1_add 43 = .ok (.aload_n 0, 1) := by decide +kernel
theorem dX1_add_44 : decode cX1_add 44 = .ok (.getfield 21, 3) := by decide +kernel
theorem dX1_add_47 : decode cX1_add 47 = .ok (.aload_n 0, 1) := by decide +kernel
theorem dX1_add_48 : decode cX1_add 48 = .ok (.getfield 30, 3) := by decide +kernel
theorem dX1_add_51 : decode cX1_add 51 = .ok (.iload 4, 2) := by decide +kernel
theorem dX1_add_53 : decode cX1_add 53 = .ok (.invokestatic 50, 3) := by decide +kernel
theorem dX1_add_56 : decode cX1_add 56 = .ok (.aload_n 0, 1) := by decide +kernel
theorem dX1_add_57 : decode cX1_add 57 = .ok (.getfield 24, 3) := by decide +kernel
theorem dX1_add_60 : decode cX1_add 60 = .ok (.aload_n 0, 1) := by decide +kernel
theorem dX1_add_61 : decode cX1_add 61 = .ok (.getfield 30, 3) := by decide +kernel
theorem dX1_add_64 : decode cX1_add 64 = .ok (.bipush (-9), 2) := by decide +kernel
theorem dX1_add_66 : decode cX1_add 66 = .ok (.invokestatic 50, 3) := by decide +kernel
theorem dX1_add_69 : decode cX1_add 69 = .ok (.aload_n 0, 1) := by decide +kernel
theorem dX1_add_70 : decode cX1_add 70 = .ok (.getfield 27, 3) := by decide +kernel
theorem dX1_add_73 : decode cX1_add 73 = .ok (.aload_n 0, 1) := by decide +kernel
theorem dX1_add_74 : decode cX1_add 74 = .ok (.getfield 30, 3) := by decide +kernel
theorem dX1_add_77 : decode cX1_add 77 = .ok (.iconst 0, 1) := by decide +kernel
theorem dX1_add_78 : decode cX1_add 78 = .ok (.invokestatic 50, 3) := by decide +kernel
theorem dX1_add_81 : decode cX1_add 81 = .ok (.aload_n 0, 1) := by decide +kernel
theorem dX1_add_82 : decode cX1_add 82 = .ok (.dup, 1) := by decide +kernel
theorem dX1_add_83 : decode cX1_add 83 = .ok (.getfield 30, 3) := by decide +kernel
theorem dX1_add_86 : decode cX1_add 86 = .ok (.iconst 1, 1) := by decide +kernel
theorem dX1_add_87 : decode cX1_add 87 = .ok (.iadd, 1) := by decide +kernel
theorem dX1_add_88 : decode cX1_add 88 = .ok (.putfield 30, 3) := by decide +kernel
theorem dX1_add_91 : decode cX1_add 91 = .ok (.return_, 1) := by decide +kernel
theorem dX1_give_0 : decode cX1_give 0 = .ok (.aload_n 0, 1) := by decide +kernel
theorem dX1_give_1 : decode cX1_give 1 = .ok (.getfield 24, 3) := by decide +kernel
theorem dX1_give_4 : decode cX1_give 4 = .ok (.iload_n 1, 1) := by decide +kernel
theorem dX1_give_5 : decode cX1_give 5 = .ok (.iload_n 2, 1) := by decide +kernel
theorem dX1_give_6 : decode cX1_give 6 = .ok (.invokestatic 50, 3) := by decide +kernel
theorem dX1_give_9 : decode cX1_give 9 = .ok (.return_, 1) := by decide +kernel
theorem dX1_countOf_0 : decode cX1_countOf 0 = .ok (.iconst 0, 1) := by decide +kernel
theorem dX1_countOf_1 : decode cX1_countOf 1 = .ok (.istore_n 2, 1) := by decide +kernel
theorem dX1_countOf_2 : decode cX1_countOf 2 = .ok (.iconst 0, 1) := by decide +kernel
theorem dX1_countOf_3 : decode cX1_countOf 3 = .ok (.istore_n 3, 1) := by decide +kernel
theorem dX1_countOf_4 : decode cX1_countOf 4 = .ok (.iload_n 3, 1) := by decide +kernel
theorem dX1_countOf_5 : decode cX1_countOf 5 = .ok (.aload_n 0, 1) := by decide +kernel
theorem dX1_countOf_6 : decode cX1_countOf 6 = .ok (.getfield 30, 3) := by decide +kernel
theorem dX1_countOf_9 : decode cX1_countOf 9 = .ok (.if_icmp .ge 29, 3) := by decide +kernel
theorem dX1_countOf_12 : decode cX1_countOf 12 = .ok (.iload_n 2, 1) := by decide +kernel
theorem dX1_countOf_13 : decode cX1_countOf 13 = .ok (.aload_n 0, 1) := by decide +kernel
theorem dX1_countOf_14 : decode cX1_countOf 14 = .ok (.getfield 24, 3) := by decide +kernel
theorem dX1_countOf_17 : decode cX1_countOf 17 = .ok (.iload_n 3, 1) := by decide +kernel
theorem dX1_countOf_18 : decode cX1_countOf 18 = .ok (.invokestatic 42, 3) := by decide +kernel
theorem dX1_countOf_21 : decode cX1_countOf 21 = .ok (.iload_n 1, 1) := by decide +kernel
theorem dX1_countOf_22 : decode cX1_countOf 22 = .ok (.if_icmp .ne 7, 3) := by decide +kernel
theorem dX1_countOf_25 : decode cX1_countOf 25 = .ok (.iconst 1, 1) := by decide +kernel
theorem dX1_countOf_26 : decode cX1_countOf 26 = .ok (.goto 4, 3) := by decide +kernel
theorem dX1_countOf_29 : decode cX1_countOf 29 = .ok (.iconst 0, 1) := by decide +kernel
theorem dX1_countOf_30 : decode cX1_countOf 30 = .ok (.iadd, 1) := by decide +kernel
theorem dX1_countOf_31 : decode cX1_countOf 31 = .ok (.istore_n 2, 1) := by decide +kernel
theorem dX1_countOf_32 : decode cX1_countOf 32 = .ok (.iinc 3 1, 3) := by decide +kernel
theorem dX1_countOf_35 : decode cX1_countOf 35 = .ok (.goto (-31), 3) := by decide +kernel
theorem dX1_countOf_38 : decode cX1_countOf 38 = .ok (.iload_n 2, 1) := by decide +kernel
theorem dX1_countOf_39 : decode cX1_countOf 39 = .ok (.ireturn, 1) := by decide +kernel
theorem dX1_leaveHolder_0 : decode cX1_leaveHolder 0 = .ok (.iconst 0, 1) := by decide +kernel
theorem dX1_leaveHolder_1 : decode cX1_leaveHolder 1 = .ok (.istore_n 2, 1) := by decide +kernel
theorem dX1_leaveHolder_2 : decode cX1_leaveHolder 2 = .ok (.iload_n 2, 1) := by decide +kernel
theorem dX1_leaveHolder_3 : decode cX1_leaveHolder 3 = .ok (.aload_n 0, 1) := by decide +kernel
theorem dX1_leaveHolder_4 : decode cX1_leaveHolder 4 = .ok (.getfield 30, 3) := by decide +kernel
theorem dX1_leaveHolder_7 : decode cX1_leaveHolder 7 = .ok (.if_icmp .ge 31, 3) := by decide +kernel
theorem dX1_leaveHolder_10 : decode cX1_leaveHolder 10 = .ok (.aload_n 0, 1) := by decide +kernel
theorem dX1_leaveHolder_11 : decode cX1_leaveHolder 11 = .ok (.getfield 24, 3) := by decide +kernel
theorem dX1_leaveHolder_14 : decode cX1_leaveHolder 14 = .ok (.iload_n 2, 1) := by decide +kernel
theorem dX1_leaveHolder_15 : decode cX1_leaveHolder 15 = .ok (.invokestatic 42, 3) := by decide +kernel
theorem dX1_leaveHolder_18 : decode cX1_leaveHolder 18 = .ok (.iload_n 1, 1) := by decide +kernel
theorem dX1_leaveHolder_19 : decode cX1_leaveHolder 19 = .ok (.if_icmp .ne 13, 3) := by decide +kernel
theorem dX1_leaveHolder_22 : decode cX1_leaveHolder 22 = .ok (.aload_n 0, 1) := by decide +kernel
theorem dX1_leaveHolder_23 : decode cX1_leaveHolder 23 = .ok (.getfield 24, 3) := by decide +kernel
theorem dX1_leaveHolder_26 : decode cX1_leaveHolder 26 = .ok (.iload_n 2, 1) := by decide +kernel
theorem dX1_leaveHolder_27 : decode cX1_leaveHolder 27 = .ok (.bipush (-9), 2) := by decide +kernel
theorem dX1_leaveHolder_29 : decode cX1_leaveHolder 29 = .ok (.invokestatic 50, 3) := by decide +kernel
theorem dX1_leaveHolder_32 : decode cX1_leaveHolder 32 = .ok (.iinc 2 1, 3) := by decide +kernel
theorem dX1_leaveHolder_35 : decode cX1_leaveHolder 35 = .ok (.goto (-33), 3) := by decide +kernel
theorem dX1_leaveHolder_38 : decode cX1_leaveHolder 38 = .ok (.return_, 1) := by decide +kernel
theorem dX1_dropEnded_0 : decode cX1_dropEnded 0 = .ok (.iconst 0, 1) := by decide +kernel
theorem dX1_dropEnded_1 : decode cX1_dropEnded 1 = .ok (.istore_n 1, 1) := by decide +kernel
theorem dX1_dropEnded_2 : decode cX1_dropEnded 2 = .ok (.iconst 0, 1) := by decide +kernel
theorem dX1_dropEnded_3 : decode cX1_dropEnded 3 = .ok (.istore_n 2, 1) := by decide +kernel
theorem dX1_dropEnded_4 : decode cX1_dropEnded 4 = .ok (.iload_n 2, 1) := by decide +kernel
theorem dX1_dropEnded_5 : decode cX1_dropEnded 5 = .ok (.aload_n 0, 1) := by decide +kernel
theorem dX1_dropEnded_6 : decode cX1_dropEnded 6 = .ok (.getfield 30, 3) := by decide +kernel
theorem dX1_dropEnded_9 : decode cX1_dropEnded 9 = .ok (.if_icmp .ge 29, 3) := by decide +kernel
theorem dX1_dropEnded_12 : decode cX1_dropEnded 12 = .ok (.aload_n 0, 1) := by decide +kernel
theorem dX1_dropEnded_13 : decode cX1_dropEnded 13 = .ok (.getfield 21, 3) := by decide +kernel
theorem dX1_dropEnded_16 : decode cX1_dropEnded 16 = .ok (.iload_n 2, 1) := by decide +kernel
theorem dX1_dropEnded_17 : decode cX1_dropEnded 17 = .ok (.invokestatic 42, 3) := by decide +kernel
theorem dX1_dropEnded_20 : decode cX1_dropEnded 20 = .ok (.ifCond .le 12, 3) := by decide +kernel
theorem dX1_dropEnded_23 : decode cX1_dropEnded 23 = .ok (.aload_n 0, 1) := by decide +kernel
theorem dX1_dropEnded_24 : decode cX1_dropEnded 24 = .ok (.iload_n 2, 1) := by decide +kernel
theorem dX1_dropEnded_25 : decode cX1_dropEnded 25 = .ok (.iload_n 1, 1) := by decide +kernel
theorem dX1_dropEnded_26 : decode cX1_dropEnded 26 = .ok (.invokevirtual 54, 3) := by decide +kernel
theorem dX1_dropEnded_29 : decode cX1_dropEnded 29 = .ok (.iinc 1 1, 3) := by decide +kernel
theorem dX1_dropEnded_32 : decode cX1_dropEnded 32 = .ok (.iinc 2 1, 3) := by decide +kernel
theorem dX1_dropEnded_35 : decode cX1_dropEnded 35 = .ok (.goto (-31), 3) := by decide +kernel
theorem dX1_dropEnded_38 : decode cX1_dropEnded 38 = .ok (.aload_n 0, 1) := by decide +kernel
theorem dX1_dropEnded_39 : decode cX1_dropEnded 39 = .ok (.iload_n 1, 1) := by decide +kernel
theorem dX1_dropEnded_40 : decode cX1_dropEnded 40 = .ok (.putfield 30, 3) := by decide +kernel
theorem dX1_dropEnded_43 : decode cX1_dropEnded 43 = .ok (.return_, 1) := by decide +kernel
theorem dX1_move_0 : decode cX1_move 0 = .ok (.aload_n 0, 1) := by decide +kernel
theorem dX1_move_1 : decode cX1_move 1 = .ok (.getfield 9, 3) := by decide +kernel
theorem dX1_move_4 : decode cX1_move 4 = .ok (.iload_n 2, 1) := by decide +kernel
theorem dX1_move_5 : decode cX1_move 5 = .ok (.aload_n 0, 1) := by decide +kernel
theorem dX1_move_6 : decode cX1_move 6 = .ok (.getfield 9, 3) := by decide +kernel
theorem dX1_move_9 : decode cX1_move 9 = .ok (.iload_n 1, 1) := by decide +kernel
theorem dX1_move_10 : decode cX1_move 10 = .ok (.invokestatic 42, 3) := by decide +kernel
theorem dX1_move_13 : decode cX1_move 13 = .ok (.invokestatic 50, 3) := by decide +kernel
theorem dX1_move_16 : decode cX1_move 16 = .ok (.aload_n 0, 1) := by decide +kernel
theorem dX1_move_17 : decode cX1_move 17 = .ok (.getfield 15, 3) := by decide +kernel
theorem dX1_move_20 : decode cX1_move 20 = .ok (.iload_n 2, 1) := by decide +kernel
theorem dX1_move_21 : decode cX1_move 21 = .ok (.aload_n 0, 1) := by decide +kernel
theorem dX1_move_22 : decode cX1_move 22 = .ok (.getfield 15, 3) := by decide +kernel
theorem dX1_move_25 : decode cX1_move 25 = .ok (.iload_n 1, 1) := by decide +kernel
theorem dX1_move_26 : decode cX1_move 26 = .ok (.invokestatic 42, 3) := by decide +kernel
theorem dX1_move_29 : decode cX1_move 29 = .ok (.invokestatic 50, 3) := by decide +kernel
theorem dX1_move_32 : decode cX1_move 32 = .ok (.aload_n 0, 1) := by decide +kernel
theorem dX1_move_33 : decode cX1_move 33 = .ok (.getfield 18, 3) := by decide +kernel
theorem dX1_move_36 : decode cX1_move 36 = .ok (.iload_n 2, 1) := by decide +kernel
theorem dX1_move_37 : decode cX1_move 37 = .ok (.aload_n 0, 1) := by decide +kernel
theorem dX1_move_38 : decode cX1_move 38 = .ok (.getfield 18, 3) := by decide +kernel
theorem dX1_move_41 : decode cX1_move 41 = .ok (.iload_n 1, 1) := by decide +kernel
theorem dX1_move_42 : decode cX1_move 42 = .ok (.invokestatic 42, 3) := by decide +kernel
theorem dX1_move_45 : decode cX1_move 45 = .ok (.invokestatic 50, 3) := by decide +kernel
theorem dX1_move_48 : decode cX1_move 48 = .ok (.aload_n 0, 1) := by decide +kernel
theorem dX1_move_49 : decode cX1_move 49 = .ok (.getfield 21, 3) := by decide +kernel
theorem dX1_move_52 : decode cX1_move 52 = .ok (.iload_n 2, 1) := by decide +kernel
theorem dX1_move_53 : decode cX1_move 53 = .ok (.aload_n 0, 1) := by decide +kernel
theorem dX1_move_54 : decode cX1_move 54 = .ok (.getfield 21, 3) := by decide +kernel
theorem dX1_move_57 : decode cX1_move 57 = .ok (.iload_n 1, 1) := by decide +kernel
theorem dX1_move_58 : decode cX1_move 58 = .ok (.invokestatic 42, 3) := by decide +kernel
theorem dX1_move_61 : decode cX1_move 61 = .ok (.invokestatic 50, 3) := by decide +kernel
theorem dX1_move_64 : decode cX1_move 64 = .ok (.aload_n 0, 1) := by decide +kernel
theorem dX1_move_65 : decode cX1_move 65 = .ok (.getfield 24, 3) := by decide +kernel
theorem dX1_move_68 : decode cX1_move 68 = .ok (.iload_n 2, 1) := by decide +kernel
theorem dX1_move_69 : decode cX1_move 69 = .ok (.aload_n 0, 1) := by decide +kernel
theorem dX1_move_70 : decode cX1_move 70 = .ok (.getfield 24, 3) := by decide +kernel
theorem dX1_move_73 : decode cX1_move 73 = .ok (.iload_n 1, 1) := by decide +kernel
theorem dX1_move_74 : decode cX1_move 74 = .ok (.invokestatic 42, 3) := by decide +kernel
theorem dX1_move_77 : decode cX1_move 77 = .ok (.invokestatic 50, 3) := by decide +kernel
theorem dX1_move_80 : decode cX1_move 80 = .ok (.aload_n 0, 1) := by decide +kernel
theorem dX1_move_81 : decode cX1_move 81 = .ok (.getfield 27, 3) := by decide +kernel
theorem dX1_move_84 : decode cX1_move 84 = .ok (.iload_n 2, 1) := by decide +kernel
theorem dX1_move_85 : decode cX1_move 85 = .ok (.aload_n 0, 1) := by decide +kernel
theorem dX1_move_86 : decode cX1_move 86 = .ok (.getfield 27, 3) := by decide +kernel
theorem dX1_move_89 : decode cX1_move 89 = .ok (.iload_n 1, 1) := by decide +kernel
theorem dX1_move_90 : decode cX1_move 90 = .ok (.invokestatic 42, 3) := by decide +kernel
theorem dX1_move_93 : decode cX1_move 93 = .ok (.invokestatic 50, 3) := by decide +kernel
theorem dX1_move_96 : decode cX1_move 96 = .ok (.return_, 1) := by decide +kernel
theorem dX1_copyFrom_0 : decode cX1_copyFrom 0 = .ok (.aload_n 1, 1) := by decide +kernel
theorem dX1_copyFrom_1 : decode cX1_copyFrom 1 = .ok (.getfield 9, 3) := by decide +kernel
theorem dX1_copyFrom_4 : decode cX1_copyFrom 4 = .ok (.aload_n 0, 1) := by decide +kernel
theorem dX1_copyFrom_5 : decode cX1_copyFrom 5 = .ok (.getfield 9, 3) := by decide +kernel
theorem dX1_copyFrom_8 : decode cX1_copyFrom 8 = .ok (.invokestatic 58, 3) := by decide +kernel
theorem dX1_copyFrom_11 : decode cX1_copyFrom 11 = .ok (.aload_n 1, 1) := by decide +kernel
theorem dX1_copyFrom_12 : decode cX1_copyFrom 12 = .ok (.getfield 15, 3) := by decide +kernel
theorem dX1_copyFrom_15 : decode cX1_copyFrom 15 = .ok (.aload_n 0, 1) := by decide +kernel
theorem dX1_copyFrom_16 : decode cX1_copyFrom 16 = .ok (.getfield 15, 3) := by decide +kernel
theorem dX1_copyFrom_19 : decode cX1_copyFrom 19 = .ok (.invokestatic 58, 3) := by decide +kernel
theorem dX1_copyFrom_22 : decode cX1_copyFrom 22 = .ok (.aload_n 1, 1) := by decide +kernel
theorem dX1_copyFrom_23 : decode cX1_copyFrom 23 = .ok (.getfield 18, 3) := by decide +kernel
theorem dX1_copyFrom_26 : decode cX1_copyFrom 26 = .ok (.aload_n 0, 1) := by decide +kernel
theorem dX1_copyFrom_27 : decode cX1_copyFrom 27 = .ok (.getfield 18, 3) := by decide +kernel
theorem dX1_copyFrom_30 : decode cX1_copyFrom 30 = .ok (.invokestatic 58, 3) := by decide +kernel
theorem dX1_copyFrom_33 : decode cX1_copyFrom 33 = .ok (.aload_n 1, 1) := by decide +kernel
theorem dX1_copyFrom_34 : decode cX1_copyFrom 34 = .ok (.getfield 21, 3) := by decide +kernel
theorem dX1_copyFrom_37 : decode cX1_copyFrom 37 = .ok (.aload_n 0, 1) := by decide +kernel
theorem dX1_copyFrom_38 : decode cX1_copyFrom 38 = .ok (.getfield 21, 3) := by decide +kernel
theorem dX1_copyFrom_41 : decode cX1_copyFrom 41 = .ok (.invokestatic 58, 3) := by decide +kernel
theorem dX1_copyFrom_44 : decode cX1_copyFrom 44 = .ok (.aload_n 1, 1) := by decide +kernel
theorem dX1_copyFrom_45 : decode cX1_copyFrom 45 = .ok (.getfield 24, 3) := by decide +kernel
theorem dX1_copyFrom_48 : decode cX1_copyFrom 48 = .ok (.aload_n 0, 1) := by decide +kernel
theorem dX1_copyFrom_49 : decode cX1_copyFrom 49 = .ok (.getfield 24, 3) := by decide +kernel
theorem dX1_copyFrom_52 : decode cX1_copyFrom 52 = .ok (.invokestatic 58, 3) := by decide +kernel
theorem dX1_copyFrom_55 : decode cX1_copyFrom 55 = .ok (.aload_n 1, 1) := by decide +kernel
theorem dX1_copyFrom_56 : decode cX1_copyFrom 56 = .ok (.getfield 27, 3) := by decide +kernel
theorem dX1_copyFrom_59 : decode cX1_copyFrom 59 = .ok (.aload_n 0, 1) := by decide +kernel
theorem dX1_copyFrom_60 : decode cX1_copyFrom 60 = .ok (.getfield 27, 3) := by decide +kernel
theorem dX1_copyFrom_63 : decode cX1_copyFrom 63 = .ok (.invokestatic 58, 3) := by decide +kernel
theorem dX1_copyFrom_66 : decode cX1_copyFrom 66 = .ok (.aload_n 0, 1) := by decide +kernel
theorem dX1_copyFrom_67 : decode cX1_copyFrom 67 = .ok (.aload_n 1, 1) := by decide +kernel
theorem dX1_copyFrom_68 : decode cX1_copyFrom 68 = .ok (.getfield 30, 3) := by decide +kernel
theorem dX1_copyFrom_71 : decode cX1_copyFrom 71 = .ok (.putfield 30, 3) := by decide +kernel
theorem dX1_copyFrom_74 : decode cX1_copyFrom 74 = .ok (.return_, 1) := by decide +kernel
theorem dX2_init_0 : decode cX2_init 0 = .ok (.aload_n 0, 1) := by decide +kernel
theorem dX2_init_1 : decode cX2_init 1 = .ok (.invokespecial 3, 3) := by decide +kernel
theorem dX2_init_4 : decode cX2_init 4 = .ok (.aload_n 0, 1) := by decide +kernel
theorem dX2_init_5 : decode cX2_init 5 = .ok (.bipush 100, 2) := by decide +kernel
theorem dX2_init_7 : decode cX2_init 7 = .ok (.newarray .int, 2) := by decide +kernel
theorem dX2_init_9 : decode cX2_init 9 = .ok (.putfield 9, 3) := by decide +kernel
theorem dX2_init_12 : decode cX2_init 12 = .ok (.return_, 1) := by decide +kernel
theorem dX2_isFull_0 : decode cX2_isFull 0 = .ok (.aload_n 0, 1) := by decide +kernel
theorem dX2_isFull_1 : decode cX2_isFull 1 = .ok (.getfield 15, 3) := by decide +kernel
theorem dX2_isFull_4 : decode cX2_isFull 4 = .ok (.bipush 100, 2) := by decide +kernel
theorem dX2_isFull_6 : decode cX2_isFull 6 = .ok (.if_icmp .lt 7, 3) := by decide +kernel
theorem dX2_isFull_9 : decode cX2_isFull 9 = .ok (.iconst 1, 1) := by decide +kernel
theorem dX2_isFull_10 : decode cX2_isFull 10 = .ok (.goto 4, 3) := by decide +kernel
theorem dX2_isFull_13 : decode cX2_isFull 13 = .ok (.iconst 0, 1) := by decide +kernel
theorem dX2_isFull_14 : decode cX2_isFull 14 = .ok (.ireturn, 1) := by decide +kernel
theorem dX2_add_0 : decode cX2_add 0 = .ok (.aload_n 0, 1) := by decide +kernel
theorem dX2_add_1 : decode cX2_add 1 = .ok (.invokevirtual 19, 3) := by decide +kernel
theorem dX2_add_4 : decode cX2_add 4 = .ok (.ifCond .ne 25, 3) := by decide +kernel
theorem dX2_add_7 : decode cX2_add 7 = .ok (.aload_n 0, 1) := by decide +kernel
theorem dX2_add_8 : decode cX2_add 8 = .ok (.getfield 9, 3) := by decide +kernel
theorem dX2_add_11 : decode cX2_add 11 = .ok (.aload_n 0, 1) := by decide +kernel
theorem dX2_add_12 : decode cX2_add 12 = .ok (.getfield 15, 3) := by decide +kernel
theorem dX2_add_15 : decode cX2_add 15 = .ok (.iload_n 1, 1) := by decide +kernel
theorem dX2_add_16 : decode cX2_add 16 = .ok (.invokestatic 23, 3) := by decide +kernel
theorem dX2_add_19 : decode cX2_add 19 = .ok (.aload_n 0, 1) := by decide +kernel
theorem dX2_add_20 : decode cX2_add 20 = .ok (.dup, 1) := by decide +kernel
theorem dX2_add_21 : decode cX2_add 21 = .ok (.getfield 15, 3) := by decide +kernel
theorem dX2_add_24 : decode cX2_add 24 = .ok (.iconst 1, 1) := by decide +kernel
theorem dX2_add_25 : decode cX2_add 25 = .ok (.iadd, 1) := by decide +kernel
theorem dX2_add_26 : decode cX2_add 26 = .ok (.putfield 15, 3) := by decide +kernel
theorem dX2_add_29 : decode cX2_add 29 = .ok (.aload_n 0, 1) := by decide +kernel
theorem dX2_add_30 : decode cX2_add 30 = .ok (.getfield 15, 3) := by decide +kernel
theorem dX2_add_33 : decode cX2_add 33 = .ok (.ireturn, 1) := by decide +kernel
theorem dX2_empty_0 : decode cX2_empty 0 = .ok (.aload_n 0, 1) := by decide +kernel
theorem dX2_empty_1 : decode cX2_empty 1 = .ok (.getfield 15, 3) := by decide +kernel
theorem dX2_empty_4 : decode cX2_empty 4 = .ok (.istore_n 1, 1) := by decide +kernel
theorem dX2_empty_5 : decode cX2_empty 5 = .ok (.aload_n 0, 1) := by decide +kernel
theorem dX2_empty_6 : decode cX2_empty 6 = .ok (.iconst 0, 1) := by decide +kernel
theorem dX2_empty_7 : decode cX2_empty 7 = .ok (.putfield 15, 3) := by decide +kernel
theorem dX2_empty_10 : decode cX2_empty 10 = .ok (.iload_n 1, 1) := by decide +kernel
theorem dX2_empty_11 : decode cX2_empty 11 = .ok (.ireturn, 1) := by decide +kernel
theorem dX2_readInto_0 : decode cX2_readInto 0 = .ok (.aload_n 0, 1) := by decide +kernel
theorem dX2_readInto_1 : decode cX2_readInto 1 = .ok (.iconst 0, 1) := by decide +kernel
theorem dX2_readInto_2 : decode cX2_readInto 2 = .ok (.bipush 82, 2) := by decide +kernel
theorem dX2_readInto_4 : decode cX2_readInto 4 = .ok (.invokevirtual 27, 3) := by decide +kernel
theorem dX2_readInto_7 : decode cX2_readInto 7 = .ok (.ifCond .ne 5, 3) := by decide +kernel
theorem dX2_readInto_10 : decode cX2_readInto 10 = .ok (.iconst 0, 1) := by decide +kernel
theorem dX2_readInto_11 : decode cX2_readInto 11 = .ok (.ireturn, 1) := by decide +kernel
theorem dX2_readInto_12 : decode cX2_readInto 12 = .ok (.aload_n 0, 1) := by decide +kernel
theorem dX2_readInto_13 : decode cX2_readInto 13 = .ok (.iconst 1, 1) := by decide +kernel
theorem dX2_readInto_14 : decode cX2_readInto 14 = .ok (.invokevirtual 31, 3) := by decide +kernel
theorem dX2_readInto_17 : decode cX2_readInto 17 = .ok (.istore_n 2, 1) := by decide +kernel
theorem dX2_readInto_18 : decode cX2_readInto 18 = .ok (.iload_n 2, 1) := by decide +kernel
theorem dX2_readInto_19 : decode cX2_readInto 19 = .ok (.iconst 2, 1) := by decide +kernel
theorem dX2_readInto_20 : decode cX2_readInto 20 = .ok (.if_icmp .ge 5, 3) := by decide +kernel
theorem dX2_readInto_23 : decode cX2_readInto 23 = .ok (.iconst 1, 1) := by decide +kernel
theorem dX2_readInto_24 : decode cX2_readInto 24 = .ok (.ireturn, 1) := by decide +kernel
theorem dX2_readInto_25 : decode cX2_readInto 25 = .ok (.aload_n 1, 1) := by decide +kernel
theorem dX2_readInto_26 : decode cX2_readInto 26 = .ok (.iload_n 2, 1) := by decide +kernel
theorem dX2_readInto_27 : decode cX2_readInto 27 = .ok (.invokevirtual 35, 3) := by decide +kernel
theorem dX2_readInto_30 : decode cX2_readInto 30 = .ok (.iconst 2, 1) := by decide +kernel
theorem dX2_readInto_31 : decode cX2_readInto 31 = .ok (.istore_n 3, 1) := by decide +kernel
theorem dX2_readInto_32 : decode cX2_readInto 32 = .ok (.iload_n 3, 1) := by decide +kernel
theorem dX2_readInto_33 : decode cX2_readInto 33 = .ok (.aload_n 0, 1) := by decide +kernel
theorem dX2_readInto_34 : decode cX2_readInto 34 = .ok (.getfield 15, 3) := by decide +kernel
theorem dX2_readInto_37 : decode cX2_readInto 37 = .ok (.if_icmp .ge 43, 3) := by decide +kernel
theorem dX2_readInto_40 : decode cX2_readInto 40 = .ok (.aload_n 0, 1) := by decide +kernel
theorem dX2_readInto_41 : decode cX2_readInto 41 = .ok (.aload_n 1, 1) := by decide +kernel
theorem dX2_readInto_42 : decode cX2_readInto 42 = .ok (.iload_n 3, 1) := by decide +kernel
theorem dX2_readInto_43 : decode cX2_readInto 43 = .ok (.invokevirtual 41, 3) := by decide +kernel
theorem dX2_readInto_46 : decode cX2_readInto 46 = .ok (.istore 4, 2) := by decide +kernel
theorem dX2_readInto_48 : decode cX2_readInto 48 = .ok (.iload 4, 2) := by decide +kernel
theorem dX2_readInto_50 : decode cX2_readInto 50 = .ok (.bipush (-9), 2) := by decide +kernel
theorem dX2_readInto_52 : decode cX2_readInto 52 = .ok (.if_icmp .eq 6, 3) := by decide +kernel
theorem dX2_readInto_55 : decode cX2_readInto 55 = .ok (.iload 4, 2) := by decide +kernel
theorem dX2_readInto_57 : decode cX2_readInto 57 = .ok (.ireturn, 1) := by decide +kernel
theorem dX2_readInto_58 : decode cX2_readInto 58 = .ok (.iload_n 3, 1) := by decide +kernel
theorem dX2_readInto_59 : decode cX2_readInto 59 = .ok (.aload_n 0, 1) := by decide +kernel
theorem dX2_readInto_60 : decode cX2_readInto 60 = .ok (.iload_n 3, 1) := by decide +kernel
theorem dX2_readInto_61 : decode cX2_readInto 61 = .ok (.bipush 116, 2) := by decide +kernel
theorem dX2_readInto_63 : decode cX2_readInto 63 = .ok (.invokevirtual 27, 3) := by decide +kernel
theorem dX2_readInto_66 : decode cX2_readInto 66 = .ok (.ifCond .eq 7, 3) := by decide +kernel
theorem dX2_readInto_69 : decode cX2_readInto 69 = .ok (.iconst 4, 1) := by decide +kernel
theorem dX2_readInto_70 : decode cX2_readInto 70 = .ok (.goto 5, 3) := by decide +kernel
theorem dX2_readInto_73 : decode cX2_readInto 73 = .ok (.bipush 6, 2) := by decide +kernel
theorem dX2_readInto_75 : decode cX2_readInto 75 = .ok (.iadd, 1) := by decide +kernel
theorem dX2_readInto_76 : decode cX2_readInto 76 = .ok (.istore_n 3, 1) := by decide +kernel
theorem dX2_readInto_77 : decode cX2_readInto 77 = .ok (.goto (-45), 3) := by decide +kernel
theorem dX2_readInto_80 : decode cX2_readInto 80 = .ok (.bipush (-9), 2) := by decide +kernel
theorem dX2_readInto_82 : decode cX2_readInto 82 = .ok (.ireturn, 1) := by decide +kernel
theorem dX2_readPart_0 : decode cX2_readPart 0 = .ok (.aload_n 0, 1) := by decide +kernel
theorem dX2_readPart_1 : decode cX2_readPart 1 = .ok (.iload_n 2, 1) := by decide +kernel
theorem dX2_readPart_2 : decode cX2_readPart 2 = .ok (.bipush 116, 2) := by decide +kernel
theorem dX2_readPart_4 : decode cX2_readPart 4 = .ok (.invokevirtual 27, 3) := by decide +kernel
theorem dX2_readPart_7 : decode cX2_readPart 7 = .ok (.ifCond .eq 20, 3) := by decide +kernel
theorem dX2_readPart_10 : decode cX2_readPart 10 = .ok (.aload_n 1, 1) := by decide +kernel
theorem dX2_readPart_11 : decode cX2_readPart 11 = .ok (.getfield 45, 3) := by decide +kernel
theorem dX2_readPart_14 : decode cX2_readPart 14 = .ok (.invokevirtual 49, 3) := by decide +kernel
theorem dX2_readPart_17 : decode cX2_readPart 17 = .ok (.ifCond .ne 10, 3) := by decide +kernel
theorem dX2_readPart_20 : decode cX2_readPart 20 = .ok (.aload_n 0, 1) := by decide +kernel
theorem dX2_readPart_21 : decode cX2_readPart 21 = .ok (.aload_n 1, 1) := by decide +kernel
theorem dX2_readPart_22 : decode cX2_readPart 22 = .ok (.iload_n 2, 1) := by decide +kernel
theorem dX2_readPart_23 : decode cX2_readPart 23 = .ok (.invokevirtual 54, 3) := by decide +kernel
theorem dX2_readPart_26 : decode cX2_readPart 26 = .ok (.ireturn, 1) := by decide +kernel
theorem dX2_readPart_27 : decode cX2_readPart 27 = .ok (.aload_n 0, 1) := by decide +kernel
theorem dX2_readPart_28 : decode cX2_readPart 28 = .ok (.iload_n 2, 1) := by decide +kernel
theorem dX2_readPart_29 : decode cX2_readPart 29 = .ok (.bipush 99, 2) := by decide +kernel
theorem dX2_readPart_31 : decode cX2_readPart 31 = .ok (.invokevirtual 27, 3) := by decide +kernel
theorem dX2_readPart_34 : decode cX2_readPart 34 = .ok (.ifCond .eq 20, 3) := by decide +kernel
theorem dX2_readPart_37 : decode cX2_readPart 37 = .ok (.aload_n 1, 1) := by decide +kernel
theorem dX2_readPart_38 : decode cX2_readPart 38 = .ok (.getfield 57, 3) := by decide +kernel
theorem dX2_readPart_41 : decode cX2_readPart 41 = .ok (.invokevirtual 61, 3) := by decide +kernel
theorem dX2_readPart_44 : decode cX2_readPart 44 = .ok (.ifCond .ne 10, 3) := by decide +kernel
theorem dX2_readPart_47 : decode cX2_readPart 47 = .ok (.aload_n 0, 1) := by decide +kernel
theorem dX2_readPart_48 : decode cX2_readPart 48 = .ok (.aload_n 1, 1) := by decide +kernel
theorem dX2_readPart_49 : decode cX2_readPart 49 = .ok (.iload_n 2, 1) := by decide +kernel
theorem dX2_readPart_50 : decode cX2_readPart 50 = .ok (.invokevirtual 64, 3) := by decide +kernel
theorem dX2_readPart_53 : decode cX2_readPart 53 = .ok (.ireturn, 1) := by decide +kernel
theorem dX2_readPart_54 : decode cX2_readPart 54 = .ok (.iload_n 2, 1) := by decide +kernel
theorem dX2_readPart_55 : decode cX2_readPart 55 = .ok (.ireturn, 1) := by decide +kernel
theorem dX2_readTrack_0 : decode cX2_readTrack 0 = .ok (.aload_n 0, 1) := by decide +kernel
theorem dX2_readTrack_1 : decode cX2_readTrack 1 = .ok (.aload_n 1, 1) := by decide +kernel
theorem dX2_readTrack_2 : decode cX2_readTrack 2 = .ok (.getfield 67, 3) := by decide +kernel
theorem dX2_readTrack_5 : decode cX2_readTrack 5 = .ok (.iload_n 2, 1) := by decide +kernel
theorem dX2_readTrack_6 : decode cX2_readTrack 6 = .ok (.iconst 1, 1) := by decide +kernel
theorem dX2_readTrack_7 : decode cX2_readTrack 7 = .ok (.iadd, 1) := by decide +kernel
theorem dX2_readTrack_8 : decode cX2_readTrack 8 = .ok (.invokevirtual 70, 3) := by decide +kernel
theorem dX2_readTrack_11 : decode cX2_readTrack 11 = .ok (.istore_n 3, 1) := by decide +kernel
theorem dX2_readTrack_12 : decode cX2_readTrack 12 = .ok (.iload_n 3, 1) := by decide +kernel
theorem dX2_readTrack_13 : decode cX2_readTrack 13 = .ok (.bipush (-9), 2) := by decide +kernel
theorem dX2_readTrack_15 : decode cX2_readTrack 15 = .ok (.if_icmp .eq 5, 3) := by decide +kernel
theorem dX2_readTrack_18 : decode cX2_readTrack 18 = .ok (.iload_n 3, 1) := by decide +kernel
theorem dX2_readTrack_19 : decode cX2_readTrack 19 = .ok (.ireturn, 1) := by decide +kernel
theorem dX2_readTrack_20 : decode cX2_readTrack 20 = .ok (.aload_n 0, 1) := by decide +kernel
theorem dX2_readTrack_21 : decode cX2_readTrack 21 = .ok (.iload_n 2, 1) := by decide +kernel
theorem dX2_readTrack_22 : decode cX2_readTrack 22 = .ok (.iconst 3, 1) := by decide +kernel
theorem dX2_readTrack_23 : decode cX2_readTrack 23 = .ok (.iadd, 1) := by decide +kernel
theorem dX2_readTrack_24 : decode cX2_readTrack 24 = .ok (.invokevirtual 31, 3) := by decide +kernel
theorem dX2_readTrack_27 : decode cX2_readTrack 27 = .ok (.istore 4, 2) := by decide +kernel
theorem dX2_readTrack_29 : decode cX2_readTrack 29 = .ok (.iload 4, 2) := by decide +kernel
theorem dX2_readTrack_31 : decode cX2_readTrack 31 = .ok (.iconst 1, 1) := by decide +kernel
theorem dX2_readTrack_32 : decode cX2_readTrack 32 = .ok (.if_icmp .ge 7, 3) := by decide +kernel
theorem dX2_readTrack_35 : decode cX2_readTrack 35 = .ok (.iload_n 2, 1) := by decide +kernel
theorem dX2_readTrack_36 : decode cX2_readTrack 36 = .ok (.iconst 3, 1) := by decide +kernel
theorem dX2_readTrack_37 : decode cX2_readTrack 37 = .ok (.iadd, 1) := by decide +kernel
theorem dX2_readTrack_38 : decode cX2_readTrack 38 = .ok (.ireturn, 1) := by decide +kernel
theorem dX2_readTrack_39 : decode cX2_readTrack 39 = .ok (.aload_n 1, 1) := by decide +kernel
theorem dX2_readTrack_40 : decode cX2_readTrack 40 = .ok (.getfield 45, 3) := by decide +kernel
theorem dX2_readTrack_43 : decode cX2_readTrack 43 = .ok (.aload_n 0, 1) := by decide +kernel
theorem dX2_readTrack_44 : decode cX2_readTrack 44 = .ok (.iload_n 2, 1) := by decide +kernel
theorem dX2_readTrack_45 : decode cX2_readTrack 45 = .ok (.iconst 1, 1) := by decide +kernel
theorem dX2_readTrack_46 : decode cX2_readTrack 46 = .ok (.iadd, 1) := by decide +kernel
theorem dX2_readTrack_47 : decode cX2_readTrack 47 = .ok (.invokevirtual 31, 3) := by decide +kernel
theorem dX2_readTrack_50 : decode cX2_readTrack 50 = .ok (.aload_n 0, 1) := by decide +kernel
theorem dX2_readTrack_51 : decode cX2_readTrack 51 = .ok (.iload_n 2, 1) := by decide +kernel
theorem dX2_readTrack_52 : decode cX2_readTrack 52 = .ok (.iconst 2, 1) := by decide +kernel
theorem dX2_readTrack_53 : decode cX2_readTrack 53 = .ok (.iadd, 1) := by decide +kernel
theorem dX2_readTrack_54 : decode cX2_readTrack 54 = .ok (.invokevirtual 31, 3) := by decide +kernel
theorem dX2_readTrack_57 : decode cX2_readTrack 57 = .ok (.iload 4, 2) := by decide +kernel
theorem dX2_readTrack_59 : decode cX2_readTrack 59 = .ok (.invokevirtual 74, 3) := by decide +kernel
theorem dX2_readTrack_62 : decode cX2_readTrack 62 = .ok (.bipush (-9), 2) := by decide +kernel
theorem dX2_readTrack_64 : decode cX2_readTrack 64 = .ok (.ireturn, 1) := by decide +kernel
theorem dX2_readContract_0 : decode cX2_readContract 0 = .ok (.aload_n 0, 1) := by decide +kernel
theorem dX2_readContract_1 : decode cX2_readContract 1 = .ok (.aload_n 1, 1) := by decide +kernel
theorem dX2_readContract_2 : decode cX2_readContract 2 = .ok (.getfield 67, 3) := by decide +kernel
theorem dX2_readContract_5 : decode cX2_readContract 5 = .ok (.iload_n 2, 1) := by decide +kernel
theorem dX2_readContract_6 : decode cX2_readContract 6 = .ok (.iconst 1, 1) := by decide +kernel
theorem dX2_readContract_7 : decode cX2_readContract 7 = .ok (.iadd, 1) := by decide +kernel
theorem dX2_readContract_8 : decode cX2_readContract 8 = .ok (.invokevirtual 70, 3) := by decide +kernel
theorem dX2_readContract_11 : decode cX2_readContract 11 = .ok (.istore_n 3, 1) := by decide +kernel
theorem dX2_readContract_12 : decode cX2_readContract 12 = .ok (.iload_n 3, 1) := by decide +kernel
theorem dX2_readContract_13 : decode cX2_readContract 13 = .ok (.bipush (-9), 2) := by decide +kernel
theorem dX2_readContract_15 : decode cX2_readContract 15 = .ok (.if_icmp .eq 5, 3) := by decide +kernel
theorem dX2_readContract_18 : decode cX2_readContract 18 = .ok (.iload_n 3, 1) := by decide +kernel
theorem dX2_readContract_19 : decode cX2_readContract 19 = .ok (.ireturn, 1) := by decide +kernel
theorem dX2_readContract_20 : decode cX2_readContract 20 = .ok (.aload_n 0, 1) := by decide +kernel
theorem dX2_readContract_21 : decode cX2_readContract 21 = .ok (.iload_n 2, 1) := by decide +kernel
theorem dX2_readContract_22 : decode cX2_readContract 22 = .ok (.iconst 3, 1) := by decide +kernel
theorem dX2_readContract_23 : decode cX2_readContract 23 = .ok (.iadd, 1) := by decide +kernel
theorem dX2_readContract_24 : decode cX2_readContract 24 = .ok (.invokevirtual 31, 3) := by decide +kernel
theorem dX2_readContract_27 : decode cX2_readContract 27 = .ok (.istore 4, 2) := by decide +kernel
theorem dX2_readContract_29 : decode cX2_readContract 29 = .ok (.iload 4, 2) := by decide +kernel
theorem dX2_readContract_31 : decode cX2_readContract 31 = .ok (.ifCond .ge 7, 3) := by decide +kernel
theorem dX2_readContract_34 : decode cX2_readContract 34 = .ok (.iload_n 2, 1) := by decide +kernel
theorem dX2_readContract_35 : decode cX2_readContract 35 = .ok (.iconst 3, 1) := by decide +kernel
theorem dX2_readContract_36 : decode cX2_readContract 36 = .ok (.iadd, 1) := by decide +kernel
theorem dX2_readContract_37 : decode cX2_readContract 37 = .ok (.ireturn, 1) := by decide +kernel
theorem dX2_readContract_38 : decode cX2_readContract 38 = .ok (.aload_n 0, 1) := by decide +kernel
theorem dX2_readContract_39 : decode cX2_readContract 39 = .ok (.iload_n 2, 1) := by decide +kernel
theorem dX2_readContract_40 : decode cX2_readContract 40 = .ok (.iconst 4, 1) := by decide +kernel
theorem dX2_readContract_41 : decode cX2_readContract 41 = .ok (.iadd, 1) := by decide +kernel
theorem dX2_readContract_42 : decode cX2_readContract 42 = .ok (.invokevirtual 31, 3) := by decide +kernel
theorem dX2_readContract_45 : decode cX2_readContract 45 = .ok (.istore 5, 2) := by decide +kernel
theorem dX2_readContract_47 : decode cX2_readContract 47 = .ok (.iload 5, 2) := by decide +kernel
theorem dX2_readContract_49 : decode cX2_readContract 49 = .ok (.ifCond .lt 11, 3) := by decide +kernel
theorem dX2_readContract_52 : decode cX2_readContract 52 = .ok (.iload 4, 2) := by decide +kernel
theorem dX2_readContract_54 : decode cX2_readContract 54 = .ok (.iload 5, 2) := by decide +kernel
theorem dX2_readContract_56 : decode cX2_readContract 56 = .ok (.iadd, 1) := by decide +kernel
theorem dX2_readContract_57 : decode cX2_readContract 57 = .ok (.ifCond .ne 7, 3) := by decide +kernel
theorem dX2_readContract_60 : decode cX2_readContract 60 = .ok (.iload_n 2, 1) := by decide +kernel
theorem dX2_readContract_61 : decode cX2_readContract 61 = .ok (.iconst 4, 1) := by decide +kernel
theorem dX2_readContract_62 : decode cX2_readContract 62 = .ok (.iadd, 1) := by decide +kernel
theorem dX2_readContract_63 : decode cX2_readContract 63 = .ok (.ireturn, 1) := by decide +kernel
theorem dX2_readContract_64 : decode cX2_readContract 64 = .ok (.aload_n 0, 1) := by decide +kernel
theorem dX2_readContract_65 : decode cX2_readContract 65 = .ok (.iload_n 2, 1) := by decide +kernel
theorem dX2_readContract_66 : decode cX2_readContract 66 = .ok (.iconst 5, 1) := by decide +kernel
theorem dX2_readContract_67 : decode cX2_readContract 67 = .ok (.iadd, 1) := by decide +kernel
theorem dX2_readContract_68 : decode cX2_readContract 68 = .ok (.invokevirtual 31, 3) := by decide +kernel
theorem dX2_readContract_71 : decode cX2_readContract 71 = .ok (.istore 6, 2) := by decide +kernel
theorem dX2_readContract_73 : decode cX2_readContract 73 = .ok (.iload 6, 2) := by decide +kernel
theorem dX2_readContract_75 : decode cX2_readContract 75 = .ok (.iconst 1, 1) := by decide +kernel
theorem dX2_readContract_76 : decode cX2_readContract 76 = .ok (.if_icmp .ge 7, 3) := by decide +kernel
theorem dX2_readContract_79 : decode cX2_readContract 79 = .ok (.iload_n 2, 1) := by decide +kernel
theorem dX2_readContract_80 : decode cX2_readContract 80 = .ok (.iconst 5, 1) := by decide +kernel
theorem dX2_readContract_81 : decode cX2_readContract 81 = .ok (.iadd, 1) := by decide +kernel
theorem dX2_readContract_82 : decode cX2_readContract 82 = .ok (.ireturn, 1) := by decide +kernel
theorem dX2_readContract_83 : decode cX2_readContract 83 = .ok (.aload_n 1, 1) := by decide +kernel
theorem dX2_readContract_84 : decode cX2_readContract 84 = .ok (.getfield 57, 3) := by decide +kernel
theorem dX2_readContract_87 : decode cX2_readContract 87 = .ok (.aload_n 0, 1) := by decide +kernel
theorem dX2_readContract_88 : decode cX2_readContract 88 = .ok (.iload_n 2, 1) := by decide +kernel
theorem dX2_readContract_89 : decode cX2_readContract 89 = .ok (.iconst 1, 1) := by decide +kernel
theorem dX2_readContract_90 : decode cX2_readContract 90 = .ok (.iadd, 1) := by decide +kernel
theorem dX2_readContract_91 : decode cX2_readContract 91 = .ok (.invokevirtual 31, 3) := by decide +kernel
theorem dX2_readContract_94 : decode cX2_readContract 94 = .ok (.aload_n 0, 1) := by decide +kernel
theorem dX2_readContract_95 : decode cX2_readContract 95 = .ok (.iload_n 2, 1) := by decide +kernel
theorem dX2_readContract_96 : decode cX2_readContract 96 = .ok (.iconst 2, 1) := by decide +kernel
theorem dX2_readContract_97 : decode cX2_readContract 97 = .ok (.iadd, 1) := by decide +kernel
theorem dX2_readContract_98 : decode cX2_readContract 98 = .ok (.invokevirtual 31, 3) := by decide +kernel
theorem dX2_readContract_101 : decode cX2_readContract 101 = .ok (.bipush 10, 2) := by decide +kernel
theorem dX2_readContract_103 : decode cX2_readContract 103 = .ok (.iload 4, 2) := by decide +kernel
theorem dX2_readContract_105 : decode cX2_readContract 105 = .ok (.imul, 1) := by decide +kernel
theorem dX2_readContract_106 : decode cX2_readContract 106 = .ok (.iload 5, 2) := by decide +kernel
theorem dX2_readContract_108 : decode cX2_readContract 108 = .ok (.iadd, 1) := by decide +kernel
theorem dX2_readContract_109 : decode cX2_readContract 109 = .ok (.iload 6, 2) := by decide +kernel
theorem dX2_readContract_111 : decode cX2_readContract 111 = .ok (.invokevirtual 78, 3) := by decide +kernel
theorem dX2_readContract_114 : decode cX2_readContract 114 = .ok (.bipush (-9), 2) := by decide +kernel
theorem dX2_readContract_116 : decode cX2_readContract 116 = .ok (.ireturn, 1) := by decide +kernel
theorem dX2_errorOfCities_0 : decode cX2_errorOfCities 0 = .ok (.aload_n 0, 1) := by decide +kernel
theorem dX2_errorOfCities_1 : decode cX2_errorOfCities 1 = .ok (.iload_n 2, 1) := by decide +kernel
theorem dX2_errorOfCities_2 : decode cX2_errorOfCities 2 = .ok (.invokevirtual 31, 3) := by decide +kernel
theorem dX2_errorOfCities_5 : decode cX2_errorOfCities 5 = .ok (.istore_n 3, 1) := by decide +kernel
theorem dX2_errorOfCities_6 : decode cX2_errorOfCities 6 = .ok (.iload_n 3, 1) := by decide +kernel
theorem dX2_errorOfCities_7 : decode cX2_errorOfCities 7 = .ok (.ifCond .lt 8, 3) := by decide +kernel
theorem dX2_errorOfCities_10 : decode cX2_errorOfCities 10 = .ok (.iload_n 3, 1) := by decide +kernel
theorem dX2_errorOfCities_11 : decode cX2_errorOfCities 11 = .ok (.iload_n 1, 1) := by decide +kernel
theorem dX2_errorOfCities_12 : decode cX2_errorOfCities 12 = .ok (.if_icmp .lt 5, 3) := by decide +kernel
theorem dX2_errorOfCities_15 : decode cX2_errorOfCities 15 = .ok (.iload_n 2, 1) := by decide +kernel
theorem dX2_errorOfCities_16 : decode cX2_errorOfCities 16 = .ok (.ireturn, 1) := by decide +kernel
theorem dX2_errorOfCities_17 : decode cX2_errorOfCities 17 = .ok (.aload_n 0, 1) := by decide +kernel
theorem dX2_errorOfCities_18 : decode cX2_errorOfCities 18 = .ok (.iload_n 2, 1) := by decide +kernel
theorem dX2_errorOfCities_19 : decode cX2_errorOfCities 19 = .ok (.iconst 1, 1) := by decide +kernel
theorem dX2_errorOfCities_20 : decode cX2_errorOfCities 20 = .ok (.iadd, 1) := by decide +kernel
theorem dX2_errorOfCities_21 : decode cX2_errorOfCities 21 = .ok (.invokevirtual 31, 3) := by decide +kernel
theorem dX2_errorOfCities_24 : decode cX2_errorOfCities 24 = .ok (.istore 4, 2) := by decide +kernel
theorem dX2_errorOfCities_26 : decode cX2_errorOfCities 26 = .ok (.iload 4, 2) := by decide +kernel
theorem dX2_errorOfCities_28 : decode cX2_errorOfCities 28 = .ok (.ifCond .lt 15, 3) := by decide +kernel
theorem dX2_errorOfCities_31 : decode cX2_errorOfCities 31 = .ok (.iload 4, 2) := by decide +kernel
theorem dX2_errorOfCities_33 : decode cX2_errorOfCities 33 = .ok (.iload_n 1, 1) := by decide +kernel
theorem dX2_errorOfCities_34 : decode cX2_errorOfCities 34 = .ok (.if_icmp .ge 9, 3) := by decide +kernel
theorem dX2_errorOfCities_37 : decode cX2_errorOfCities 37 = .ok (.iload 4, 2) := by decide +kernel
theorem dX2_errorOfCities_39 : decode cX2_errorOfCities 39 = .ok (.iload_n 3, 1) := by decide +kernel
theorem dX2_errorOfCities_40 : decode cX2_errorOfCities 40 = .ok (.if_icmp .ne 9, 3) := by decide +kernel
theorem dX2_errorOfCities_43 : decode cX2_errorOfCities 43 = .ok (.iload_n 2, 1) := by decide +kernel
theorem dX2_errorOfCities_44 : decode cX2_errorOfCities 44 = .ok (.iconst 1, 1) := by decide +kernel
theorem dX2_errorOfCities_45 : decode cX2_errorOfCities 45 = .ok (.iadd, 1) := by decide +kernel
theorem dX2_errorOfCities_46 : decode cX2_errorOfCities 46 = .ok (.goto 5, 3) := by decide +kernel
theorem dX2_errorOfCities_49 : decode cX2_errorOfCities 49 = .ok (.bipush (-9), 2) := by decide +kernel
theorem dX2_errorOfCities_51 : decode cX2_errorOfCities 51 = .ok (.ireturn, 1) := by decide +kernel
theorem dX2_holds_0 : decode cX2_holds 0 = .ok (.iload_n 1, 1) := by decide +kernel
theorem dX2_holds_1 : decode cX2_holds 1 = .ok (.ifCond .lt 27, 3) := by decide +kernel
theorem dX2_holds_4 : decode cX2_holds 4 = .ok (.iload_n 1, 1) := by decide +kernel
theorem dX2_holds_5 : decode cX2_holds 5 = .ok (.aload_n 0, 1) := by decide +kernel
theorem dX2_holds_6 : decode cX2_holds 6 = .ok (.getfield 15, 3) := by decide +kernel
theorem dX2_holds_9 : decode cX2_holds 9 = .ok (.if_icmp .ge 19, 3) := by decide +kernel
theorem dX2_holds_12 : decode cX2_holds 12 = .ok (.aload_n 0, 1) := by decide +kernel
theorem dX2_holds_13 : decode cX2_holds 13 = .ok (.getfield 9, 3) := by decide +kernel
theorem dX2_holds_16 : decode cX2_holds 16 = .ok (.iload_n 1, 1) := by decide +kernel
theorem dX2_holds_17 : decode cX2_holds 17 = .ok (.invokestatic 81, 3) := by decide +kernel
theorem dX2_holds_20 : decode cX2_holds 20 = .ok (.iload_n 2, 1) := by decide +kernel
theorem dX2_holds_21 : decode cX2_holds 21 = .ok (.if_icmp .ne 7, 3) := by decide +kernel
theorem dX2_holds_24 : decode cX2_holds 24 = .ok (.iconst 1, 1) := by decide +kernel
theorem dX2_holds_25 : decode cX2_holds 25 = .ok (.goto 4, 3) := by decide +kernel
theorem dX2_holds_28 : decode cX2_holds 28 = .ok (.iconst 0, 1) := by decide +kernel
theorem dX2_holds_29 : decode cX2_holds 29 = .ok (.ireturn, 1) := by decide +kernel
theorem dX2_digitAt_0 : decode cX2_digitAt 0 = .ok (.iload_n 1, 1) := by decide +kernel
theorem dX2_digitAt_1 : decode cX2_digitAt 1 = .ok (.ifCond .lt 11, 3) := by decide +kernel
theorem dX2_digitAt_4 : decode cX2_digitAt 4 = .ok (.iload_n 1, 1) := by decide +kernel
theorem dX2_digitAt_5 : decode cX2_digitAt 5 = .ok (.aload_n 0, 1) := by decide +kernel
theorem dX2_digitAt_6 : decode cX2_digitAt 6 = .ok (.getfield 15, 3) := by decide +kernel
theorem dX2_digitAt_9 : decode cX2_digitAt 9 = .ok (.if_icmp .lt 5, 3) := by decide +kernel
theorem dX2_digitAt_12 : decode cX2_digitAt 12 = .ok (.iconst (-1), 1) := by decide +kernel
theorem dX2_digitAt_13 : decode cX2_digitAt 13 = .ok (.ireturn, 1) := by decide +kernel
theorem dX2_digitAt_14 : decode cX2_digitAt 14 = .ok (.aload_n 0, 1) := by decide +kernel
theorem dX2_digitAt_15 : decode cX2_digitAt 15 = .ok (.getfield 9, 3) := by decide +kernel
theorem dX2_digitAt_18 : decode cX2_digitAt 18 = .ok (.iload_n 1, 1) := by decide +kernel
theorem dX2_digitAt_19 : decode cX2_digitAt 19 = .ok (.invokestatic 81, 3) := by decide +kernel
theorem dX2_digitAt_22 : decode cX2_digitAt 22 = .ok (.istore_n 2, 1) := by decide +kernel
theorem dX2_digitAt_23 : decode cX2_digitAt 23 = .ok (.iload_n 2, 1) := by decide +kernel
theorem dX2_digitAt_24 : decode cX2_digitAt 24 = .ok (.bipush 48, 2) := by decide +kernel
theorem dX2_digitAt_26 : decode cX2_digitAt 26 = .ok (.if_icmp .lt 16, 3) := by decide +kernel
theorem dX2_digitAt_29 : decode cX2_digitAt 29 = .ok (.iload_n 2, 1) := by decide +kernel
theorem dX2_digitAt_30 : decode cX2_digitAt 30 = .ok (.bipush 57, 2) := by decide +kernel
theorem dX2_digitAt_32 : decode cX2_digitAt 32 = .ok (.if_icmp .gt 10, 3) := by decide +kernel
theorem dX2_digitAt_35 : decode cX2_digitAt 35 = .ok (.iload_n 2, 1) := by decide +kernel
theorem dX2_digitAt_36 : decode cX2_digitAt 36 = .ok (.bipush 48, 2) := by decide +kernel
theorem dX2_digitAt_38 : decode cX2_digitAt 38 = .ok (.isub, 1) := by decide +kernel
theorem dX2_digitAt_39 : decode cX2_digitAt 39 = .ok (.goto 4, 3) := by decide +kernel
theorem dX2_digitAt_42 : decode cX2_digitAt 42 = .ok (.iconst (-1), 1) := by decide +kernel
theorem dX2_digitAt_43 : decode cX2_digitAt 43 = .ok (.ireturn, 1) := by decide +kernel
theorem dX3_init_0 : decode cX3_init 0 = .ok (.aload_n 0, 1) := by decide +kernel
theorem dX3_init_1 : decode cX3_init 1 = .ok (.invokespecial 3, 3) := by decide +kernel
theorem dX3_init_4 : decode cX3_init 4 = .ok (.aload_n 0, 1) := by decide +kernel
theorem dX3_init_5 : decode cX3_init 5 = .ok (.bipush 14, 2) := by decide +kernel
theorem dX3_init_7 : decode cX3_init 7 = .ok (.anewarray 9, 3) := by decide +kernel
theorem dX3_init_10 : decode cX3_init 10 = .ok (.putfield 11, 3) := by decide +kernel
theorem dX3_init_13 : decode cX3_init 13 = .ok (.iconst 0, 1) := by decide +kernel
theorem dX3_init_14 : decode cX3_init 14 = .ok (.istore_n 1, 1) := by decide +kernel
theorem dX3_init_15 : decode cX3_init 15 = .ok (.iload_n 1, 1) := by decide +kernel
theorem dX3_init_16 : decode cX3_init 16 = .ok (.bipush 14, 2) := by decide +kernel
theorem dX3_init_18 : decode cX3_init 18 = .ok (.if_icmp .ge 22, 3) := by decide +kernel
theorem dX3_init_21 : decode cX3_init 21 = .ok (.aload_n 0, 1) := by decide +kernel
theorem dX3_init_22 : decode cX3_init 22 = .ok (.getfield 11, 3) := by decide +kernel
theorem dX3_init_25 : decode cX3_init 25 = .ok (.iload_n 1, 1) := by decide +kernel
theorem dX3_init_26 : decode cX3_init 26 = .ok (.new 9, 3) := by decide +kernel
theorem dX3_init_29 : decode cX3_init 29 = .ok (.dup, 1) := by decide +kernel
theorem dX3_init_30 : decode cX3_init 30 = .ok (.invokespecial 17, 3) := by decide +kernel
theorem dX3_init_33 : decode cX3_init 33 = .ok (.aastore, 1) := by decide +kernel
theorem dX3_init_34 : decode cX3_init 34 = .ok (.iinc 1 1, 3) := by decide +kernel
theorem dX3_init_37 : decode cX3_init 37 = .ok (.goto (-22), 3) := by decide +kernel
theorem dX3_init_40 : decode cX3_init 40 = .ok (.return_, 1) := by decide +kernel
theorem dX3_remember_0 : decode cX3_remember 0 = .ok (.aload_n 1, 1) := by decide +kernel
theorem dX3_remember_1 : decode cX3_remember 1 = .ok (.aload_n 0, 1) := by decide +kernel
theorem dX3_remember_2 : decode cX3_remember 2 = .ok (.aload_n 0, 1) := by decide +kernel
theorem dX3_remember_3 : decode cX3_remember 3 = .ok (.getfield 18, 3) := by decide +kernel
theorem dX3_remember_6 : decode cX3_remember 6 = .ok (.invokevirtual 22, 3) := by decide +kernel
theorem dX3_remember_9 : decode cX3_remember 9 = .ok (.invokestatic 26, 3) := by decide +kernel
theorem dX3_remember_12 : decode cX3_remember 12 = .ok (.aload_n 0, 1) := by decide +kernel
theorem dX3_remember_13 : decode cX3_remember 13 = .ok (.getfield 18, 3) := by decide +kernel
theorem dX3_remember_16 : decode cX3_remember 16 = .ok (.bipush 14, 2) := by decide +kernel
theorem dX3_remember_18 : decode cX3_remember 18 = .ok (.if_icmp .ge 16, 3) := by decide +kernel
theorem dX3_remember_21 : decode cX3_remember 21 = .ok (.aload_n 0, 1) := by decide +kernel
theorem dX3_remember_22 : decode cX3_remember 22 = .ok (.dup, 1) := by decide +kernel
theorem dX3_remember_23 : decode cX3_remember 23 = .ok (.getfield 18, 3) := by decide +kernel
theorem dX3_remember_26 : decode cX3_remember 26 = .ok (.iconst 1, 1) := by decide +kernel
theorem dX3_remember_27 : decode cX3_remember 27 = .ok (.iadd, 1) := by decide +kernel
theorem dX3_remember_28 : decode cX3_remember 28 = .ok (.putfield 18, 3) := by decide +kernel
theorem dX3_remember_31 : decode cX3_remember 31 = .ok (.goto 16, 3) := by decide +kernel
theorem dX3_remember_34 : decode cX3_remember 34 = .ok (.aload_n 0, 1) := by decide +kernel
theorem dX3_remember_35 : decode cX3_remember 35 = .ok (.aload_n 0, 1) := by decide +kernel
theorem dX3_remember_36 : decode cX3_remember 36 = .ok (.getfield 30, 3) := by decide +kernel
theorem dX3_remember_39 : decode cX3_remember 39 = .ok (.iconst 1, 1) := by decide +kernel
theorem dX3_remember_40 : decode cX3_remember 40 = .ok (.iadd, 1) := by decide +kernel
theorem dX3_remember_41 : decode cX3_remember 41 = .ok (.bipush 14, 2) := by decide +kernel
theorem dX3_remember_43 : decode cX3_remember 43 = .ok (.irem, 1) := by decide +kernel
theorem dX3_remember_44 : decode cX3_remember 44 = .ok (.putfield 30, 3) := by decide +kernel
theorem dX3_remember_47 : decode cX3_remember 47 = .ok (.return_, 1) := by decide +kernel
theorem dX3_takeBackInto_0 : decode cX3_takeBackInto 0 = .ok (.aload_n 0, 1) := by decide +kernel
theorem dX3_takeBackInto_1 : decode cX3_takeBackInto 1 = .ok (.getfield 18, 3) := by decide +kernel
theorem dX3_takeBackInto_4 : decode cX3_takeBackInto 4 = .ok (.ifCond .le 25, 3) := by decide +kernel
theorem dX3_takeBackInto_7 : decode cX3_takeBackInto 7 = .ok (.aload_n 0, 1) := by decide +kernel
theorem dX3_takeBackInto_8 : decode cX3_takeBackInto 8 = .ok (.dup, 1) := by decide +kernel
theorem dX3_takeBackInto_9 : decode cX3_takeBackInto 9 = .ok (.getfield 18, 3) := by decide +kernel
theorem dX3_takeBackInto_12 : decode cX3_takeBackInto 12 = .ok (.iconst 1, 1) := by decide +kernel
theorem dX3_takeBackInto_13 : decode cX3_takeBackInto 13 = .ok (.isub, 1) := by decide +kernel
theorem dX3_takeBackInto_14 : decode cX3_takeBackInto 14 = .ok (.putfield 18, 3) := by decide +kernel
theorem dX3_takeBackInto_17 : decode cX3_takeBackInto 17 = .ok (.aload_n 0, 1) := by decide +kernel
theorem dX3_takeBackInto_18 : decode cX3_takeBackInto 18 = .ok (.aload_n 0, 1) := by decide +kernel
theorem dX3_takeBackInto_19 : decode cX3_takeBackInto 19 = .ok (.getfield 18, 3) := by decide +kernel
theorem dX3_takeBackInto_22 : decode cX3_takeBackInto 22 = .ok (.invokevirtual 22, 3) := by decide +kernel
theorem dX3_takeBackInto_25 : decode cX3_takeBackInto 25 = .ok (.aload_n 1, 1) := by decide +kernel
theorem dX3_takeBackInto_26 : decode cX3_takeBackInto 26 = .ok (.invokestatic 26, 3) := by decide +kernel
theorem dX3_takeBackInto_29 : decode cX3_takeBackInto 29 = .ok (.return_, 1) := by decide +kernel
theorem dX3_forget_0 : decode cX3_forget 0 = .ok (.aload_n 0, 1) := by decide +kernel
theorem dX3_forget_1 : decode cX3_forget 1 = .ok (.iconst 0, 1) := by decide +kernel
theorem dX3_forget_2 : decode cX3_forget 2 = .ok (.putfield 18, 3) := by decide +kernel
theorem dX3_forget_5 : decode cX3_forget 5 = .ok (.return_, 1) := by decide +kernel
theorem dX3_stateAt_0 : decode cX3_stateAt 0 = .ok (.aload_n 0, 1) := by decide +kernel
theorem dX3_stateAt_1 : decode cX3_stateAt 1 = .ok (.getfield 30, 3) := by decide +kernel
theorem dX3_stateAt_4 : decode cX3_stateAt 4 = .ok (.iload_n 1, 1) := by decide +kernel
theorem dX3_stateAt_5 : decode cX3_stateAt 5 = .ok (.iadd, 1) := by decide +kernel
theorem dX3_stateAt_6 : decode cX3_stateAt 6 = .ok (.bipush 14, 2) := by decide +kernel
theorem dX3_stateAt_8 : decode cX3_stateAt 8 = .ok (.irem, 1) := by decide +kernel
theorem dX3_stateAt_9 : decode cX3_stateAt 9 = .ok (.istore_n 2, 1) := by decide +kernel
theorem dX3_stateAt_10 : decode cX3_stateAt 10 = .ok (.iload_n 2, 1) := by decide +kernel
theorem dX3_stateAt_11 : decode cX3_stateAt 11 = .ok (.ifCond .lt 21, 3) := by decide +kernel
theorem dX3_stateAt_14 : decode cX3_stateAt 14 = .ok (.iload_n 2, 1) := by decide +kernel
theorem dX3_stateAt_15 : decode cX3_stateAt 15 = .ok (.aload_n 0, 1) := by decide +kernel
theorem dX3_stateAt_16 : decode cX3_stateAt 16 = .ok (.getfield 11, 3) := by decide +kernel
theorem dX3_stateAt_19 : decode cX3_stateAt 19 = .ok (.arraylength, 1) := by decide +kernel
theorem dX3_stateAt_20 : decode cX3_stateAt 20 = .ok (.if_icmp .ge 12, 3) := by decide +kernel
theorem dX3_stateAt_23 : decode cX3_stateAt 23 = .ok (.aload_n 0, 1) := by decide +kernel
theorem dX3_stateAt_24 : decode cX3_stateAt 24 = .ok (.getfield 11, 3) := by decide +kernel
theorem dX3_stateAt_27 : decode cX3_stateAt 27 = .ok (.iload_n 2, 1) := by decide +kernel
theorem dX3_stateAt_28 : decode cX3_stateAt 28 = .ok (.aaload, 1) := by decide +kernel
theorem dX3_stateAt_29 : decode cX3_stateAt 29 = .ok (.goto 4, 3) := by decide +kernel
theorem dX3_stateAt_32 : decode cX3_stateAt 32 = .ok (.aconst_null, 1) := by decide +kernel
theorem dX3_stateAt_33 : decode cX3_stateAt 33 = .ok (.areturn, 1) := by decide +kernel
theorem dX4_init_0 : decode cX4_init 0 = .ok (.aload_n 0, 1) := by decide +kernel
theorem dX4_init_1 : decode cX4_init 1 = .ok (.invokespecial 3, 3) := by decide +kernel
theorem dX4_init_4 : decode cX4_init 4 = .ok (.aload_n 0, 1) := by decide +kernel
theorem dX4_init_5 : decode cX4_init 5 = .ok (.new 9, 3) := by decide +kernel
theorem dX4_init_8 : decode cX4_init 8 = .ok (.dup, 1) := by decide +kernel
theorem dX4_init_9 : decode cX4_init 9 = .ok (.invokespecial 11, 3) := by decide +kernel
theorem dX4_init_12 : decode cX4_init 12 = .ok (.putfield 12, 3) := by decide +kernel
theorem dX4_init_15 : decode cX4_init 15 = .ok (.return_, 1) := by decide +kernel
theorem dX4_reasonAgainst_0 : decode cX4_reasonAgainst 0 = .ok (.aload_n 1, 1) := by decide +kernel
theorem dX4_reasonAgainst_1 : decode cX4_reasonAgainst 1 = .ok (.getfield 18, 3) := by decide +kernel
theorem dX4_reasonAgainst_4 : decode cX4_reasonAgainst 4 = .ok (.astore 4, 2) := by decide +kernel
theorem dX4_reasonAgainst_6 : decode cX4_reasonAgainst 6 = .ok (.aload 4, 2) := by decide +kernel
theorem dX4_reasonAgainst_8 : decode cX4_reasonAgainst 8 = .ok (.iload_n 2, 1) := by decide +kernel
theorem dX4_reasonAgainst_9 : decode cX4_reasonAgainst 9 = .ok (.invokevirtual 24, 3) := by decide +kernel
theorem dX4_reasonAgainst_12 : decode cX4_reasonAgainst 12 = .ok (.istore 5, 2) := by decide +kernel
theorem dX4_reasonAgainst_14 : decode cX4_reasonAgainst 14 = .ok (.iload 5, 2) := by decide +kernel
theorem dX4_reasonAgainst_16 : decode cX4_reasonAgainst 16 = .ok (.bipush (-9), 2) := by decide +kernel
theorem dX4_reasonAgainst_18 : decode cX4_reasonAgainst 18 = .ok (.if_icmp .ne 5, 3) := by decide +kernel
theorem dX4_reasonAgainst_21 : decode cX4_reasonAgainst 21 = .ok (.iconst 1, 1) := by decide +kernel
theorem dX4_reasonAgainst_22 : decode cX4_reasonAgainst 22 = .ok (.ireturn, 1) := by decide +kernel
theorem dX4_reasonAgainst_23 : decode cX4_reasonAgainst 23 = .ok (.aload 4, 2) := by decide +kernel
theorem dX4_reasonAgainst_25 : decode cX4_reasonAgainst 25 = .ok (.getfield 30, 3) := by decide +kernel
theorem dX4_reasonAgainst_28 : decode cX4_reasonAgainst 28 = .ok (.iload_n 2, 1) := by decide +kernel
theorem dX4_reasonAgainst_29 : decode cX4_reasonAgainst 29 = .ok (.invokestatic 34, 3) := by decide +kernel
theorem dX4_reasonAgainst_32 : decode cX4_reasonAgainst 32 = .ok (.iconst 1, 1) := by decide +kernel
theorem dX4_reasonAgainst_33 : decode cX4_reasonAgainst 33 = .ok (.if_icmp .ne 5, 3) := by decide +kernel
theorem dX4_reasonAgainst_36 : decode cX4_reasonAgainst 36 = .ok (.iconst 2, 1) := by decide +kernel
theorem dX4_reasonAgainst_37 : decode cX4_reasonAgainst 37 = .ok (.ireturn, 1) := by decide +kernel
theorem dX4_reasonAgainst_38 : decode cX4_reasonAgainst 38 = .ok (.aload_n 1, 1) := by decide +kernel
theorem dX4_reasonAgainst_39 : decode cX4_reasonAgainst 39 = .ok (.getfield 38, 3) := by decide +kernel
theorem dX4_reasonAgainst_42 : decode cX4_reasonAgainst 42 = .ok (.iload 5, 2) := by decide +kernel
theorem dX4_reasonAgainst_44 : decode cX4_reasonAgainst 44 = .ok (.iload_n 3, 1) := by decide +kernel
theorem dX4_reasonAgainst_45 : decode cX4_reasonAgainst 45 = .ok (.invokevirtual 42, 3) := by decide +kernel
theorem dX4_reasonAgainst_48 : decode cX4_reasonAgainst 48 = .ok (.ifCond .eq 5, 3) := by decide +kernel
theorem dX4_reasonAgainst_51 : decode cX4_reasonAgainst 51 = .ok (.iconst 3, 1) := by decide +kernel
theorem dX4_reasonAgainst_52 : decode cX4_reasonAgainst 52 = .ok (.ireturn, 1) := by decide +kernel
theorem dX4_reasonAgainst_53 : decode cX4_reasonAgainst 53 = .ok (.iconst 4, 1) := by decide +kernel
theorem dX4_reasonAgainst_54 : decode cX4_reasonAgainst 54 = .ok (.aload_n 1, 1) := by decide +kernel
theorem dX4_reasonAgainst_55 : decode cX4_reasonAgainst 55 = .ok (.getfield 38, 3) := by decide +kernel
theorem dX4_reasonAgainst_58 : decode cX4_reasonAgainst 58 = .ok (.iload 5, 2) := by decide +kernel
theorem dX4_reasonAgainst_60 : decode cX4_reasonAgainst 60 = .ok (.iload_n 3, 1) := by decide +kernel
theorem dX4_reasonAgainst_61 : decode cX4_reasonAgainst 61 = .ok (.invokevirtual 48, 3) := by decide +kernel
theorem dX4_reasonAgainst_64 : decode cX4_reasonAgainst 64 = .ok (.imul, 1) := by decide +kernel
theorem dX4_reasonAgainst_65 : decode cX4_reasonAgainst 65 = .ok (.istore 6, 2) := by decide +kernel
theorem dX4_reasonAgainst_67 : decode cX4_reasonAgainst 67 = .ok (.aload_n 0, 1) := by decide +kernel
theorem dX4_reasonAgainst_68 : decode cX4_reasonAgainst 68 = .ok (.getfield 12, 3) := by decide +kernel
theorem dX4_reasonAgainst_71 : decode cX4_reasonAgainst 71 = .ok (.aload_n 1, 1) := by decide +kernel
theorem dX4_reasonAgainst_72 : decode cX4_reasonAgainst 72 = .ok (.iload 5, 2) := by decide +kernel
theorem dX4_reasonAgainst_74 : decode cX4_reasonAgainst 74 = .ok (.aload 4, 2) := by decide +kernel
theorem dX4_reasonAgainst_76 : decode cX4_reasonAgainst 76 = .ok (.getfield 52, 3) := by decide +kernel
theorem dX4_reasonAgainst_79 : decode cX4_reasonAgainst 79 = .ok (.iload_n 2, 1) := by decide +kernel
theorem dX4_reasonAgainst_80 : decode cX4_reasonAgainst 80 = .ok (.invokestatic 34, 3) := by decide +kernel
theorem dX4_reasonAgainst_83 : decode cX4_reasonAgainst 83 = .ok (.aload 4, 2) := by decide +kernel
theorem dX4_reasonAgainst_85 : decode cX4_reasonAgainst 85 = .ok (.getfield 55, 3) := by decide +kernel
theorem dX4_reasonAgainst_88 : decode cX4_reasonAgainst 88 = .ok (.iload_n 2, 1) := by decide +kernel
theorem dX4_reasonAgainst_89 : decode cX4_reasonAgainst 89 = .ok (.invokestatic 34, 3) := by decide +kernel
theorem dX4_reasonAgainst_92 : decode cX4_reasonAgainst 92 = .ok (.iload 6, 2) := by decide +kernel
theorem dX4_reasonAgainst_94 : decode cX4_reasonAgainst 94 = .ok (.invokevirtual 58, 3) := by decide +kernel
theorem dX4_reasonAgainst_97 : decode cX4_reasonAgainst 97 = .ok (.ifCond .eq 7, 3) := by decide +kernel
theorem dX4_reasonAgainst_100 : decode cX4_reasonAgainst 100 = .ok (.iconst 0, 1) := by decide +kernel
theorem dX4_reasonAgainst_101 : decode cX4_reasonAgainst 101 = .ok (.goto 4, 3) := by decide +kernel
theorem dX4_reasonAgainst_104 : decode cX4_reasonAgainst 104 = .ok (.iconst 4, 1) := by decide +kernel
theorem dX4_reasonAgainst_105 : decode cX4_reasonAgainst 105 = .ok (.ireturn, 1) := by decide +kernel
theorem dX4_carry_0 : decode cX4_carry 0 = .ok (.aload_n 1, 1) := by decide +kernel
theorem dX4_carry_1 : decode cX4_carry 1 = .ok (.getfield 18, 3) := by decide +kernel
theorem dX4_carry_4 : decode cX4_carry 4 = .ok (.astore 4, 2) := by decide +kernel
theorem dX4_carry_6 : decode cX4_carry 6 = .ok (.aload 4, 2) := by decide +kernel
theorem dX4_carry_8 : decode cX4_carry 8 = .ok (.iload_n 2, 1) := by decide +kernel
theorem dX4_carry_9 : decode cX4_carry 9 = .ok (.invokevirtual 24, 3) := by decide +kernel
theorem dX4_carry_12 : decode cX4_carry 12 = .ok (.istore 5, 2) := by decide +kernel
theorem dX4_carry_14 : decode cX4_carry 14 = .ok (.iconst 4, 1) := by decide +kernel
theorem dX4_carry_15 : decode cX4_carry 15 = .ok (.aload_n 1, 1) := by decide +kernel
theorem dX4_carry_16 : decode cX4_carry 16 = .ok (.getfield 38, 3) := by decide +kernel
theorem dX4_carry_19 : decode cX4_carry 19 = .ok (.iload 5, 2) := by decide +kernel
theorem dX4_carry_21 : decode cX4_carry 21 = .ok (.iload_n 3, 1) := by decide +kernel
theorem dX4_carry_22 : decode cX4_carry 22 = .ok (.invokevirtual 48, 3) := by decide +kernel
theorem dX4_carry_25 : decode cX4_carry 25 = .ok (.imul, 1) := by decide +kernel
theorem dX4_carry_26 : decode cX4_carry 26 = .ok (.istore 6, 2) := by decide +kernel
theorem dX4_carry_28 : decode cX4_carry 28 = .ok (.aload_n 0, 1) := by decide +kernel
theorem dX4_carry_29 : decode cX4_carry 29 = .ok (.getfield 12, 3) := by decide +kernel
theorem dX4_carry_32 : decode cX4_carry 32 = .ok (.aload_n 1, 1) := by decide +kernel
theorem dX4_carry_33 : decode cX4_carry 33 = .ok (.iload 5, 2) := by decide +kernel
theorem dX4_carry_35 : decode cX4_carry 35 = .ok (.aload 4, 2) := by decide +kernel
theorem dX4_carry_37 : decode cX4_carry 37 = .ok (.getfield 52, 3) := by decide +kernel
theorem dX4_carry_40 : decode cX4_carry 40 = .ok (.iload_n 2, 1) := by decide +kernel
theorem dX4_carry_41 : decode cX4_carry 41 = .ok (.invokestatic 34, 3) := by decide +kernel
theorem dX4_carry_44 : decode cX4_carry 44 = .ok (.aload 4, 2) := by decide +kernel
theorem dX4_carry_46 : decode cX4_carry 46 = .ok (.getfield 55, 3) := by decide +kernel
theorem dX4_carry_49 : decode cX4_carry 49 = .ok (.iload_n 2, 1) := by decide +kernel
theorem dX4_carry_50 : decode cX4_carry 50 = .ok (.invokestatic 34, 3) := by decide +kernel
theorem dX4_carry_53 : decode cX4_carry 53 = .ok (.iload 6, 2) := by decide +kernel
theorem dX4_carry_55 : decode cX4_carry 55 = .ok (.invokevirtual 58, 3) := by decide +kernel
theorem dX4_carry_58 : decode cX4_carry 58 = .ok (.pop, 1) := by decide +kernel
theorem dX4_carry_59 : decode cX4_carry 59 = .ok (.iconst 0, 1) := by decide +kernel
theorem dX4_carry_60 : decode cX4_carry 60 = .ok (.istore 7, 2) := by decide +kernel
theorem dX4_carry_62 : decode cX4_carry 62 = .ok (.iload 7, 2) := by decide +kernel
theorem dX4_carry_64 : decode cX4_carry 64 = .ok (.aload_n 0, 1) := by decide +kernel
theorem dX4_carry_65 : decode cX4_carry 65 = .ok (.getfield 12, 3) := by decide +kernel
theorem dX4_carry_68 : decode cX4_carry 68 = .ok (.getfield 62, 3) := by decide +kernel
theorem dX4_carry_71 : decode cX4_carry 71 = .ok (.if_icmp .ge 56, 3) := by decide +kernel
theorem dX4_carry_74 : decode cX4_carry 74 = .ok (.aload_n 0, 1) := by decide +kernel
theorem dX4_carry_75 : decode cX4_carry 75 = .ok (.getfield 12, 3) := by decide +kernel
theorem dX4_carry_78 : decode cX4_carry 78 = .ok (.getfield 66, 3) := by decide +kernel
theorem dX4_carry_81 : decode cX4_carry 81 = .ok (.iload 7, 2) := by decide +kernel
theorem dX4_carry_83 : decode cX4_carry 83 = .ok (.invokestatic 34, 3) := by decide +kernel
theorem dX4_carry_86 : decode cX4_carry 86 = .ok (.istore 8, 2) := by decide +kernel
theorem dX4_carry_88 : decode cX4_carry 88 = .ok (.aload_n 1, 1) := by decide +kernel
theorem dX4_carry_89 : decode cX4_carry 89 = .ok (.getfield 38, 3) := by decide +kernel
theorem dX4_carry_92 : decode cX4_carry 92 = .ok (.iload 5, 2) := by decide +kernel
theorem dX4_carry_94 : decode cX4_carry 94 = .ok (.aload_n 1, 1) := by decide +kernel
theorem dX4_carry_95 : decode cX4_carry 95 = .ok (.getfield 69, 3) := by decide +kernel
theorem dX4_carry_98 : decode cX4_carry 98 = .ok (.getfield 73, 3) := by decide +kernel
theorem dX4_carry_101 : decode cX4_carry 101 = .ok (.iload 8, 2) := by decide +kernel
theorem dX4_carry_103 : decode cX4_carry 103 = .ok (.invokestatic 34, 3) := by decide +kernel
theorem dX4_carry_106 : decode cX4_carry 106 = .ok (.aload_n 0, 1) := by decide +kernel
theorem dX4_carry_107 : decode cX4_carry 107 = .ok (.getfield 12, 3) := by decide +kernel
theorem dX4_carry_110 : decode cX4_carry 110 = .ok (.getfield 78, 3) := by decide +kernel
theorem dX4_carry_113 : decode cX4_carry 113 = .ok (.iload 8, 2) := by decide +kernel
theorem dX4_carry_115 : decode cX4_carry 115 = .ok (.invokestatic 34, 3) := by decide +kernel
theorem dX4_carry_118 : decode cX4_carry 118 = .ok (.invokevirtual 81, 3) := by decide +kernel
theorem dX4_carry_121 : decode cX4_carry 121 = .ok (.iinc 7 1, 3) := by decide +kernel
theorem dX4_carry_124 : decode cX4_carry 124 = .ok (.goto (-62), 3) := by decide +kernel
theorem dX4_carry_127 : decode cX4_carry 127 = .ok (.aload_n 1, 1) := by decide +kernel
theorem dX4_carry_128 : decode cX4_carry 128 = .ok (.iload 5, 2) := by decide +kernel
theorem dX4_carry_130 : decode cX4_carry 130 = .ok (.aload 4, 2) := by decide +kernel
theorem dX4_carry_132 : decode cX4_carry 132 = .ok (.getfield 85, 3) := by decide +kernel
theorem dX4_carry_135 : decode cX4_carry 135 = .ok (.iload_n 2, 1) := by decide +kernel
theorem dX4_carry_136 : decode cX4_carry 136 = .ok (.invokestatic 34, 3) := by decide +kernel
theorem dX4_carry_139 : decode cX4_carry 139 = .ok (.invokevirtual 88, 3) := by decide +kernel
theorem dX4_carry_142 : decode cX4_carry 142 = .ok (.aload 4, 2) := by decide +kernel
theorem dX4_carry_144 : decode cX4_carry 144 = .ok (.getfield 30, 3) := by decide +kernel
theorem dX4_carry_147 : decode cX4_carry 147 = .ok (.iload_n 2, 1) := by decide +kernel
theorem dX4_carry_148 : decode cX4_carry 148 = .ok (.iconst 1, 1) := by decide +kernel
theorem dX4_carry_149 : decode cX4_carry 149 = .ok (.invokestatic 92, 3) := by decide +kernel
theorem dX4_carry_152 : decode cX4_carry 152 = .ok (.aload_n 1, 1) := by decide +kernel
theorem dX4_carry_153 : decode cX4_carry 153 = .ok (.getfield 38, 3) := by decide +kernel
theorem dX4_carry_156 : decode cX4_carry 156 = .ok (.iload 5, 2) := by decide +kernel
theorem dX4_carry_158 : decode cX4_carry 158 = .ok (.iload_n 3, 1) := by decide +kernel
theorem dX4_carry_159 : decode cX4_carry 159 = .ok (.invokevirtual 96, 3) := by decide +kernel
theorem dX4_carry_162 : decode cX4_carry 162 = .ok (.aload_n 0, 1) := by decide +kernel
theorem dX4_carry_163 : decode cX4_carry 163 = .ok (.getfield 12, 3) := by decide +kernel
theorem dX4_carry_166 : decode cX4_carry 166 = .ok (.getfield 99, 3) := by decide +kernel
theorem dX4_carry_169 : decode cX4_carry 169 = .ok (.ireturn, 1) := by decide +kernel
theorem dX4_tryCarry_0 : decode cX4_tryCarry 0 = .ok (.aload_n 1, 1) := by decide +kernel
theorem dX4_tryCarry_1 : decode cX4_tryCarry 1 = .ok (.getfield 38, 3) := by decide +kernel
theorem dX4_tryCarry_4 : decode cX4_tryCarry 4 = .ok (.aload_n 1, 1) := by decide +kernel
theorem dX4_tryCarry_5 : decode cX4_tryCarry 5 = .ok (.getfield 18, 3) := by decide +kernel
theorem dX4_tryCarry_8 : decode cX4_tryCarry 8 = .ok (.iload_n 2, 1) := by decide +kernel
theorem dX4_tryCarry_9 : decode cX4_tryCarry 9 = .ok (.invokevirtual 24, 3) := by decide +kernel
theorem dX4_tryCarry_12 : decode cX4_tryCarry 12 = .ok (.iload_n 3, 1) := by decide +kernel
theorem dX4_tryCarry_13 : decode cX4_tryCarry 13 = .ok (.invokevirtual 102, 3) := by decide +kernel
theorem dX4_tryCarry_16 : decode cX4_tryCarry 16 = .ok (.ifCond .eq 17, 3) := by decide +kernel
theorem dX4_tryCarry_19 : decode cX4_tryCarry 19 = .ok (.aload_n 0, 1) := by decide +kernel
theorem dX4_tryCarry_20 : decode cX4_tryCarry 20 = .ok (.aload_n 1, 1) := by decide +kernel
theorem dX4_tryCarry_21 : decode cX4_tryCarry 21 = .ok (.iload_n 2, 1) := by decide +kernel
theorem dX4_tryCarry_22 : decode cX4_tryCarry 22 = .ok (.iload_n 3, 1) := by decide +kernel
theorem dX4_tryCarry_23 : decode cX4_tryCarry 23 = .ok (.invokevirtual 105, 3) := by decide +kernel
theorem dX4_tryCarry_26 : decode cX4_tryCarry 26 = .ok (.ifCond .ne 7, 3) := by decide +kernel
theorem dX4_tryCarry_29 : decode cX4_tryCarry 29 = .ok (.iconst 1, 1) := by decide +kernel
theorem dX4_tryCarry_30 : decode cX4_tryCarry 30 = .ok (.goto 4, 3) := by decide +kernel
theorem dX4_tryCarry_33 : decode cX4_tryCarry 33 = .ok (.iconst 0, 1) := by decide +kernel
theorem dX4_tryCarry_34 : decode cX4_tryCarry 34 = .ok (.istore 4, 2) := by decide +kernel
theorem dX4_tryCarry_36 : decode cX4_tryCarry 36 = .ok (.iload 4, 2) := by decide +kernel
theorem dX4_tryCarry_38 : decode cX4_tryCarry 38 = .ok (.ifCond .eq 11, 3) := by decide +kernel
theorem dX4_tryCarry_41 : decode cX4_tryCarry 41 = .ok (.aload_n 0, 1) := by decide +kernel
theorem dX4_tryCarry_42 : decode cX4_tryCarry 42 = .ok (.aload_n 1, 1) := by decide +kernel
theorem dX4_tryCarry_43 : decode cX4_tryCarry 43 = .ok (.iload_n 2, 1) := by decide +kernel
theorem dX4_tryCarry_44 : decode cX4_tryCarry 44 = .ok (.iload_n 3, 1) := by decide +kernel
theorem dX4_tryCarry_45 : decode cX4_tryCarry 45 = .ok (.invokevirtual 109, 3) := by decide +kernel
theorem dX4_tryCarry_48 : decode cX4_tryCarry 48 = .ok (.pop, 1) := by decide +kernel
theorem dX4_tryCarry_49 : decode cX4_tryCarry 49 = .ok (.iload 4, 2) := by decide +kernel
theorem dX4_tryCarry_51 : decode cX4_tryCarry 51 = .ok (.ireturn, 1) := by decide +kernel
theorem dX4_carryAll_0 : decode cX4_carryAll 0 = .ok (.iconst 0, 1) := by decide +kernel
theorem dX4_carryAll_1 : decode cX4_carryAll 1 = .ok (.istore_n 2, 1) := by decide +kernel
theorem dX4_carryAll_2 : decode cX4_carryAll 2 = .ok (.iload_n 2, 1) := by decide +kernel
theorem dX4_carryAll_3 : decode cX4_carryAll 3 = .ok (.aload_n 1, 1) := by decide +kernel
theorem dX4_carryAll_4 : decode cX4_carryAll 4 = .ok (.getfield 18, 3) := by decide +kernel
theorem dX4_carryAll_7 : decode cX4_carryAll 7 = .ok (.getfield 112, 3) := by decide +kernel
theorem dX4_carryAll_10 : decode cX4_carryAll 10 = .ok (.if_icmp .ge 35, 3) := by decide +kernel
theorem dX4_carryAll_13 : decode cX4_carryAll 13 = .ok (.iconst 0, 1) := by decide +kernel
theorem dX4_carryAll_14 : decode cX4_carryAll 14 = .ok (.istore_n 3, 1) := by decide +kernel
theorem dX4_carryAll_15 : decode cX4_carryAll 15 = .ok (.iload_n 3, 1) := by decide +kernel
theorem dX4_carryAll_16 : decode cX4_carryAll 16 = .ok (.iconst 4, 1) := by decide +kernel
theorem dX4_carryAll_17 : decode cX4_carryAll 17 = .ok (.if_icmp .ge 22, 3) := by decide +kernel
theorem dX4_carryAll_20 : decode cX4_carryAll 20 = .ok (.aload_n 0, 1) := by decide +kernel
theorem dX4_carryAll_21 : decode cX4_carryAll 21 = .ok (.aload_n 1, 1) := by decide +kernel
theorem dX4_carryAll_22 : decode cX4_carryAll 22 = .ok (.iload_n 2, 1) := by decide +kernel
theorem dX4_carryAll_23 : decode cX4_carryAll 23 = .ok (.iload_n 3, 1) := by decide +kernel
theorem dX4_carryAll_24 : decode cX4_carryAll 24 = .ok (.invokevirtual 113, 3) := by decide +kernel
theorem dX4_carryAll_27 : decode cX4_carryAll 27 = .ok (.ifCond .eq 6, 3) := by decide +kernel
theorem dX4_carryAll_30 : decode cX4_carryAll 30 = .ok (.goto 9, 3) := by decide +kernel
theorem dX4_carryAll_33 : decode cX4_carryAll 33 = .ok (.iinc 3 1, 3) := by decide +kernel
theorem dX4_carryAll_36 : decode cX4_carryAll 36 = .ok (.goto (-21), 3) := by decide +kernel
theorem dX4_carryAll_39 : decode cX4_carryAll 39 = .ok (.iinc 2 1, 3) := by decide +kernel
theorem dX4_carryAll_42 : decode cX4_carryAll 42 = .ok (.goto (-40), 3) := by decide +kernel
theorem dX4_carryAll_45 : decode cX4_carryAll 45 = .ok (.return_, 1) := by decide +kernel
theorem dX4_smallestLevel_0 : decode cX4_smallestLevel 0 = .ok (.aload_n 1, 1) := by decide +kernel
theorem dX4_smallestLevel_1 : decode cX4_smallestLevel 1 = .ok (.getfield 18, 3) := by decide +kernel
theorem dX4_smallestLevel_4 : decode cX4_smallestLevel 4 = .ok (.astore 4, 2) := by decide +kernel
theorem dX4_smallestLevel_6 : decode cX4_smallestLevel 6 = .ok (.iconst 1, 1) := by decide +kernel
theorem dX4_smallestLevel_7 : decode cX4_smallestLevel 7 = .ok (.istore 5, 2) := by decide +kernel
theorem dX4_smallestLevel_9 : decode cX4_smallestLevel 9 = .ok (.iload 5, 2) := by decide +kernel
theorem dX4_smallestLevel_11 : decode cX4_smallestLevel 11 = .ok (.bipush 6, 2) := by decide +kernel
theorem dX4_smallestLevel_13 : decode cX4_smallestLevel 13 = .ok (.if_icmp .gt 46, 3) := by decide +kernel
theorem dX4_smallestLevel_16 : decode cX4_smallestLevel 16 = .ok (.aload_n 0, 1) := by decide +kernel
theorem dX4_smallestLevel_17 : decode cX4_smallestLevel 17 = .ok (.getfield 12, 3) := by decide +kernel
theorem dX4_smallestLevel_20 : decode cX4_smallestLevel 20 = .ok (.aload_n 1, 1) := by decide +kernel
theorem dX4_smallestLevel_21 : decode cX4_smallestLevel 21 = .ok (.iload_n 2, 1) := by decide +kernel
theorem dX4_smallestLevel_22 : decode cX4_smallestLevel 22 = .ok (.aload 4, 2) := by decide +kernel
theorem dX4_smallestLevel_24 : decode cX4_smallestLevel 24 = .ok (.getfield 52, 3) := by decide +kernel
theorem dX4_smallestLevel_27 : decode cX4_smallestLevel 27 = .ok (.iload_n 3, 1) := by decide +kernel
theorem dX4_smallestLevel_28 : decode cX4_smallestLevel 28 = .ok (.invokestatic 34, 3) := by decide +kernel
theorem dX4_smallestLevel_31 : decode cX4_smallestLevel 31 = .ok (.aload 4, 2) := by decide +kernel
theorem dX4_smallestLevel_33 : decode cX4_smallestLevel 33 = .ok (.getfield 55, 3) := by decide +kernel
theorem dX4_smallestLevel_36 : decode cX4_smallestLevel 36 = .ok (.iload_n 3, 1) := by decide +kernel
theorem dX4_smallestLevel_37 : decode cX4_smallestLevel 37 = .ok (.invokestatic 34, 3) := by decide +kernel
theorem dX4_smallestLevel_40 : decode cX4_smallestLevel 40 = .ok (.iconst 4, 1) := by decide +kernel
theorem dX4_smallestLevel_41 : decode cX4_smallestLevel 41 = .ok (.iload 5, 2) := by decide +kernel
theorem dX4_smallestLevel_43 : decode cX4_smallestLevel 43 = .ok (.imul, 1) := by decide +kernel
theorem dX4_smallestLevel_44 : decode cX4_smallestLevel 44 = .ok (.invokevirtual 58, 3) := by decide +kernel
theorem dX4_smallestLevel_47 : decode cX4_smallestLevel 47 = .ok (.ifCond .eq 6, 3) := by decide +kernel
theorem dX4_smallestLevel_50 : decode cX4_smallestLevel 50 = .ok (.iload 5, 2) := by decide +kernel
theorem dX4_smallestLevel_52 : decode cX4_smallestLevel 52 = .ok (.ireturn, 1) := by decide +kernel
theorem dX4_smallestLevel_53 : decode cX4_smallestLevel 53 = .ok (.iinc 5 1, 3) := by decide +kernel
theorem dX4_smallestLevel_56 : decode cX4_smallestLevel 56 = .ok (.goto (-47), 3) := by decide +kernel
theorem dX4_smallestLevel_59 : decode cX4_smallestLevel 59 = .ok (.bipush (-9), 2) := by decide +kernel
theorem dX4_smallestLevel_61 : decode cX4_smallestLevel 61 = .ok (.ireturn, 1) := by decide +kernel
theorem dX4_bestFree_0 : decode cX4_bestFree 0 = .ok (.aload_n 1, 1) := by decide +kernel
theorem dX4_bestFree_1 : decode cX4_bestFree 1 = .ok (.getfield 18, 3) := by decide +kernel
theorem dX4_bestFree_4 : decode cX4_bestFree 4 = .ok (.astore_n 3, 1) := by decide +kernel
theorem dX4_bestFree_5 : decode cX4_bestFree 5 = .ok (.iconst 4, 1) := by decide +kernel
theorem dX4_bestFree_6 : decode cX4_bestFree 6 = .ok (.aload_n 1, 1) := by decide +kernel
theorem dX4_bestFree_7 : decode cX4_bestFree 7 = .ok (.getfield 38, 3) := by decide +kernel
theorem dX4_bestFree_10 : decode cX4_bestFree 10 = .ok (.iload_n 2, 1) := by decide +kernel
theorem dX4_bestFree_11 : decode cX4_bestFree 11 = .ok (.invokevirtual 117, 3) := by decide +kernel
theorem dX4_bestFree_14 : decode cX4_bestFree 14 = .ok (.imul, 1) := by decide +kernel
theorem dX4_bestFree_15 : decode cX4_bestFree 15 = .ok (.istore 4, 2) := by decide +kernel
theorem dX4_bestFree_17 : decode cX4_bestFree 17 = .ok (.bipush (-9), 2) := by decide +kernel
theorem dX4_bestFree_19 : decode cX4_bestFree 19 = .ok (.istore 5, 2) := by decide +kernel
theorem dX4_bestFree_21 : decode cX4_bestFree 21 = .ok (.iconst 0, 1) := by decide +kernel
theorem dX4_bestFree_22 : decode cX4_bestFree 22 = .ok (.istore 6, 2) := by decide +kernel
theorem dX4_bestFree_24 : decode cX4_bestFree 24 = .ok (.iconst 0, 1) := by decide +kernel
theorem dX4_bestFree_25 : decode cX4_bestFree 25 = .ok (.istore 7, 2) := by decide +kernel
theorem dX4_bestFree_27 : decode cX4_bestFree 27 = .ok (.iload 7, 2) := by decide +kernel
theorem dX4_bestFree_29 : decode cX4_bestFree 29 = .ok (.aload_n 3, 1) := by decide +kernel
theorem dX4_bestFree_30 : decode cX4_bestFree 30 = .ok (.getfield 112, 3) := by decide +kernel
theorem dX4_bestFree_33 : decode cX4_bestFree 33 = .ok (.if_icmp .ge 91, 3) := by decide +kernel
theorem dX4_bestFree_36 : decode cX4_bestFree 36 = .ok (.aload_n 3, 1) := by decide +kernel
theorem dX4_bestFree_37 : decode cX4_bestFree 37 = .ok (.iload 7, 2) := by decide +kernel
theorem dX4_bestFree_39 : decode cX4_bestFree 39 = .ok (.invokevirtual 120, 3) := by decide +kernel
theorem dX4_bestFree_42 : decode cX4_bestFree 42 = .ok (.ifCond .eq 76, 3) := by decide +kernel
theorem dX4_bestFree_45 : decode cX4_bestFree 45 = .ok (.aload_n 0, 1) := by decide +kernel
theorem dX4_bestFree_46 : decode cX4_bestFree 46 = .ok (.getfield 12, 3) := by decide +kernel
theorem dX4_bestFree_49 : decode cX4_bestFree 49 = .ok (.aload_n 1, 1) := by decide +kernel
theorem dX4_bestFree_50 : decode cX4_bestFree 50 = .ok (.iload_n 2, 1) := by decide +kernel
theorem dX4_bestFree_51 : decode cX4_bestFree 51 = .ok (.aload_n 3, 1) := by decide +kernel
theorem dX4_bestFree_52 : decode cX4_bestFree 52 = .ok (.getfield 52, 3) := by decide +kernel
theorem dX4_bestFree_55 : decode cX4_bestFree 55 = .ok (.iload 7, 2) := by decide +kernel
theorem dX4_bestFree_57 : decode cX4_bestFree 57 = .ok (.invokestatic 34, 3) := by decide +kernel
theorem dX4_bestFree_60 : decode cX4_bestFree 60 = .ok (.aload_n 3, 1) := by decide +kernel
theorem dX4_bestFree_61 : decode cX4_bestFree 61 = .ok (.getfield 55, 3) := by decide +kernel
theorem dX4_bestFree_64 : decode cX4_bestFree 64 = .ok (.iload 7, 2) := by decide +kernel
theorem dX4_bestFree_66 : decode cX4_bestFree 66 = .ok (.invokestatic 34, 3) := by decide +kernel
theorem dX4_bestFree_69 : decode cX4_bestFree 69 = .ok (.iload 4, 2) := by decide +kernel
theorem dX4_bestFree_71 : decode cX4_bestFree 71 = .ok (.invokevirtual 58, 3) := by decide +kernel
theorem dX4_bestFree_74 : decode cX4_bestFree 74 = .ok (.ifCond .eq 44, 3) := by decide +kernel
theorem dX4_bestFree_77 : decode cX4_bestFree 77 = .ok (.aload_n 3, 1) := by decide +kernel
theorem dX4_bestFree_78 : decode cX4_bestFree 78 = .ok (.getfield 85, 3) := by decide +kernel
theorem dX4_bestFree_81 : decode cX4_bestFree 81 = .ok (.iload 7, 2) := by decide +kernel
theorem dX4_bestFree_83 : decode cX4_bestFree 83 = .ok (.invokestatic 34, 3) := by decide +kernel
theorem dX4_bestFree_86 : decode cX4_bestFree 86 = .ok (.aload_n 0, 1) := by decide +kernel
theorem dX4_bestFree_87 : decode cX4_bestFree 87 = .ok (.getfield 12, 3) := by decide +kernel
theorem dX4_bestFree_90 : decode cX4_bestFree 90 = .ok (.getfield 99, 3) := by decide +kernel
theorem dX4_bestFree_93 : decode cX4_bestFree 93 = .ok (.isub, 1) := by decide +kernel
theorem dX4_bestFree_94 : decode cX4_bestFree 94 = .ok (.istore 8, 2) := by decide +kernel
theorem dX4_bestFree_96 : decode cX4_bestFree 96 = .ok (.iload 5, 2) := by decide +kernel
theorem dX4_bestFree_98 : decode cX4_bestFree 98 = .ok (.bipush (-9), 2) := by decide +kernel
theorem dX4_bestFree_100 : decode cX4_bestFree 100 = .ok (.if_icmp .eq 10, 3) := by decide +kernel
theorem dX4_bestFree_103 : decode cX4_bestFree 103 = .ok (.iload 8, 2) := by decide +kernel
theorem dX4_bestFree_105 : decode cX4_bestFree 105 = .ok (.iload 6, 2) := by decide +kernel
theorem dX4_bestFree_107 : decode cX4_bestFree 107 = .ok (.if_icmp .le 11, 3) := by decide +kernel
theorem dX4_bestFree_110 : decode cX4_bestFree 110 = .ok (.iload 7, 2) := by decide +kernel
theorem dX4_bestFree_112 : decode cX4_bestFree 112 = .ok (.istore 5, 2) := by decide +kernel
theorem dX4_bestFree_114 : decode cX4_bestFree 114 = .ok (.iload 8, 2) := by decide +kernel
theorem dX4_bestFree_116 : decode cX4_bestFree 116 = .ok (.istore 6, 2) := by decide +kernel
theorem dX4_bestFree_118 : decode cX4_bestFree 118 = .ok (.iinc 7 1, 3) := by decide +kernel
theorem dX4_bestFree_121 : decode cX4_bestFree 121 = .ok (.goto (-94), 3) := by decide +kernel
theorem dX4_bestFree_124 : decode cX4_bestFree 124 = .ok (.iload 5, 2) := by decide +kernel
theorem dX4_bestFree_126 : decode cX4_bestFree 126 = .ok (.ireturn, 1) := by decide +kernel
theorem dX5_withoutLowest_0 : decode cX5_withoutLowest 0 = .ok (.lload_n 0, 1) := by decide +kernel
theorem dX5_withoutLowest_1 : decode cX5_withoutLowest 1 = .ok (.lstore_n 3, 1) := by decide +kernel
theorem dX5_withoutLowest_2 : decode cX5_withoutLowest 2 = .ok (.iconst 0, 1) := by decide +kernel
theorem dX5_withoutLowest_3 : decode cX5_withoutLowest 3 = .ok (.istore 5, 2) := by decide +kernel
theorem dX5_withoutLowest_5 : decode cX5_withoutLowest 5 = .ok (.iload 5, 2) := by decide +kernel
theorem dX5_withoutLowest_7 : decode cX5_withoutLowest 7 = .ok (.iload_n 2, 1) := by decide +kernel
theorem dX5_withoutLowest_8 : decode cX5_withoutLowest 8 = .ok (.if_icmp .ge 15, 3) := by decide +kernel
theorem dX5_withoutLowest_11 : decode cX5_withoutLowest 11 = .ok (.lload_n 3, 1) := by decide +kernel
theorem dX5_withoutLowest_12 : decode cX5_withoutLowest 12 = .ok (.ldc2_w 9, 3) := by decide +kernel
theorem dX5_withoutLowest_15 : decode cX5_withoutLowest 15 = .ok (.ldiv, 1) := by decide +kernel
theorem dX5_withoutLowest_16 : decode cX5_withoutLowest 16 = .ok (.lstore_n 3, 1) := by decide +kernel
theorem dX5_withoutLowest_17 : decode cX5_withoutLowest 17 = .ok (.iinc 5 1, 3) := by decide +kernel
theorem dX5_withoutLowest_20 : decode cX5_withoutLowest 20 = .ok (.goto (-15), 3) := by decide +kernel
theorem dX5_withoutLowest_23 : decode cX5_withoutLowest 23 = .ok (.lload_n 3, 1) := by decide +kernel
theorem dX5_withoutLowest_24 : decode cX5_withoutLowest 24 = .ok (.lreturn, 1) := by decide +kernel
theorem dX5_obey_0 : decode cX5_obey 0 = .ok (.iload_n 2, 1) := by decide +kernel
theorem dX5_obey_1 : decode cX5_obey 1 = .ok (.sipush 1000, 3) := by decide +kernel
theorem dX5_obey_4 : decode cX5_obey 4 = .ok (.idiv, 1) := by decide +kernel
theorem dX5_obey_5 : decode cX5_obey 5 = .ok (.bipush 10, 2) := by decide +kernel
theorem dX5_obey_7 : decode cX5_obey 7 = .ok (.irem, 1) := by decide +kernel
theorem dX5_obey_8 : decode cX5_obey 8 = .ok (.istore_n 3, 1) := by decide +kernel
theorem dX5_obey_9 : decode cX5_obey 9 = .ok (.iload_n 2, 1) := by decide +kernel
theorem dX5_obey_10 : decode cX5_obey 10 = .ok (.sipush 1000, 3) := by decide +kernel
theorem dX5_obey_13 : decode cX5_obey 13 = .ok (.irem, 1) := by decide +kernel
theorem dX5_obey_14 : decode cX5_obey 14 = .ok (.istore 4, 2) := by decide +kernel
theorem dX5_obey_16 : decode cX5_obey 16 = .ok (.iload 4, 2) := by decide +kernel
theorem dX5_obey_18 : decode cX5_obey 18 = .ok (.bipush 10, 2) := by decide +kernel
theorem dX5_obey_20 : decode cX5_obey 20 = .ok (.if_icmp .ge 7, 3) := by decide +kernel
theorem dX5_obey_23 : decode cX5_obey 23 = .ok (.iconst 1, 1) := by decide +kernel
theorem dX5_obey_24 : decode cX5_obey 24 = .ok (.goto 4, 3) := by decide +kernel
theorem dX5_obey_27 : decode cX5_obey 27 = .ok (.iconst 0, 1) := by decide +kernel
theorem dX5_obey_28 : decode cX5_obey 28 = .ok (.istore 5, 2) := by decide +kernel
theorem dX5_obey_30 : decode cX5_obey 30 = .ok (.iload_n 2, 1) := by decide +kernel
theorem dX5_obey_31 : decode cX5_obey 31 = .ok (.sipush 10000, 3) := by decide +kernel
theorem dX5_obey_34 : decode cX5_obey 34 = .ok (.idiv, 1) := by decide +kernel
theorem dX5_obey_35 : decode cX5_obey 35 = .ok (.tableswitch 266 1 9 #[49, 72, 93, 114, 135, 157, 179, 208, 232], 49) := by decide +kernel
theorem dX5_obey_84 : decode cX5_obey 84 = .ok (.iload 4, 2) := by decide +kernel
theorem dX5_obey_86 : decode cX5_obey 86 = .ok (.bipush 100, 2) := by decide +kernel
theorem dX5_obey_88 : decode cX5_obey 88 = .ok (.if_icmp .ge 17, 3) := by decide +kernel
theorem dX5_obey_91 : decode cX5_obey 91 = .ok (.aload_n 0, 1) := by decide +kernel
theorem dX5_obey_92 : decode cX5_obey 92 = .ok (.iload_n 3, 1) := by decide +kernel
theorem dX5_obey_93 : decode cX5_obey 93 = .ok (.iload 4, 2) := by decide +kernel
theorem dX5_obey_95 : decode cX5_obey 95 = .ok (.invokevirtual 11, 3) := by decide +kernel
theorem dX5_obey_98 : decode cX5_obey 98 = .ok (.ifCond .eq 7, 3) := by decide +kernel
theorem dX5_obey_101 : decode cX5_obey 101 = .ok (.iconst 1, 1) := by decide +kernel
theorem dX5_obey_102 : decode cX5_obey 102 = .ok (.goto 4, 3) := by decide +kernel
theorem dX5_obey_105 : decode cX5_obey 105 = .ok (.iconst 0, 1) := by decide +kernel
theorem dX5_obey_106 : decode cX5_obey 106 = .ok (.ireturn, 1) := by decide +kernel
theorem dX5_obey_107 : decode cX5_obey 107 = .ok (.iload 5, 2) := by decide +kernel
theorem dX5_obey_109 : decode cX5_obey 109 = .ok (.ifCond .eq 17, 3) := by decide +kernel
theorem dX5_obey_112 : decode cX5_obey 112 = .ok (.aload_n 0, 1) := by decide +kernel
theorem dX5_obey_113 : decode cX5_obey 113 = .ok (.iload_n 3, 1) := by decide +kernel
theorem dX5_obey_114 : decode cX5_obey 114 = .ok (.iload 4, 2) := by decide +kernel
theorem dX5_obey_116 : decode cX5_obey 116 = .ok (.invokevirtual 17, 3) := by decide +kernel
theorem dX5_obey_119 : decode cX5_obey 119 = .ok (.ifCond .eq 7, 3) := by decide +kernel
theorem dX5_obey_122 : decode cX5_obey 122 = .ok (.iconst 1, 1) := by decide +kernel
theorem dX5_obey_123 : decode cX5_obey 123 = .ok (.goto 4, 3) := by decide +kernel
theorem dX5_obey_126 : decode cX5_obey 126 = .ok (.iconst 0, 1) := by decide +kernel
theorem dX5_obey_127 : decode cX5_obey 127 = .ok (.ireturn, 1) := by decide +kernel
theorem dX5_obey_128 : decode cX5_obey 128 = .ok (.iload 5, 2) := by decide +kernel
theorem dX5_obey_130 : decode cX5_obey 130 = .ok (.ifCond .eq 17, 3) := by decide +kernel
theorem dX5_obey_133 : decode cX5_obey 133 = .ok (.aload_n 0, 1) := by decide +kernel
theorem dX5_obey_134 : decode cX5_obey 134 = .ok (.iload_n 3, 1) := by decide +kernel
theorem dX5_obey_135 : decode cX5_obey 135 = .ok (.iload 4, 2) := by decide +kernel
theorem dX5_obey_137 : decode cX5_obey 137 = .ok (.invokestatic 20, 3) := by decide +kernel
theorem dX5_obey_140 : decode cX5_obey 140 = .ok (.ifCond .eq 7, 3) := by decide +kernel
theorem dX5_obey_143 : decode cX5_obey 143 = .ok (.iconst 1, 1) := by decide +kernel
theorem dX5_obey_144 : decode cX5_obey 144 = .ok (.goto 4, 3) := by decide +kernel
theorem dX5_obey_147 : decode cX5_obey 147 = .ok (.iconst 0, 1) := by decide +kernel
theorem dX5_obey_148 : decode cX5_obey 148 = .ok (.ireturn, 1) := by decide +kernel
theorem dX5_obey_149 : decode cX5_obey 149 = .ok (.iload 5, 2) := by decide +kernel
theorem dX5_obey_151 : decode cX5_obey 151 = .ok (.ifCond .eq 17, 3) := by decide +kernel
theorem dX5_obey_154 : decode cX5_obey 154 = .ok (.aload_n 0, 1) := by decide +kernel
theorem dX5_obey_155 : decode cX5_obey 155 = .ok (.iload_n 3, 1) := by decide +kernel
theorem dX5_obey_156 : decode cX5_obey 156 = .ok (.iload 4, 2) := by decide +kernel
theorem dX5_obey_158 : decode cX5_obey 158 = .ok (.invokevirtual 24, 3) := by decide +kernel
theorem dX5_obey_161 : decode cX5_obey 161 = .ok (.ifCond .eq 7, 3) := by decide +kernel
theorem dX5_obey_164 : decode cX5_obey 164 = .ok (.iconst 1, 1) := by decide +kernel
theorem dX5_obey_165 : decode cX5_obey 165 = .ok (.goto 4, 3) := by decide +kernel
theorem dX5_obey_168 : decode cX5_obey 168 = .ok (.iconst 0, 1) := by decide +kernel
theorem dX5_obey_169 : decode cX5_obey 169 = .ok (.ireturn, 1) := by decide +kernel
theorem dX5_obey_170 : decode cX5_obey 170 = .ok (.iload 5, 2) := by decide +kernel
theorem dX5_obey_172 : decode cX5_obey 172 = .ok (.ifCond .eq 18, 3) := by decide +kernel
theorem dX5_obey_175 : decode cX5_obey 175 = .ok (.aload_n 1, 1) := by decide +kernel
theorem dX5_obey_176 : decode cX5_obey 176 = .ok (.aload_n 0, 1) := by decide +kernel
theorem dX5_obey_177 : decode cX5_obey 177 = .ok (.iload_n 3, 1) := by decide +kernel
theorem dX5_obey_178 : decode cX5_obey 178 = .ok (.iload 4, 2) := by decide +kernel
theorem dX5_obey_180 : decode cX5_obey 180 = .ok (.invokevirtual 27, 3) := by decide +kernel
theorem dX5_obey_183 : decode cX5_obey 183 = .ok (.ifCond .eq 7, 3) := by decide +kernel
theorem dX5_obey_186 : decode cX5_obey 186 = .ok (.iconst 1, 1) := by decide +kernel
theorem dX5_obey_187 : decode cX5_obey 187 = .ok (.goto 4, 3) := by decide +kernel
theorem dX5_obey_190 : decode cX5_obey 190 = .ok (.iconst 0, 1) := by decide +kernel
theorem dX5_obey_191 : decode cX5_obey 191 = .ok (.ireturn, 1) := by decide +kernel
theorem dX5_obey_192 : decode cX5_obey 192 = .ok (.iload_n 3, 1) := by decide +kernel
theorem dX5_obey_193 : decode cX5_obey 193 = .ok (.ifCond .ne 19, 3) := by decide +kernel
theorem dX5_obey_196 : decode cX5_obey 196 = .ok (.iload 4, 2) := by decide +kernel
theorem dX5_obey_198 : decode cX5_obey 198 = .ok (.ifCond .ne 14, 3) := by decide +kernel
theorem dX5_obey_201 : decode cX5_obey 201 = .ok (.aload_n 0, 1) := by decide +kernel
theorem dX5_obey_202 : decode cX5_obey 202 = .ok (.invokestatic 32, 3) := by decide +kernel
theorem dX5_obey_205 : decode cX5_obey 205 = .ok (.ifCond .eq 7, 3) := by decide +kernel
theorem dX5_obey_208 : decode cX5_obey 208 = .ok (.iconst 1, 1) := by decide +kernel
theorem dX5_obey_209 : decode cX5_obey 209 = .ok (.goto 4, 3) := by decide +kernel
theorem dX5_obey_212 : decode cX5_obey 212 = .ok (.iconst 0, 1) := by decide +kernel
theorem dX5_obey_213 : decode cX5_obey 213 = .ok (.ireturn, 1) := by decide +kernel
theorem dX5_obey_214 : decode cX5_obey 214 = .ok (.iload_n 3, 1) := by decide +kernel
theorem dX5_obey_215 : decode cX5_obey 215 = .ok (.invokestatic 36, 3) := by decide +kernel
theorem dX5_obey_218 : decode cX5_obey 218 = .ok (.ifCond .eq 23, 3) := by decide +kernel
theorem dX5_obey_221 : decode cX5_obey 221 = .ok (.aload_n 0, 1) := by decide +kernel
theorem dX5_obey_222 : decode cX5_obey 222 = .ok (.getfield 42, 3) := by decide +kernel
theorem dX5_obey_225 : decode cX5_obey 225 = .ok (.getfield 46, 3) := by decide +kernel
theorem dX5_obey_228 : decode cX5_obey 228 = .ok (.iload_n 3, 1) := by decide +kernel
theorem dX5_obey_229 : decode cX5_obey 229 = .ok (.invokestatic 52, 3) := by decide +kernel
theorem dX5_obey_232 : decode cX5_obey 232 = .ok (.iload 4, 2) := by decide +kernel
theorem dX5_obey_234 : decode cX5_obey 234 = .ok (.if_icmp .lt 7, 3) := by decide +kernel
theorem dX5_obey_237 : decode cX5_obey 237 = .ok (.iconst 1, 1) := by decide +kernel
theorem dX5_obey_238 : decode cX5_obey 238 = .ok (.goto 4, 3) := by decide +kernel
theorem dX5_obey_241 : decode cX5_obey 241 = .ok (.iconst 0, 1) := by decide +kernel
theorem dX5_obey_242 : decode cX5_obey 242 = .ok (.ireturn, 1) := by decide +kernel
theorem dX5_obey_243 : decode cX5_obey 243 = .ok (.iload_n 3, 1) := by decide +kernel
theorem dX5_obey_244 : decode cX5_obey 244 = .ok (.ifCond .ne 21, 3) := by decide +kernel
theorem dX5_obey_247 : decode cX5_obey 247 = .ok (.iload 5, 2) := by decide +kernel
theorem dX5_obey_249 : decode cX5_obey 249 = .ok (.ifCond .eq 16, 3) := by decide +kernel
theorem dX5_obey_252 : decode cX5_obey 252 = .ok (.aload_n 0, 1) := by decide +kernel
theorem dX5_obey_253 : decode cX5_obey 253 = .ok (.getfield 56, 3) := by decide +kernel
theorem dX5_obey_256 : decode cX5_obey 256 = .ok (.iload 4, 2) := by decide +kernel
theorem dX5_obey_258 : decode cX5_obey 258 = .ok (.if_icmp .ne 7, 3) := by decide +kernel
theorem dX5_obey_261 : decode cX5_obey 261 = .ok (.iconst 1, 1) := by decide +kernel
theorem dX5_obey_262 : decode cX5_obey 262 = .ok (.goto 4, 3) := by decide +kernel
theorem dX5_obey_265 : decode cX5_obey 265 = .ok (.iconst 0, 1) := by decide +kernel
theorem dX5_obey_266 : decode cX5_obey 266 = .ok (.ireturn, 1) := by decide +kernel
theorem dX5_obey_267 : decode cX5_obey 267 = .ok (.iload_n 3, 1) := by decide +kernel
theorem dX5_obey_268 : decode cX5_obey 268 = .ok (.invokestatic 36, 3) := by decide +kernel
theorem dX5_obey_271 : decode cX5_obey 271 = .ok (.ifCond .eq 28, 3) := by decide +kernel
theorem dX5_obey_274 : decode cX5_obey 274 = .ok (.iload 5, 2) := by decide +kernel
theorem dX5_obey_276 : decode cX5_obey 276 = .ok (.ifCond .eq 23, 3) := by decide +kernel
theorem dX5_obey_279 : decode cX5_obey 279 = .ok (.aload_n 0, 1) := by decide +kernel
theorem dX5_obey_280 : decode cX5_obey 280 = .ok (.getfield 42, 3) := by decide +kernel
theorem dX5_obey_283 : decode cX5_obey 283 = .ok (.getfield 60, 3) := by decide +kernel
theorem dX5_obey_286 : decode cX5_obey 286 = .ok (.iload_n 3, 1) := by decide +kernel
theorem dX5_obey_287 : decode cX5_obey 287 = .ok (.invokestatic 52, 3) := by decide +kernel
theorem dX5_obey_290 : decode cX5_obey 290 = .ok (.iload 4, 2) := by decide +kernel
theorem dX5_obey_292 : decode cX5_obey 292 = .ok (.if_icmp .ne 7, 3) := by decide +kernel
theorem dX5_obey_295 : decode cX5_obey 295 = .ok (.iconst 1, 1) := by decide +kernel
theorem dX5_obey_296 : decode cX5_obey 296 = .ok (.goto 4, 3) := by decide +kernel
theorem dX5_obey_299 : decode cX5_obey 299 = .ok (.iconst 0, 1) := by decide +kernel
theorem dX5_obey_300 : decode cX5_obey 300 = .ok (.ireturn, 1) := by decide +kernel
theorem dX5_obey_301 : decode cX5_obey 301 = .ok (.iconst 0, 1) := by decide +kernel
theorem dX5_obey_302 : decode cX5_obey 302 = .ok (.ireturn, 1) := by decide +kernel
theorem dX5_endOfRound_0 : decode cX5_endOfRound 0 = .ok (.aload_n 0, 1) := by decide +kernel
theorem dX5_endOfRound_1 : decode cX5_endOfRound 1 = .ok (.invokevirtual 63, 3) := by decide +kernel
theorem dX5_endOfRound_4 : decode cX5_endOfRound 4 = .ok (.pop, 1) := by decide +kernel
theorem dX5_endOfRound_5 : decode cX5_endOfRound 5 = .ok (.iconst 1, 1) := by decide +kernel
theorem dX5_endOfRound_6 : decode cX5_endOfRound 6 = .ok (.ireturn, 1) := by decide +kernel
theorem dX5_changeRent_0 : decode cX5_changeRent 0 = .ok (.iload_n 1, 1) := by decide +kernel
theorem dX5_changeRent_1 : decode cX5_changeRent 1 = .ok (.invokestatic 36, 3) := by decide +kernel
theorem dX5_changeRent_4 : decode cX5_changeRent 4 = .ok (.istore_n 3, 1) := by decide +kernel
theorem dX5_changeRent_5 : decode cX5_changeRent 5 = .ok (.iload_n 3, 1) := by decide +kernel
theorem dX5_changeRent_6 : decode cX5_changeRent 6 = .ok (.ifCond .eq 12, 3) := by decide +kernel
theorem dX5_changeRent_9 : decode cX5_changeRent 9 = .ok (.aload_n 0, 1) := by decide +kernel
theorem dX5_changeRent_10 : decode cX5_changeRent 10 = .ok (.getfield 42, 3) := by decide +kernel
theorem dX5_changeRent_13 : decode cX5_changeRent 13 = .ok (.iload_n 1, 1) := by decide +kernel
theorem dX5_changeRent_14 : decode cX5_changeRent 14 = .ok (.iload_n 2, 1) := by decide +kernel
theorem dX5_changeRent_15 : decode cX5_changeRent 15 = .ok (.invokevirtual 67, 3) := by decide +kernel
theorem dX5_changeRent_18 : decode cX5_changeRent 18 = .ok (.iload_n 3, 1) := by decide +kernel
theorem dX5_changeRent_19 : decode cX5_changeRent 19 = .ok (.ireturn, 1) := by decide +kernel
theorem dX6_init_0 : decode cX6_init 0 = .ok (.aload_n 0, 1) := by decide +kernel
theorem dX6_init_1 : decode cX6_init 1 = .ok (.invokespecial 3, 3) := by decide +kernel
theorem dX6_init_4 : decode cX6_init 4 = .ok (.aload_n 0, 1) := by decide +kernel
theorem dX6_init_5 : decode cX6_init 5 = .ok (.iconst 2, 1) := by decide +kernel
theorem dX6_init_6 : decode cX6_init 6 = .ok (.anewarray 9, 3) := by decide +kernel
theorem dX6_init_9 : decode cX6_init 9 = .ok (.putfield 11, 3) := by decide +kernel
theorem dX6_init_12 : decode cX6_init 12 = .ok (.aload_n 0, 1) := by decide +kernel
theorem dX6_init_13 : decode cX6_init 13 = .ok (.iconst 2, 1) := by decide +kernel
theorem dX6_init_14 : decode cX6_init 14 = .ok (.newarray .int, 2) := by decide +kernel
theorem dX6_init_16 : decode cX6_init 16 = .ok (.putfield 17, 3) := by decide +kernel
theorem dX6_init_19 : decode cX6_init 19 = .ok (.iconst 0, 1) := by decide +kernel
theorem dX6_init_20 : decode cX6_init 20 = .ok (.istore_n 1, 1) := by decide +kernel
theorem dX6_init_21 : decode cX6_init 21 = .ok (.iload_n 1, 1) := by decide +kernel
theorem dX6_init_22 : decode cX6_init 22 = .ok (.iconst 2, 1) := by decide +kernel
theorem dX6_init_23 : decode cX6_init 23 = .ok (.if_icmp .ge 22, 3) := by decide +kernel
theorem dX6_init_26 : decode cX6_init 26 = .ok (.aload_n 0, 1) := by decide +kernel
theorem dX6_init_27 : decode cX6_init 27 = .ok (.getfield 11, 3) := by decide +kernel
theorem dX6_init_30 : decode cX6_init 30 = .ok (.iload_n 1, 1) := by decide +kernel
theorem dX6_init_31 : decode cX6_init 31 = .ok (.new 9, 3) := by decide +kernel
theorem dX6_init_34 : decode cX6_init 34 = .ok (.dup, 1) := by decide +kernel
theorem dX6_init_35 : decode cX6_init 35 = .ok (.invokespecial 21, 3) := by decide +kernel
theorem dX6_init_38 : decode cX6_init 38 = .ok (.aastore, 1) := by decide +kernel
theorem dX6_init_39 : decode cX6_init 39 = .ok (.iinc 1 1, 3) := by decide +kernel
theorem dX6_init_42 : decode cX6_init 42 = .ok (.goto (-21), 3) := by decide +kernel
theorem dX6_init_45 : decode cX6_init 45 = .ok (.return_, 1) := by decide +kernel
theorem dX6_isFilled_0 : decode cX6_isFilled 0 = .ok (.aload_n 0, 1) := by decide +kernel
theorem dX6_isFilled_1 : decode cX6_isFilled 1 = .ok (.getfield 17, 3) := by decide +kernel
theorem dX6_isFilled_4 : decode cX6_isFilled 4 = .ok (.iload_n 1, 1) := by decide +kernel
theorem dX6_isFilled_5 : decode cX6_isFilled 5 = .ok (.invokestatic 22, 3) := by decide +kernel
theorem dX6_isFilled_8 : decode cX6_isFilled 8 = .ok (.iconst 1, 1) := by decide +kernel
theorem dX6_isFilled_9 : decode cX6_isFilled 9 = .ok (.if_icmp .ne 7, 3) := by decide +kernel
theorem dX6_isFilled_12 : decode cX6_isFilled 12 = .ok (.iconst 1, 1) := by decide +kernel
theorem dX6_isFilled_13 : decode cX6_isFilled 13 = .ok (.goto 4, 3) := by decide +kernel
theorem dX6_isFilled_16 : decode cX6_isFilled 16 = .ok (.iconst 0, 1) := by decide +kernel
theorem dX6_isFilled_17 : decode cX6_isFilled 17 = .ok (.ireturn, 1) := by decide +kernel
theorem dX6_keep_0 : decode cX6_keep 0 = .ok (.aload_n 2, 1) := by decide +kernel
theorem dX6_keep_1 : decode cX6_keep 1 = .ok (.aload_n 0, 1) := by decide +kernel
theorem dX6_keep_2 : decode cX6_keep 2 = .ok (.iload_n 1, 1) := by decide +kernel
theorem dX6_keep_3 : decode cX6_keep 3 = .ok (.invokevirtual 26, 3) := by decide +kernel
theorem dX6_keep_6 : decode cX6_keep 6 = .ok (.invokestatic 30, 3) := by decide +kernel
theorem dX6_keep_9 : decode cX6_keep 9 = .ok (.aload_n 0, 1) := by decide +kernel
theorem dX6_keep_10 : decode cX6_keep 10 = .ok (.getfield 17, 3) := by decide +kernel
theorem dX6_keep_13 : decode cX6_keep 13 = .ok (.iload_n 1, 1) := by decide +kernel
theorem dX6_keep_14 : decode cX6_keep 14 = .ok (.iconst 1, 1) := by decide +kernel
theorem dX6_keep_15 : decode cX6_keep 15 = .ok (.invokestatic 34, 3) := by decide +kernel
theorem dX6_keep_18 : decode cX6_keep 18 = .ok (.return_, 1) := by decide +kernel
theorem dX6_fetchInto_0 : decode cX6_fetchInto 0 = .ok (.aload_n 0, 1) := by decide +kernel
theorem dX6_fetchInto_1 : decode cX6_fetchInto 1 = .ok (.iload_n 1, 1) := by decide +kernel
theorem dX6_fetchInto_2 : decode cX6_fetchInto 2 = .ok (.invokevirtual 26, 3) := by decide +kernel
theorem dX6_fetchInto_5 : decode cX6_fetchInto 5 = .ok (.aload_n 2, 1) := by decide +kernel
theorem dX6_fetchInto_6 : decode cX6_fetchInto 6 = .ok (.invokestatic 30, 3) := by decide +kernel
theorem dX6_fetchInto_9 : decode cX6_fetchInto 9 = .ok (.return_, 1) := by decide +kernel
theorem dX6_empty_0 : decode cX6_empty 0 = .ok (.aload_n 0, 1) := by decide +kernel
theorem dX6_empty_1 : decode cX6_empty 1 = .ok (.getfield 17, 3) := by decide +kernel
theorem dX6_empty_4 : decode cX6_empty 4 = .ok (.iconst 0, 1) := by decide +kernel
theorem dX6_empty_5 : decode cX6_empty 5 = .ok (.invokestatic 38, 3) := by decide +kernel
theorem dX6_empty_8 : decode cX6_empty 8 = .ok (.return_, 1) := by decide +kernel
theorem dX6_stateAt_0 : decode cX6_stateAt 0 = .ok (.iload_n 1, 1) := by decide +kernel
theorem dX6_stateAt_1 : decode cX6_stateAt 1 = .ok (.ifCond .lt 21, 3) := by decide +kernel
theorem dX6_stateAt_4 : decode cX6_stateAt 4 = .ok (.iload_n 1, 1) := by decide +kernel
theorem dX6_stateAt_5 : decode cX6_stateAt 5 = .ok (.aload_n 0, 1) := by decide +kernel
theorem dX6_stateAt_6 : decode cX6_stateAt 6 = .ok (.getfield 11, 3) := by decide +kernel
theorem dX6_stateAt_9 : decode cX6_stateAt 9 = .ok (.arraylength, 1) := by decide +kernel
theorem dX6_stateAt_10 : decode cX6_stateAt 10 = .ok (.if_icmp .ge 12, 3) := by decide +kernel
theorem dX6_stateAt_13 : decode cX6_stateAt 13 = .ok (.aload_n 0, 1) := by decide +kernel
theorem dX6_stateAt_14 : decode cX6_stateAt 14 = .ok (.getfield 11, 3) := by decide +kernel
theorem dX6_stateAt_17 : decode cX6_stateAt 17 = .ok (.iload_n 1, 1) := by decide +kernel
theorem dX6_stateAt_18 : decode cX6_stateAt 18 = .ok (.aaload, 1) := by decide +kernel
theorem dX6_stateAt_19 : decode cX6_stateAt 19 = .ok (.goto 4, 3) := by decide +kernel
theorem dX6_stateAt_22 : decode cX6_stateAt 22 = .ok (.aconst_null, 1) := by decide +kernel
theorem dX6_stateAt_23 : decode cX6_stateAt 23 = .ok (.areturn, 1) := by decide +kernel
theorem dX7_init_0 : decode cX7_init 0 = .ok (.aload_n 0, 1) := by decide +kernel
theorem dX7_init_1 : decode cX7_init 1 = .ok (.invokespecial 3, 3) := by decide +kernel
theorem dX7_init_4 : decode cX7_init 4 = .ok (.aload_n 0, 1) := by decide +kernel
theorem dX7_init_5 : decode cX7_init 5 = .ok (.new 9, 3) := by decide +kernel
theorem dX7_init_8 : decode cX7_init 8 = .ok (.dup, 1) := by decide +kernel
theorem dX7_init_9 : decode cX7_init 9 = .ok (.invokespecial 11, 3) := by decide +kernel
theorem dX7_init_12 : decode cX7_init 12 = .ok (.putfield 12, 3) := by decide +kernel
theorem dX7_init_15 : decode cX7_init 15 = .ok (.aload_n 0, 1) := by decide +kernel
theorem dX7_init_16 : decode cX7_init 16 = .ok (.new 18, 3) := by decide +kernel
theorem dX7_init_19 : decode cX7_init 19 = .ok (.dup, 1) := by decide +kernel
theorem dX7_init_20 : decode cX7_init 20 = .ok (.invokespecial 20, 3) := by decide +kernel
theorem dX7_init_23 : decode cX7_init 23 = .ok (.putfield 21, 3) := by decide +kernel
theorem dX7_init_26 : decode cX7_init 26 = .ok (.aload_n 0, 1) := by decide +kernel
theorem dX7_init_27 : decode cX7_init 27 = .ok (.new 25, 3) := by decide +kernel
theorem dX7_init_30 : decode cX7_init 30 = .ok (.dup, 1) := by decide +kernel
theorem dX7_init_31 : decode cX7_init 31 = .ok (.invokespecial 27, 3) := by decide +kernel
theorem dX7_init_34 : decode cX7_init 34 = .ok (.putfield 28, 3) := by decide +kernel
theorem dX7_init_37 : decode cX7_init 37 = .ok (.return_, 1) := by decide +kernel
theorem dX7_begin_0 : decode cX7_begin 0 = .ok (.aload_n 0, 1) := by decide +kernel
theorem dX7_begin_1 : decode cX7_begin 1 = .ok (.getfield 12, 3) := by decide +kernel
theorem dX7_begin_4 : decode cX7_begin 4 = .ok (.iconst 0, 1) := by decide +kernel
theorem dX7_begin_5 : decode cX7_begin 5 = .ok (.putfield 32, 3) := by decide +kernel
theorem dX7_begin_8 : decode cX7_begin 8 = .ok (.aload_n 0, 1) := by decide +kernel
theorem dX7_begin_9 : decode cX7_begin 9 = .ok (.getfield 21, 3) := by decide +kernel
theorem dX7_begin_12 : decode cX7_begin 12 = .ok (.iconst 0, 1) := by decide +kernel
theorem dX7_begin_13 : decode cX7_begin 13 = .ok (.putfield 36, 3) := by decide +kernel
theorem dX7_begin_16 : decode cX7_begin 16 = .ok (.aload_n 0, 1) := by decide +kernel
theorem dX7_begin_17 : decode cX7_begin 17 = .ok (.getfield 28, 3) := by decide +kernel
theorem dX7_begin_20 : decode cX7_begin 20 = .ok (.invokevirtual 37, 3) := by decide +kernel
theorem dX7_begin_23 : decode cX7_begin 23 = .ok (.aload_n 0, 1) := by decide +kernel
theorem dX7_begin_24 : decode cX7_begin 24 = .ok (.iload_n 1, 1) := by decide +kernel
theorem dX7_begin_25 : decode cX7_begin 25 = .ok (.putfield 40, 3) := by decide +kernel
theorem dX7_begin_28 : decode cX7_begin 28 = .ok (.aload_n 0, 1) := by decide +kernel
theorem dX7_begin_29 : decode cX7_begin 29 = .ok (.iconst 1, 1) := by decide +kernel
theorem dX7_begin_30 : decode cX7_begin 30 = .ok (.putfield 43, 3) := by decide +kernel
theorem dX7_begin_33 : decode cX7_begin 33 = .ok (.aload_n 0, 1) := by decide +kernel
theorem dX7_begin_34 : decode cX7_begin 34 = .ok (.iconst 0, 1) := by decide +kernel
theorem dX7_begin_35 : decode cX7_begin 35 = .ok (.putfield 46, 3) := by decide +kernel
theorem dX7_begin_38 : decode cX7_begin 38 = .ok (.aload_n 0, 1) := by decide +kernel
theorem dX7_begin_39 : decode cX7_begin 39 = .ok (.iconst 0, 1) := by decide +kernel
theorem dX7_begin_40 : decode cX7_begin 40 = .ok (.putfield 49, 3) := by decide +kernel
theorem dX7_begin_43 : decode cX7_begin 43 = .ok (.aload_n 0, 1) := by decide +kernel
theorem dX7_begin_44 : decode cX7_begin 44 = .ok (.iconst 0, 1) := by decide +kernel
theorem dX7_begin_45 : decode cX7_begin 45 = .ok (.putfield 52, 3) := by decide +kernel
theorem dX7_begin_48 : decode cX7_begin 48 = .ok (.aload_n 0, 1) := by decide +kernel
theorem dX7_begin_49 : decode cX7_begin 49 = .ok (.iconst 0, 1) := by decide +kernel
theorem dX7_begin_50 : decode cX7_begin 50 = .ok (.putfield 55, 3) := by decide +kernel
theorem dX7_begin_53 : decode cX7_begin 53 = .ok (.return_, 1) := by decide +kernel
theorem dX7_copyFrom_0 : decode cX7_copyFrom 0 = .ok (.aload_n 0, 1) := by decide +kernel
theorem dX7_copyFrom_1 : decode cX7_copyFrom 1 = .ok (.getfield 12, 3) := by decide +kernel
theorem dX7_copyFrom_4 : decode cX7_copyFrom 4 = .ok (.aload_n 1, 1) := by decide +kernel
theorem dX7_copyFrom_5 : decode cX7_copyFrom 5 = .ok (.getfield 12, 3) := by decide +kernel
theorem dX7_copyFrom_8 : decode cX7_copyFrom 8 = .ok (.invokevirtual 58, 3) := by decide +kernel
theorem dX7_copyFrom_11 : decode cX7_copyFrom 11 = .ok (.aload_n 0, 1) := by decide +kernel
theorem dX7_copyFrom_12 : decode cX7_copyFrom 12 = .ok (.getfield 21, 3) := by decide +kernel
theorem dX7_copyFrom_15 : decode cX7_copyFrom 15 = .ok (.aload_n 1, 1) := by decide +kernel
theorem dX7_copyFrom_16 : decode cX7_copyFrom 16 = .ok (.getfield 21, 3) := by decide +kernel
theorem dX7_copyFrom_19 : decode cX7_copyFrom 19 = .ok (.invokevirtual 62, 3) := by decide +kernel
theorem dX7_copyFrom_22 : decode cX7_copyFrom 22 = .ok (.aload_n 0, 1) := by decide +kernel
theorem dX7_copyFrom_23 : decode cX7_copyFrom 23 = .ok (.getfield 28, 3) := by decide +kernel
theorem dX7_copyFrom_26 : decode cX7_copyFrom 26 = .ok (.aload_n 1, 1) := by decide +kernel
theorem dX7_copyFrom_27 : decode cX7_copyFrom 27 = .ok (.getfield 28, 3) := by decide +kernel
theorem dX7_copyFrom_30 : decode cX7_copyFrom 30 = .ok (.invokevirtual 65, 3) := by decide +kernel
theorem dX7_copyFrom_33 : decode cX7_copyFrom 33 = .ok (.aload_n 0, 1) := by decide +kernel
theorem dX7_copyFrom_34 : decode cX7_copyFrom 34 = .ok (.aload_n 1, 1) := by decide +kernel
theorem dX7_copyFrom_35 : decode cX7_copyFrom 35 = .ok (.getfield 40, 3) := by decide +kernel
theorem dX7_copyFrom_38 : decode cX7_copyFrom 38 = .ok (.putfield 40, 3) := by decide +kernel
theorem dX7_copyFrom_41 : decode cX7_copyFrom 41 = .ok (.aload_n 0, 1) := by decide +kernel
theorem dX7_copyFrom_42 : decode cX7_copyFrom 42 = .ok (.aload_n 1, 1) := by decide +kernel
theorem dX7_copyFrom_43 : decode cX7_copyFrom 43 = .ok (.getfield 43, 3) := by decide +kernel
theorem dX7_copyFrom_46 : decode cX7_copyFrom 46 = .ok (.putfield 43, 3) := by decide +kernel
theorem dX7_copyFrom_49 : decode cX7_copyFrom 49 = .ok (.aload_n 0, 1) := by decide +kernel
theorem dX7_copyFrom_50 : decode cX7_copyFrom 50 = .ok (.aload_n 1, 1) := by decide +kernel
theorem dX7_copyFrom_51 : decode cX7_copyFrom 51 = .ok (.getfield 46, 3) := by decide +kernel
theorem dX7_copyFrom_54 : decode cX7_copyFrom 54 = .ok (.putfield 46, 3) := by decide +kernel
theorem dX7_copyFrom_57 : decode cX7_copyFrom 57 = .ok (.aload_n 0, 1) := by decide +kernel
theorem dX7_copyFrom_58 : decode cX7_copyFrom 58 = .ok (.aload_n 1, 1) := by decide +kernel
theorem dX7_copyFrom_59 : decode cX7_copyFrom 59 = .ok (.getfield 49, 3) := by decide +kernel
theorem dX7_copyFrom_62 : decode cX7_copyFrom 62 = .ok (.putfield 49, 3) := by decide +kernel
theorem dX7_copyFrom_65 : decode cX7_copyFrom 65 = .ok (.aload_n 0, 1) := by decide +kernel
theorem dX7_copyFrom_66 : decode cX7_copyFrom 66 = .ok (.aload_n 1, 1) := by decide +kernel
theorem dX7_copyFrom_67 : decode cX7_copyFrom 67 = .ok (.getfield 52, 3) := by decide +kernel
theorem dX7_copyFrom_70 : decode cX7_copyFrom 70 = .ok (.putfield 52, 3) := by decide +kernel
theorem dX7_copyFrom_73 : decode cX7_copyFrom 73 = .ok (.aload_n 0, 1) := by decide +kernel
theorem dX7_copyFrom_74 : decode cX7_copyFrom 74 = .ok (.aload_n 1, 1) := by decide +kernel
theorem dX7_copyFrom_75 : decode cX7_copyFrom 75 = .ok (.getfield 55, 3) := by decide +kernel
theorem dX7_copyFrom_78 : decode cX7_copyFrom 78 = .ok (.putfield 55, 3) := by decide +kernel
theorem dX7_copyFrom_81 : decode cX7_copyFrom 81 = .ok (.return_, 1) := by decide +kernel
theorem dX7_maySellTrack_0 : decode cX7_maySellTrack 0 = .ok (.iload_n 1, 1) := by decide +kernel
theorem dX7_maySellTrack_1 : decode cX7_maySellTrack 1 = .ok (.invokestatic 68, 3) := by decide +kernel
theorem dX7_maySellTrack_4 : decode cX7_maySellTrack 4 = .ok (.ifCond .eq 51, 3) := by decide +kernel
theorem dX7_maySellTrack_7 : decode cX7_maySellTrack 7 = .ok (.aload_n 0, 1) := by decide +kernel
theorem dX7_maySellTrack_8 : decode cX7_maySellTrack 8 = .ok (.getfield 12, 3) := by decide +kernel
theorem dX7_maySellTrack_11 : decode cX7_maySellTrack 11 = .ok (.iload_n 2, 1) := by decide +kernel
theorem dX7_maySellTrack_12 : decode cX7_maySellTrack 12 = .ok (.invokevirtual 72, 3) := by decide +kernel
theorem dX7_maySellTrack_15 : decode cX7_maySellTrack 15 = .ok (.ifCond .eq 40, 3) := by decide +kernel
theorem dX7_maySellTrack_18 : decode cX7_maySellTrack 18 = .ok (.aload_n 0, 1) := by decide +kernel
theorem dX7_maySellTrack_19 : decode cX7_maySellTrack 19 = .ok (.getfield 12, 3) := by decide +kernel
theorem dX7_maySellTrack_22 : decode cX7_maySellTrack 22 = .ok (.iload_n 2, 1) := by decide +kernel
theorem dX7_maySellTrack_23 : decode cX7_maySellTrack 23 = .ok (.invokevirtual 75, 3) := by decide +kernel
theorem dX7_maySellTrack_26 : decode cX7_maySellTrack 26 = .ok (.ifCond .eq 29, 3) := by decide +kernel
theorem dX7_maySellTrack_29 : decode cX7_maySellTrack 29 = .ok (.aload_n 0, 1) := by decide +kernel
theorem dX7_maySellTrack_30 : decode cX7_maySellTrack 30 = .ok (.getfield 28, 3) := by decide +kernel
theorem dX7_maySellTrack_33 : decode cX7_maySellTrack 33 = .ok (.getfield 78, 3) := by decide +kernel
theorem dX7_maySellTrack_36 : decode cX7_maySellTrack 36 = .ok (.iload_n 1, 1) := by decide +kernel
theorem dX7_maySellTrack_37 : decode cX7_maySellTrack 37 = .ok (.invokestatic 82, 3) := by decide +kernel
theorem dX7_maySellTrack_40 : decode cX7_maySellTrack 40 = .ok (.aload_n 0, 1) := by decide +kernel
theorem dX7_maySellTrack_41 : decode cX7_maySellTrack 41 = .ok (.getfield 12, 3) := by decide +kernel
theorem dX7_maySellTrack_44 : decode cX7_maySellTrack 44 = .ok (.iload_n 2, 1) := by decide +kernel
theorem dX7_maySellTrack_45 : decode cX7_maySellTrack 45 = .ok (.invokevirtual 86, 3) := by decide +kernel
theorem dX7_maySellTrack_48 : decode cX7_maySellTrack 48 = .ok (.if_icmp .lt 7, 3) := by decide +kernel
theorem dX7_maySellTrack_51 : decode cX7_maySellTrack 51 = .ok (.iconst 1, 1) := by decide +kernel
theorem dX7_maySellTrack_52 : decode cX7_maySellTrack 52 = .ok (.goto 4, 3) := by decide +kernel
theorem dX7_maySellTrack_55 : decode cX7_maySellTrack 55 = .ok (.iconst 0, 1) := by decide +kernel
theorem dX7_maySellTrack_56 : decode cX7_maySellTrack 56 = .ok (.ireturn, 1) := by decide +kernel
theorem dX7_sellTrack_0 : decode cX7_sellTrack 0 = .ok (.aload_n 0, 1) := by decide +kernel
theorem dX7_sellTrack_1 : decode cX7_sellTrack 1 = .ok (.getfield 28, 3) := by decide +kernel
theorem dX7_sellTrack_4 : decode cX7_sellTrack 4 = .ok (.iload_n 1, 1) := by decide +kernel
theorem dX7_sellTrack_5 : decode cX7_sellTrack 5 = .ok (.iconst 4, 1) := by decide +kernel
theorem dX7_sellTrack_6 : decode cX7_sellTrack 6 = .ok (.aload_n 0, 1) := by decide +kernel
theorem dX7_sellTrack_7 : decode cX7_sellTrack 7 = .ok (.getfield 12, 3) := by decide +kernel
theorem dX7_sellTrack_10 : decode cX7_sellTrack 10 = .ok (.iload_n 2, 1) := by decide +kernel
theorem dX7_sellTrack_11 : decode cX7_sellTrack 11 = .ok (.invokevirtual 86, 3) := by decide +kernel
theorem dX7_sellTrack_14 : decode cX7_sellTrack 14 = .ok (.invokevirtual 90, 3) := by decide +kernel
theorem dX7_sellTrack_17 : decode cX7_sellTrack 17 = .ok (.aload_n 0, 1) := by decide +kernel
theorem dX7_sellTrack_18 : decode cX7_sellTrack 18 = .ok (.getfield 12, 3) := by decide +kernel
theorem dX7_sellTrack_21 : decode cX7_sellTrack 21 = .ok (.getfield 94, 3) := by decide +kernel
theorem dX7_sellTrack_24 : decode cX7_sellTrack 24 = .ok (.iload_n 2, 1) := by decide +kernel
theorem dX7_sellTrack_25 : decode cX7_sellTrack 25 = .ok (.iload_n 1, 1) := by decide +kernel
theorem dX7_sellTrack_26 : decode cX7_sellTrack 26 = .ok (.invokestatic 97, 3) := by decide +kernel
theorem dX7_sellTrack_29 : decode cX7_sellTrack 29 = .ok (.return_, 1) := by decide +kernel
theorem dX7_maySellTrain_0 : decode cX7_maySellTrain 0 = .ok (.iload_n 1, 1) := by decide +kernel
theorem dX7_maySellTrain_1 : decode cX7_maySellTrain 1 = .ok (.invokestatic 68, 3) := by decide +kernel
theorem dX7_maySellTrain_4 : decode cX7_maySellTrain 4 = .ok (.ifCond .eq 71, 3) := by decide +kernel
theorem dX7_maySellTrain_7 : decode cX7_maySellTrain 7 = .ok (.iload_n 2, 1) := by decide +kernel
theorem dX7_maySellTrain_8 : decode cX7_maySellTrain 8 = .ok (.iconst 1, 1) := by decide +kernel
theorem dX7_maySellTrain_9 : decode cX7_maySellTrain 9 = .ok (.if_icmp .lt 66, 3) := by decide +kernel
theorem dX7_maySellTrain_12 : decode cX7_maySellTrain 12 = .ok (.iload_n 2, 1) := by decide +kernel
theorem dX7_maySellTrain_13 : decode cX7_maySellTrain 13 = .ok (.bipush 6, 2) := by decide +kernel
theorem dX7_maySellTrain_15 : decode cX7_maySellTrain 15 = .ok (.if_icmp .gt 60, 3) := by decide +kernel
theorem dX7_maySellTrain_18 : decode cX7_maySellTrain 18 = .ok (.iload_n 2, 1) := by decide +kernel
theorem dX7_maySellTrain_19 : decode cX7_maySellTrain 19 = .ok (.aload_n 0, 1) := by decide +kernel
theorem dX7_maySellTrain_20 : decode cX7_maySellTrain 20 = .ok (.getfield 43, 3) := by decide +kernel
theorem dX7_maySellTrain_23 : decode cX7_maySellTrain 23 = .ok (.iconst 1, 1) := by decide +kernel
theorem dX7_maySellTrain_24 : decode cX7_maySellTrain 24 = .ok (.isub, 1) := by decide +kernel
theorem dX7_maySellTrain_25 : decode cX7_maySellTrain 25 = .ok (.if_icmp .lt 50, 3) := by decide +kernel
theorem dX7_maySellTrain_28 : decode cX7_maySellTrain 28 = .ok (.iload_n 2, 1) := by decide +kernel
theorem dX7_maySellTrain_29 : decode cX7_maySellTrain 29 = .ok (.aload_n 0, 1) := by decide +kernel
theorem dX7_maySellTrain_30 : decode cX7_maySellTrain 30 = .ok (.getfield 43, 3) := by decide +kernel
theorem dX7_maySellTrain_33 : decode cX7_maySellTrain 33 = .ok (.iconst 1, 1) := by decide +kernel
theorem dX7_maySellTrain_34 : decode cX7_maySellTrain 34 = .ok (.iadd, 1) := by decide +kernel
theorem dX7_maySellTrain_35 : decode cX7_maySellTrain 35 = .ok (.if_icmp .gt 40, 3) := by decide +kernel
theorem dX7_maySellTrain_38 : decode cX7_maySellTrain 38 = .ok (.aload_n 0, 1) := by decide +kernel
theorem dX7_maySellTrain_39 : decode cX7_maySellTrain 39 = .ok (.getfield 28, 3) := by decide +kernel
theorem dX7_maySellTrain_42 : decode cX7_maySellTrain 42 = .ok (.getfield 101, 3) := by decide +kernel
theorem dX7_maySellTrain_45 : decode cX7_maySellTrain 45 = .ok (.iload_n 1, 1) := by decide +kernel
theorem dX7_maySellTrain_46 : decode cX7_maySellTrain 46 = .ok (.invokestatic 82, 3) := by decide +kernel
theorem dX7_maySellTrain_49 : decode cX7_maySellTrain 49 = .ok (.iconst 4, 1) := by decide +kernel
theorem dX7_maySellTrain_50 : decode cX7_maySellTrain 50 = .ok (.if_icmp .ge 25, 3) := by decide +kernel
theorem dX7_maySellTrain_53 : decode cX7_maySellTrain 53 = .ok (.aload_n 0, 1) := by decide +kernel
theorem dX7_maySellTrain_54 : decode cX7_maySellTrain 54 = .ok (.getfield 28, 3) := by decide +kernel
theorem dX7_maySellTrain_57 : decode cX7_maySellTrain 57 = .ok (.getfield 78, 3) := by decide +kernel
theorem dX7_maySellTrain_60 : decode cX7_maySellTrain 60 = .ok (.iload_n 1, 1) := by decide +kernel
theorem dX7_maySellTrain_61 : decode cX7_maySellTrain 61 = .ok (.invokestatic 82, 3) := by decide +kernel
theorem dX7_maySellTrain_64 : decode cX7_maySellTrain 64 = .ok (.bipush 20, 2) := by decide +kernel
theorem dX7_maySellTrain_66 : decode cX7_maySellTrain 66 = .ok (.iload_n 2, 1) := by decide +kernel
theorem dX7_maySellTrain_67 : decode cX7_maySellTrain 67 = .ok (.imul, 1) := by decide +kernel
theorem dX7_maySellTrain_68 : decode cX7_maySellTrain 68 = .ok (.if_icmp .lt 7, 3) := by decide +kernel
theorem dX7_maySellTrain_71 : decode cX7_maySellTrain 71 = .ok (.iconst 1, 1) := by decide +kernel
theorem dX7_maySellTrain_72 : decode cX7_maySellTrain 72 = .ok (.goto 4, 3) := by decide +kernel
theorem dX7_maySellTrain_75 : decode cX7_maySellTrain 75 = .ok (.iconst 0, 1) := by decide +kernel
theorem dX7_maySellTrain_76 : decode cX7_maySellTrain 76 = .ok (.ireturn, 1) := by decide +kernel
theorem dX7_sellTrain_0 : decode cX7_sellTrain 0 = .ok (.aload_n 0, 1) := by decide +kernel
theorem dX7_sellTrain_1 : decode cX7_sellTrain 1 = .ok (.getfield 28, 3) := by decide +kernel
theorem dX7_sellTrain_4 : decode cX7_sellTrain 4 = .ok (.iload_n 1, 1) := by decide +kernel
theorem dX7_sellTrain_5 : decode cX7_sellTrain 5 = .ok (.iconst 4, 1) := by decide +kernel
theorem dX7_sellTrain_6 : decode cX7_sellTrain 6 = .ok (.bipush 20, 2) := by decide +kernel
theorem dX7_sellTrain_8 : decode cX7_sellTrain 8 = .ok (.iload_n 2, 1) := by decide +kernel
theorem dX7_sellTrain_9 : decode cX7_sellTrain 9 = .ok (.imul, 1) := by decide +kernel
theorem dX7_sellTrain_10 : decode cX7_sellTrain 10 = .ok (.invokevirtual 90, 3) := by decide +kernel
theorem dX7_sellTrain_13 : decode cX7_sellTrain 13 = .ok (.aload_n 0, 1) := by decide +kernel
theorem dX7_sellTrain_14 : decode cX7_sellTrain 14 = .ok (.getfield 28, 3) := by decide +kernel
theorem dX7_sellTrain_17 : decode cX7_sellTrain 17 = .ok (.iload_n 1, 1) := by decide +kernel
theorem dX7_sellTrain_18 : decode cX7_sellTrain 18 = .ok (.iload_n 2, 1) := by decide +kernel
theorem dX7_sellTrain_19 : decode cX7_sellTrain 19 = .ok (.invokevirtual 104, 3) := by decide +kernel
theorem dX7_sellTrain_22 : decode cX7_sellTrain 22 = .ok (.iload_n 2, 1) := by decide +kernel
theorem dX7_sellTrain_23 : decode cX7_sellTrain 23 = .ok (.aload_n 0, 1) := by decide +kernel
theorem dX7_sellTrain_24 : decode cX7_sellTrain 24 = .ok (.getfield 43, 3) := by decide +kernel
theorem dX7_sellTrain_27 : decode cX7_sellTrain 27 = .ok (.if_icmp .gt 5, 3) := by decide +kernel
theorem dX7_sellTrain_30 : decode cX7_sellTrain 30 = .ok (.iconst 0, 1) := by decide +kernel
theorem dX7_sellTrain_31 : decode cX7_sellTrain 31 = .ok (.ireturn, 1) := by decide +kernel
theorem dX7_sellTrain_32 : decode cX7_sellTrain 32 = .ok (.aload_n 0, 1) := by decide +kernel
theorem dX7_sellTrain_33 : decode cX7_sellTrain 33 = .ok (.iload_n 2, 1) := by decide +kernel
theorem dX7_sellTrain_34 : decode cX7_sellTrain 34 = .ok (.putfield 43, 3) := by decide +kernel
theorem dX7_sellTrain_37 : decode cX7_sellTrain 37 = .ok (.aload_n 0, 1) := by decide +kernel
theorem dX7_sellTrain_38 : decode cX7_sellTrain 38 = .ok (.getfield 28, 3) := by decide +kernel
theorem dX7_sellTrain_41 : decode cX7_sellTrain 41 = .ok (.aload_n 0, 1) := by decide +kernel
theorem dX7_sellTrain_42 : decode cX7_sellTrain 42 = .ok (.getfield 43, 3) := by decide +kernel
theorem dX7_sellTrain_45 : decode cX7_sellTrain 45 = .ok (.iconst 1, 1) := by decide +kernel
theorem dX7_sellTrain_46 : decode cX7_sellTrain 46 = .ok (.isub, 1) := by decide +kernel
theorem dX7_sellTrain_47 : decode cX7_sellTrain 47 = .ok (.invokevirtual 108, 3) := by decide +kernel
theorem dX7_sellTrain_50 : decode cX7_sellTrain 50 = .ok (.istore_n 3, 1) := by decide +kernel
theorem dX7_sellTrain_51 : decode cX7_sellTrain 51 = .ok (.aload_n 0, 1) := by decide +kernel
theorem dX7_sellTrain_52 : decode cX7_sellTrain 52 = .ok (.dup, 1) := by decide +kernel
theorem dX7_sellTrain_53 : decode cX7_sellTrain 53 = .ok (.getfield 55, 3) := by decide +kernel
theorem dX7_sellTrain_56 : decode cX7_sellTrain 56 = .ok (.iload_n 3, 1) := by decide +kernel
theorem dX7_sellTrain_57 : decode cX7_sellTrain 57 = .ok (.iadd, 1) := by decide +kernel
theorem dX7_sellTrain_58 : decode cX7_sellTrain 58 = .ok (.putfield 55, 3) := by decide +kernel
theorem dX7_sellTrain_61 : decode cX7_sellTrain 61 = .ok (.iload_n 3, 1) := by decide +kernel
theorem dX7_sellTrain_62 : decode cX7_sellTrain 62 = .ok (.ireturn, 1) := by decide +kernel
theorem dX7_mayGive_0 : decode cX7_mayGive 0 = .ok (.iload_n 1, 1) := by decide +kernel
theorem dX7_mayGive_1 : decode cX7_mayGive 1 = .ok (.invokestatic 68, 3) := by decide +kernel
theorem dX7_mayGive_4 : decode cX7_mayGive 4 = .ok (.ifCond .eq 29, 3) := by decide +kernel
theorem dX7_mayGive_7 : decode cX7_mayGive 7 = .ok (.aload_n 0, 1) := by decide +kernel
theorem dX7_mayGive_8 : decode cX7_mayGive 8 = .ok (.getfield 21, 3) := by decide +kernel
theorem dX7_mayGive_11 : decode cX7_mayGive 11 = .ok (.iload_n 2, 1) := by decide +kernel
theorem dX7_mayGive_12 : decode cX7_mayGive 12 = .ok (.invokevirtual 111, 3) := by decide +kernel
theorem dX7_mayGive_15 : decode cX7_mayGive 15 = .ok (.ifCond .eq 18, 3) := by decide +kernel
theorem dX7_mayGive_18 : decode cX7_mayGive 18 = .ok (.aload_n 0, 1) := by decide +kernel
