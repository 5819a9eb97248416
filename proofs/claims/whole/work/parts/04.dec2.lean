theorem dX10_needTrack_7 : decode cX10_needTrack 7 = .ok (.iload_n 1, 1) := by decide +kernel
theorem dX10_needTrack_8 : decode cX10_needTrack 8 = .ok (.invokevirtual 349, 3) := by decide +kernel
theorem dX10_needTrack_11 : decode cX10_needTrack 11 = .ok (.invokestatic 346, 3) := by decide +kernel
theorem dX10_needTrack_14 : decode cX10_needTrack 14 = .ok (.return_, 1) := by decide +kernel
theorem dX10_needContract_0 : decode cX10_needContract 0 = .ok (.aload_n 0, 1) := by decide +kernel
theorem dX10_needContract_1 : decode cX10_needContract 1 = .ok (.getfield 19, 3) := by decide +kernel
theorem dX10_needContract_4 : decode cX10_needContract 4 = .ok (.getfield 104, 3) := by decide +kernel
theorem dX10_needContract_7 : decode cX10_needContract 7 = .ok (.iload_n 1, 1) := by decide +kernel
theorem dX10_needContract_8 : decode cX10_needContract 8 = .ok (.invokevirtual 352, 3) := by decide +kernel
theorem dX10_needContract_11 : decode cX10_needContract 11 = .ok (.invokestatic 346, 3) := by decide +kernel
theorem dX10_needContract_14 : decode cX10_needContract 14 = .ok (.return_, 1) := by decide +kernel
theorem dX10_needTrain_0 : decode cX10_needTrain 0 = .ok (.aload_n 0, 1) := by decide +kernel
theorem dX10_needTrain_1 : decode cX10_needTrain 1 = .ok (.getfield 19, 3) := by decide +kernel
theorem dX10_needTrain_4 : decode cX10_needTrain 4 = .ok (.getfield 117, 3) := by decide +kernel
theorem dX10_needTrain_7 : decode cX10_needTrain 7 = .ok (.iload_n 1, 1) := by decide +kernel
theorem dX10_needTrain_8 : decode cX10_needTrain 8 = .ok (.iload_n 2, 1) := by decide +kernel
theorem dX10_needTrain_9 : decode cX10_needTrain 9 = .ok (.invokevirtual 353, 3) := by decide +kernel
theorem dX10_needTrain_12 : decode cX10_needTrain 12 = .ok (.invokestatic 346, 3) := by decide +kernel
theorem dX10_needTrain_15 : decode cX10_needTrain 15 = .ok (.return_, 1) := by decide +kernel
theorem dX10_needTrainOfHolder_0 : decode cX10_needTrainOfHolder 0 = .ok (.aload_n 0, 1) := by decide +kernel
theorem dX10_needTrainOfHolder_1 : decode cX10_needTrainOfHolder 1 = .ok (.getfield 19, 3) := by decide +kernel
theorem dX10_needTrainOfHolder_4 : decode cX10_needTrainOfHolder 4 = .ok (.getfield 104, 3) := by decide +kernel
theorem dX10_needTrainOfHolder_7 : decode cX10_needTrainOfHolder 7 = .ok (.iload_n 1, 1) := by decide +kernel
theorem dX10_needTrainOfHolder_8 : decode cX10_needTrainOfHolder 8 = .ok (.invokevirtual 254, 3) := by decide +kernel
theorem dX10_needTrainOfHolder_11 : decode cX10_needTrainOfHolder 11 = .ok (.ifCond .ne 19, 3) := by decide +kernel
theorem dX10_needTrainOfHolder_14 : decode cX10_needTrainOfHolder 14 = .ok (.aload_n 0, 1) := by decide +kernel
theorem dX10_needTrainOfHolder_15 : decode cX10_needTrainOfHolder 15 = .ok (.aload_n 0, 1) := by decide +kernel
theorem dX10_needTrainOfHolder_16 : decode cX10_needTrainOfHolder 16 = .ok (.getfield 19, 3) := by decide +kernel
theorem dX10_needTrainOfHolder_19 : decode cX10_needTrainOfHolder 19 = .ok (.getfield 104, 3) := by decide +kernel
theorem dX10_needTrainOfHolder_22 : decode cX10_needTrainOfHolder 22 = .ok (.iload_n 1, 1) := by decide +kernel
theorem dX10_needTrainOfHolder_23 : decode cX10_needTrainOfHolder 23 = .ok (.invokevirtual 356, 3) := by decide +kernel
theorem dX10_needTrainOfHolder_26 : decode cX10_needTrainOfHolder 26 = .ok (.iload_n 2, 1) := by decide +kernel
theorem dX10_needTrainOfHolder_27 : decode cX10_needTrainOfHolder 27 = .ok (.invokevirtual 187, 3) := by decide +kernel
theorem dX10_needTrainOfHolder_30 : decode cX10_needTrainOfHolder 30 = .ok (.return_, 1) := by decide +kernel
theorem dX10_needCompany_0 : decode cX10_needCompany 0 = .ok (.iload_n 0, 1) := by decide +kernel
theorem dX10_needCompany_1 : decode cX10_needCompany 1 = .ok (.invokestatic 359, 3) := by decide +kernel
theorem dX10_needCompany_4 : decode cX10_needCompany 4 = .ok (.invokestatic 346, 3) := by decide +kernel
theorem dX10_needCompany_7 : decode cX10_needCompany 7 = .ok (.return_, 1) := by decide +kernel
theorem dX10_needSlot_0 : decode cX10_needSlot 0 = .ok (.iload_n 0, 1) := by decide +kernel
theorem dX10_needSlot_1 : decode cX10_needSlot 1 = .ok (.ifCond .lt 12, 3) := by decide +kernel
theorem dX10_needSlot_4 : decode cX10_needSlot 4 = .ok (.iload_n 0, 1) := by decide +kernel
theorem dX10_needSlot_5 : decode cX10_needSlot 5 = .ok (.iconst 2, 1) := by decide +kernel
theorem dX10_needSlot_6 : decode cX10_needSlot 6 = .ok (.if_icmp .ge 7, 3) := by decide +kernel
theorem dX10_needSlot_9 : decode cX10_needSlot 9 = .ok (.iconst 1, 1) := by decide +kernel
theorem dX10_needSlot_10 : decode cX10_needSlot 10 = .ok (.goto 4, 3) := by decide +kernel
theorem dX10_needSlot_13 : decode cX10_needSlot 13 = .ok (.iconst 0, 1) := by decide +kernel
theorem dX10_needSlot_14 : decode cX10_needSlot 14 = .ok (.invokestatic 346, 3) := by decide +kernel
theorem dX10_needSlot_17 : decode cX10_needSlot 17 = .ok (.return_, 1) := by decide +kernel
theorem dX10_needIndex_0 : decode cX10_needIndex 0 = .ok (.iload_n 0, 1) := by decide +kernel
theorem dX10_needIndex_1 : decode cX10_needIndex 1 = .ok (.ifCond .ne 14, 3) := by decide +kernel
theorem dX10_needIndex_4 : decode cX10_needIndex 4 = .ok (.new 362, 3) := by decide +kernel
theorem dX10_needIndex_7 : decode cX10_needIndex 7 = .ok (.dup, 1) := by decide +kernel
theorem dX10_needIndex_8 : decode cX10_needIndex 8 = .ok (.ldc_w 364, 3) := by decide +kernel
theorem dX10_needIndex_11 : decode cX10_needIndex 11 = .ok (.invokespecial 366, 3) := by decide +kernel
theorem dX10_needIndex_14 : decode cX10_needIndex 14 = .ok (.athrow, 1) := by decide +kernel
theorem dX10_needIndex_15 : decode cX10_needIndex 15 = .ok (.return_, 1) := by decide +kernel
theorem dX10_needRange_0 : decode cX10_needRange 0 = .ok (.iload_n 0, 1) := by decide +kernel
theorem dX10_needRange_1 : decode cX10_needRange 1 = .ok (.iload_n 1, 1) := by decide +kernel
theorem dX10_needRange_2 : decode cX10_needRange 2 = .ok (.if_icmp .lt 8, 3) := by decide +kernel
theorem dX10_needRange_5 : decode cX10_needRange 5 = .ok (.iload_n 0, 1) := by decide +kernel
theorem dX10_needRange_6 : decode cX10_needRange 6 = .ok (.iload_n 2, 1) := by decide +kernel
theorem dX10_needRange_7 : decode cX10_needRange 7 = .ok (.if_icmp .le 14, 3) := by decide +kernel
theorem dX10_needRange_10 : decode cX10_needRange 10 = .ok (.new 150, 3) := by decide +kernel
theorem dX10_needRange_13 : decode cX10_needRange 13 = .ok (.dup, 1) := by decide +kernel
theorem dX10_needRange_14 : decode cX10_needRange 14 = .ok (.ldc_w 367, 3) := by decide +kernel
theorem dX10_needRange_17 : decode cX10_needRange 17 = .ok (.invokespecial 154, 3) := by decide +kernel
theorem dX10_needRange_20 : decode cX10_needRange 20 = .ok (.athrow, 1) := by decide +kernel
theorem dX10_needRange_21 : decode cX10_needRange 21 = .ok (.return_, 1) := by decide +kernel
theorem dX10_needDifferent_0 : decode cX10_needDifferent 0 = .ok (.iload_n 0, 1) := by decide +kernel
theorem dX10_needDifferent_1 : decode cX10_needDifferent 1 = .ok (.iload_n 1, 1) := by decide +kernel
theorem dX10_needDifferent_2 : decode cX10_needDifferent 2 = .ok (.if_icmp .ne 14, 3) := by decide +kernel
theorem dX10_needDifferent_5 : decode cX10_needDifferent 5 = .ok (.new 150, 3) := by decide +kernel
theorem dX10_needDifferent_8 : decode cX10_needDifferent 8 = .ok (.dup, 1) := by decide +kernel
theorem dX10_needDifferent_9 : decode cX10_needDifferent 9 = .ok (.ldc_w 369, 3) := by decide +kernel
theorem dX10_needDifferent_12 : decode cX10_needDifferent 12 = .ok (.invokespecial 154, 3) := by decide +kernel
theorem dX10_needDifferent_15 : decode cX10_needDifferent 15 = .ok (.athrow, 1) := by decide +kernel
theorem dX10_needDifferent_16 : decode cX10_needDifferent 16 = .ok (.return_, 1) := by decide +kernel
theorem dX10_needAllowed_0 : decode cX10_needAllowed 0 = .ok (.iload_n 0, 1) := by decide +kernel
theorem dX10_needAllowed_1 : decode cX10_needAllowed 1 = .ok (.ifCond .ne 14, 3) := by decide +kernel
theorem dX10_needAllowed_4 : decode cX10_needAllowed 4 = .ok (.new 68, 3) := by decide +kernel
theorem dX10_needAllowed_7 : decode cX10_needAllowed 7 = .ok (.dup, 1) := by decide +kernel
theorem dX10_needAllowed_8 : decode cX10_needAllowed 8 = .ok (.ldc_w 371, 3) := by decide +kernel
theorem dX10_needAllowed_11 : decode cX10_needAllowed 11 = .ok (.invokespecial 72, 3) := by decide +kernel
theorem dX10_needAllowed_14 : decode cX10_needAllowed 14 = .ok (.athrow, 1) := by decide +kernel
theorem dX10_needAllowed_15 : decode cX10_needAllowed 15 = .ok (.return_, 1) := by decide +kernel
theorem dX10_isCompany_0 : decode cX10_isCompany 0 = .ok (.iload_n 0, 1) := by decide +kernel
theorem dX10_isCompany_1 : decode cX10_isCompany 1 = .ok (.ifCond .lt 12, 3) := by decide +kernel
theorem dX10_isCompany_4 : decode cX10_isCompany 4 = .ok (.iload_n 0, 1) := by decide +kernel
theorem dX10_isCompany_5 : decode cX10_isCompany 5 = .ok (.iconst 4, 1) := by decide +kernel
theorem dX10_isCompany_6 : decode cX10_isCompany 6 = .ok (.if_icmp .ge 7, 3) := by decide +kernel
theorem dX10_isCompany_9 : decode cX10_isCompany 9 = .ok (.iconst 1, 1) := by decide +kernel
theorem dX10_isCompany_10 : decode cX10_isCompany 10 = .ok (.goto 4, 3) := by decide +kernel
theorem dX10_isCompany_13 : decode cX10_isCompany 13 = .ok (.iconst 0, 1) := by decide +kernel
theorem dX10_isCompany_14 : decode cX10_isCompany 14 = .ok (.ireturn, 1) := by decide +kernel
theorem dX10_at_0 : decode cX10_at 0 = .ok (.iload_n 1, 1) := by decide +kernel
theorem dX10_at_1 : decode cX10_at 1 = .ok (.ifCond .lt 15, 3) := by decide +kernel
theorem dX10_at_4 : decode cX10_at 4 = .ok (.iload_n 1, 1) := by decide +kernel
theorem dX10_at_5 : decode cX10_at 5 = .ok (.aload_n 0, 1) := by decide +kernel
theorem dX10_at_6 : decode cX10_at 6 = .ok (.arraylength, 1) := by decide +kernel
theorem dX10_at_7 : decode cX10_at 7 = .ok (.if_icmp .ge 9, 3) := by decide +kernel
theorem dX10_at_10 : decode cX10_at 10 = .ok (.aload_n 0, 1) := by decide +kernel
theorem dX10_at_11 : decode cX10_at 11 = .ok (.iload_n 1, 1) := by decide +kernel
theorem dX10_at_12 : decode cX10_at 12 = .ok (.iaload, 1) := by decide +kernel
theorem dX10_at_13 : decode cX10_at 13 = .ok (.goto 4, 3) := by decide +kernel
theorem dX10_at_16 : decode cX10_at 16 = .ok (.iconst 0, 1) := by decide +kernel
theorem dX10_at_17 : decode cX10_at 17 = .ok (.ireturn, 1) := by decide +kernel
theorem dX10_put_0 : decode cX10_put 0 = .ok (.iload_n 1, 1) := by decide +kernel
theorem dX10_put_1 : decode cX10_put 1 = .ok (.ifCond .lt 13, 3) := by decide +kernel
theorem dX10_put_4 : decode cX10_put 4 = .ok (.iload_n 1, 1) := by decide +kernel
theorem dX10_put_5 : decode cX10_put 5 = .ok (.aload_n 0, 1) := by decide +kernel
theorem dX10_put_6 : decode cX10_put 6 = .ok (.arraylength, 1) := by decide +kernel
theorem dX10_put_7 : decode cX10_put 7 = .ok (.if_icmp .ge 7, 3) := by decide +kernel
theorem dX10_put_10 : decode cX10_put 10 = .ok (.aload_n 0, 1) := by decide +kernel
theorem dX10_put_11 : decode cX10_put 11 = .ok (.iload_n 1, 1) := by decide +kernel
theorem dX10_put_12 : decode cX10_put 12 = .ok (.iload_n 2, 1) := by decide +kernel
theorem dX10_put_13 : decode cX10_put 13 = .ok (.iastore, 1) := by decide +kernel
theorem dX10_put_14 : decode cX10_put 14 = .ok (.return_, 1) := by decide +kernel
theorem dX10_sum_0 : decode cX10_sum 0 = .ok (.iconst 0, 1) := by decide +kernel
theorem dX10_sum_1 : decode cX10_sum 1 = .ok (.istore_n 1, 1) := by decide +kernel
theorem dX10_sum_2 : decode cX10_sum 2 = .ok (.iconst 0, 1) := by decide +kernel
theorem dX10_sum_3 : decode cX10_sum 3 = .ok (.istore_n 2, 1) := by decide +kernel
theorem dX10_sum_4 : decode cX10_sum 4 = .ok (.iload_n 2, 1) := by decide +kernel
theorem dX10_sum_5 : decode cX10_sum 5 = .ok (.aload_n 0, 1) := by decide +kernel
theorem dX10_sum_6 : decode cX10_sum 6 = .ok (.arraylength, 1) := by decide +kernel
theorem dX10_sum_7 : decode cX10_sum 7 = .ok (.if_icmp .ge 15, 3) := by decide +kernel
theorem dX10_sum_10 : decode cX10_sum 10 = .ok (.iload_n 1, 1) := by decide +kernel
theorem dX10_sum_11 : decode cX10_sum 11 = .ok (.aload_n 0, 1) := by decide +kernel
theorem dX10_sum_12 : decode cX10_sum 12 = .ok (.iload_n 2, 1) := by decide +kernel
theorem dX10_sum_13 : decode cX10_sum 13 = .ok (.iaload, 1) := by decide +kernel
theorem dX10_sum_14 : decode cX10_sum 14 = .ok (.iadd, 1) := by decide +kernel
theorem dX10_sum_15 : decode cX10_sum 15 = .ok (.istore_n 1, 1) := by decide +kernel
theorem dX10_sum_16 : decode cX10_sum 16 = .ok (.iinc 2 1, 3) := by decide +kernel
theorem dX10_sum_19 : decode cX10_sum 19 = .ok (.goto (-15), 3) := by decide +kernel
theorem dX10_sum_22 : decode cX10_sum 22 = .ok (.iload_n 1, 1) := by decide +kernel
theorem dX10_sum_23 : decode cX10_sum 23 = .ok (.ireturn, 1) := by decide +kernel
theorem dX10_fill_0 : decode cX10_fill 0 = .ok (.iconst 0, 1) := by decide +kernel
theorem dX10_fill_1 : decode cX10_fill 1 = .ok (.istore_n 2, 1) := by decide +kernel
theorem dX10_fill_2 : decode cX10_fill 2 = .ok (.iload_n 2, 1) := by decide +kernel
theorem dX10_fill_3 : decode cX10_fill 3 = .ok (.aload_n 0, 1) := by decide +kernel
theorem dX10_fill_4 : decode cX10_fill 4 = .ok (.arraylength, 1) := by decide +kernel
theorem dX10_fill_5 : decode cX10_fill 5 = .ok (.if_icmp .ge 13, 3) := by decide +kernel
theorem dX10_fill_8 : decode cX10_fill 8 = .ok (.aload_n 0, 1) := by decide +kernel
theorem dX10_fill_9 : decode cX10_fill 9 = .ok (.iload_n 2, 1) := by decide +kernel
theorem dX10_fill_10 : decode cX10_fill 10 = .ok (.iload_n 1, 1) := by decide +kernel
theorem dX10_fill_11 : decode cX10_fill 11 = .ok (.iastore, 1) := by decide +kernel
theorem dX10_fill_12 : decode cX10_fill 12 = .ok (.iinc 2 1, 3) := by decide +kernel
theorem dX10_fill_15 : decode cX10_fill 15 = .ok (.goto (-13), 3) := by decide +kernel
theorem dX10_fill_18 : decode cX10_fill 18 = .ok (.return_, 1) := by decide +kernel
theorem dX10_copyRow_0 : decode cX10_copyRow 0 = .ok (.aload_n 0, 1) := by decide +kernel
theorem dX10_copyRow_1 : decode cX10_copyRow 1 = .ok (.iconst 0, 1) := by decide +kernel
theorem dX10_copyRow_2 : decode cX10_copyRow 2 = .ok (.aload_n 1, 1) := by decide +kernel
theorem dX10_copyRow_3 : decode cX10_copyRow 3 = .ok (.iconst 0, 1) := by decide +kernel
theorem dX10_copyRow_4 : decode cX10_copyRow 4 = .ok (.aload_n 0, 1) := by decide +kernel
theorem dX10_copyRow_5 : decode cX10_copyRow 5 = .ok (.arraylength, 1) := by decide +kernel
theorem dX10_copyRow_6 : decode cX10_copyRow 6 = .ok (.aload_n 1, 1) := by decide +kernel
theorem dX10_copyRow_7 : decode cX10_copyRow 7 = .ok (.arraylength, 1) := by decide +kernel
theorem dX10_copyRow_8 : decode cX10_copyRow 8 = .ok (.invokestatic 373, 3) := by decide +kernel
theorem dX10_copyRow_11 : decode cX10_copyRow 11 = .ok (.invokestatic 378, 3) := by decide +kernel
theorem dX10_copyRow_14 : decode cX10_copyRow 14 = .ok (.return_, 1) := by decide +kernel
theorem dX10_copyState_0 : decode cX10_copyState 0 = .ok (.aload_n 0, 1) := by decide +kernel
theorem dX10_copyState_1 : decode cX10_copyState 1 = .ok (.ifnull 12, 3) := by decide +kernel
theorem dX10_copyState_4 : decode cX10_copyState 4 = .ok (.aload_n 1, 1) := by decide +kernel
theorem dX10_copyState_5 : decode cX10_copyState 5 = .ok (.ifnull 8, 3) := by decide +kernel
theorem dX10_copyState_8 : decode cX10_copyState 8 = .ok (.aload_n 1, 1) := by decide +kernel
theorem dX10_copyState_9 : decode cX10_copyState 9 = .ok (.aload_n 0, 1) := by decide +kernel
theorem dX10_copyState_10 : decode cX10_copyState 10 = .ok (.invokevirtual 88, 3) := by decide +kernel
theorem dX10_copyState_13 : decode cX10_copyState 13 = .ok (.return_, 1) := by decide +kernel
theorem dX11_init_0 : decode cX11_init 0 = .ok (.aload_n 0, 1) := by decide +kernel
theorem dX11_init_1 : decode cX11_init 1 = .ok (.invokespecial 1, 3) := by decide +kernel
theorem dX11_init_4 : decode cX11_init 4 = .ok (.aload_n 0, 1) := by decide +kernel
theorem dX11_init_5 : decode cX11_init 5 = .ok (.bipush 100, 2) := by decide +kernel
theorem dX11_init_7 : decode cX11_init 7 = .ok (.newarray .int, 2) := by decide +kernel
theorem dX11_init_9 : decode cX11_init 9 = .ok (.putfield 7, 3) := by decide +kernel
theorem dX11_init_12 : decode cX11_init 12 = .ok (.aload_n 0, 1) := by decide +kernel
theorem dX11_init_13 : decode cX11_init 13 = .ok (.sipush 175, 3) := by decide +kernel
theorem dX11_init_16 : decode cX11_init 16 = .ok (.newarray .int, 2) := by decide +kernel
theorem dX11_init_18 : decode cX11_init 18 = .ok (.putfield 13, 3) := by decide +kernel
theorem dX11_init_21 : decode cX11_init 21 = .ok (.aload_n 0, 1) := by decide +kernel
theorem dX11_init_22 : decode cX11_init 22 = .ok (.sipush 175, 3) := by decide +kernel
theorem dX11_init_25 : decode cX11_init 25 = .ok (.newarray .int, 2) := by decide +kernel
theorem dX11_init_27 : decode cX11_init 27 = .ok (.putfield 16, 3) := by decide +kernel
theorem dX11_init_30 : decode cX11_init 30 = .ok (.aload_n 0, 1) := by decide +kernel
theorem dX11_init_31 : decode cX11_init 31 = .ok (.sipush 175, 3) := by decide +kernel
theorem dX11_init_34 : decode cX11_init 34 = .ok (.newarray .int, 2) := by decide +kernel
theorem dX11_init_36 : decode cX11_init 36 = .ok (.putfield 19, 3) := by decide +kernel
theorem dX11_init_39 : decode cX11_init 39 = .ok (.aload_n 0, 1) := by decide +kernel
theorem dX11_init_40 : decode cX11_init 40 = .ok (.sipush 2450, 3) := by decide +kernel
theorem dX11_init_43 : decode cX11_init 43 = .ok (.newarray .int, 2) := by decide +kernel
theorem dX11_init_45 : decode cX11_init 45 = .ok (.putfield 22, 3) := by decide +kernel
theorem dX11_init_48 : decode cX11_init 48 = .ok (.aload_n 0, 1) := by decide +kernel
theorem dX11_init_49 : decode cX11_init 49 = .ok (.sipush 350, 3) := by decide +kernel
theorem dX11_init_52 : decode cX11_init 52 = .ok (.newarray .int, 2) := by decide +kernel
theorem dX11_init_54 : decode cX11_init 54 = .ok (.putfield 25, 3) := by decide +kernel
theorem dX11_init_57 : decode cX11_init 57 = .ok (.aload_n 0, 1) := by decide +kernel
theorem dX11_init_58 : decode cX11_init 58 = .ok (.iconst 2, 1) := by decide +kernel
theorem dX11_init_59 : decode cX11_init 59 = .ok (.newarray .boolean, 2) := by decide +kernel
theorem dX11_init_61 : decode cX11_init 61 = .ok (.putfield 28, 3) := by decide +kernel
theorem dX11_init_64 : decode cX11_init 64 = .ok (.aload_n 0, 1) := by decide +kernel
theorem dX11_init_65 : decode cX11_init 65 = .ok (.sipush 225, 3) := by decide +kernel
theorem dX11_init_68 : decode cX11_init 68 = .ok (.newarray .int, 2) := by decide +kernel
theorem dX11_init_70 : decode cX11_init 70 = .ok (.putfield 32, 3) := by decide +kernel
theorem dX11_init_73 : decode cX11_init 73 = .ok (.aload_n 0, 1) := by decide +kernel
theorem dX11_init_74 : decode cX11_init 74 = .ok (.bipush 24, 2) := by decide +kernel
theorem dX11_init_76 : decode cX11_init 76 = .ok (.newarray .int, 2) := by decide +kernel
theorem dX11_init_78 : decode cX11_init 78 = .ok (.putfield 35, 3) := by decide +kernel
theorem dX11_init_81 : decode cX11_init 81 = .ok (.aload_n 0, 1) := by decide +kernel
theorem dX11_init_82 : decode cX11_init 82 = .ok (.getfield 16, 3) := by decide +kernel
theorem dX11_init_85 : decode cX11_init 85 = .ok (.invokestatic 38, 3) := by decide +kernel
theorem dX11_init_88 : decode cX11_init 88 = .ok (.aload_n 0, 1) := by decide +kernel
theorem dX11_init_89 : decode cX11_init 89 = .ok (.getfield 16, 3) := by decide +kernel
theorem dX11_init_92 : decode cX11_init 92 = .ok (.iconst 0, 1) := by decide +kernel
theorem dX11_init_93 : decode cX11_init 93 = .ok (.iconst 3, 1) := by decide +kernel
theorem dX11_init_94 : decode cX11_init 94 = .ok (.iastore, 1) := by decide +kernel
theorem dX11_init_95 : decode cX11_init 95 = .ok (.aload_n 0, 1) := by decide +kernel
theorem dX11_init_96 : decode cX11_init 96 = .ok (.getfield 16, 3) := by decide +kernel
theorem dX11_init_99 : decode cX11_init 99 = .ok (.iconst 0, 1) := by decide +kernel
theorem dX11_init_100 : decode cX11_init 100 = .ok (.iconst 1, 1) := by decide +kernel
theorem dX11_init_101 : decode cX11_init 101 = .ok (.iconst 2, 1) := by decide +kernel
theorem dX11_init_102 : decode cX11_init 102 = .ok (.invokestatic 42, 3) := by decide +kernel
theorem dX11_init_105 : decode cX11_init 105 = .ok (.aload_n 0, 1) := by decide +kernel
theorem dX11_init_106 : decode cX11_init 106 = .ok (.getfield 16, 3) := by decide +kernel
theorem dX11_init_109 : decode cX11_init 109 = .ok (.iconst 1, 1) := by decide +kernel
theorem dX11_init_110 : decode cX11_init 110 = .ok (.iconst 2, 1) := by decide +kernel
theorem dX11_init_111 : decode cX11_init 111 = .ok (.iconst 2, 1) := by decide +kernel
theorem dX11_init_112 : decode cX11_init 112 = .ok (.invokestatic 42, 3) := by decide +kernel
theorem dX11_init_115 : decode cX11_init 115 = .ok (.return_, 1) := by decide +kernel
theorem dX11_thrown_0 : decode cX11_thrown 0 = .ok (.aload_n 0, 1) := by decide +kernel
theorem dX11_thrown_1 : decode cX11_thrown 1 = .ok (.getfield 46, 3) := by decide +kernel
theorem dX11_thrown_4 : decode cX11_thrown 4 = .ok (.ireturn, 1) := by decide +kernel
theorem dX11_refused_0 : decode cX11_refused 0 = .ok (.aload_n 0, 1) := by decide +kernel
theorem dX11_refused_1 : decode cX11_refused 1 = .ok (.iload_n 1, 1) := by decide +kernel
theorem dX11_refused_2 : decode cX11_refused 2 = .ok (.putfield 46, 3) := by decide +kernel
theorem dX11_refused_5 : decode cX11_refused 5 = .ok (.iload_n 1, 1) := by decide +kernel
theorem dX11_refused_6 : decode cX11_refused 6 = .ok (.ifCond .le 7, 3) := by decide +kernel
theorem dX11_refused_9 : decode cX11_refused 9 = .ok (.iconst 1, 1) := by decide +kernel
theorem dX11_refused_10 : decode cX11_refused 10 = .ok (.goto 4, 3) := by decide +kernel
theorem dX11_refused_13 : decode cX11_refused 13 = .ok (.iconst 0, 1) := by decide +kernel
theorem dX11_refused_14 : decode cX11_refused 14 = .ok (.ireturn, 1) := by decide +kernel
theorem dX11_in_0 : decode cX11_in 0 = .ok (.lload_n 0, 1) := by decide +kernel
theorem dX11_in_1 : decode cX11_in 1 = .ok (.lload_n 2, 1) := by decide +kernel
theorem dX11_in_2 : decode cX11_in 2 = .ok (.lcmp, 1) := by decide +kernel
theorem dX11_in_3 : decode cX11_in 3 = .ok (.ifCond .lt 14, 3) := by decide +kernel
theorem dX11_in_6 : decode cX11_in 6 = .ok (.lload_n 0, 1) := by decide +kernel
theorem dX11_in_7 : decode cX11_in 7 = .ok (.lload 4, 2) := by decide +kernel
theorem dX11_in_9 : decode cX11_in 9 = .ok (.lcmp, 1) := by decide +kernel
theorem dX11_in_10 : decode cX11_in 10 = .ok (.ifCond .gt 7, 3) := by decide +kernel
theorem dX11_in_13 : decode cX11_in 13 = .ok (.iconst 1, 1) := by decide +kernel
theorem dX11_in_14 : decode cX11_in 14 = .ok (.goto 4, 3) := by decide +kernel
theorem dX11_in_17 : decode cX11_in 17 = .ok (.iconst 0, 1) := by decide +kernel
theorem dX11_in_18 : decode cX11_in 18 = .ok (.ireturn, 1) := by decide +kernel
theorem dX11_copyPage_0 : decode cX11_copyPage 0 = .ok (.iconst 0, 1) := by decide +kernel
theorem dX11_copyPage_1 : decode cX11_copyPage 1 = .ok (.istore 4, 2) := by decide +kernel
theorem dX11_copyPage_3 : decode cX11_copyPage 3 = .ok (.iload 4, 2) := by decide +kernel
theorem dX11_copyPage_5 : decode cX11_copyPage 5 = .ok (.sipush 175, 3) := by decide +kernel
theorem dX11_copyPage_8 : decode cX11_copyPage 8 = .ok (.if_icmp .ge 21, 3) := by decide +kernel
theorem dX11_copyPage_11 : decode cX11_copyPage 11 = .ok (.aload_n 2, 1) := by decide +kernel
theorem dX11_copyPage_12 : decode cX11_copyPage 12 = .ok (.iload_n 3, 1) := by decide +kernel
theorem dX11_copyPage_13 : decode cX11_copyPage 13 = .ok (.iload 4, 2) := by decide +kernel
theorem dX11_copyPage_15 : decode cX11_copyPage 15 = .ok (.iadd, 1) := by decide +kernel
theorem dX11_copyPage_16 : decode cX11_copyPage 16 = .ok (.aload_n 0, 1) := by decide +kernel
theorem dX11_copyPage_17 : decode cX11_copyPage 17 = .ok (.iload_n 1, 1) := by decide +kernel
theorem dX11_copyPage_18 : decode cX11_copyPage 18 = .ok (.iload 4, 2) := by decide +kernel
theorem dX11_copyPage_20 : decode cX11_copyPage 20 = .ok (.iadd, 1) := by decide +kernel
theorem dX11_copyPage_21 : decode cX11_copyPage 21 = .ok (.iaload, 1) := by decide +kernel
theorem dX11_copyPage_22 : decode cX11_copyPage 22 = .ok (.iastore, 1) := by decide +kernel
theorem dX11_copyPage_23 : decode cX11_copyPage 23 = .ok (.iinc 4 1, 3) := by decide +kernel
theorem dX11_copyPage_26 : decode cX11_copyPage 26 = .ok (.goto (-23), 3) := by decide +kernel
theorem dX11_copyPage_29 : decode cX11_copyPage 29 = .ok (.return_, 1) := by decide +kernel
theorem dX11_trackAt_0 : decode cX11_trackAt 0 = .ok (.bipush 11, 2) := by decide +kernel
theorem dX11_trackAt_2 : decode cX11_trackAt 2 = .ok (.iconst 4, 1) := by decide +kernel
theorem dX11_trackAt_3 : decode cX11_trackAt 3 = .ok (.iload_n 0, 1) := by decide +kernel
theorem dX11_trackAt_4 : decode cX11_trackAt 4 = .ok (.imul, 1) := by decide +kernel
theorem dX11_trackAt_5 : decode cX11_trackAt 5 = .ok (.iadd, 1) := by decide +kernel
theorem dX11_trackAt_6 : decode cX11_trackAt 6 = .ok (.ireturn, 1) := by decide +kernel
theorem dX11_companyAt_0 : decode cX11_companyAt 0 = .ok (.bipush 75, 2) := by decide +kernel
theorem dX11_companyAt_2 : decode cX11_companyAt 2 = .ok (.iconst 5, 1) := by decide +kernel
theorem dX11_companyAt_3 : decode cX11_companyAt 3 = .ok (.iload_n 0, 1) := by decide +kernel
theorem dX11_companyAt_4 : decode cX11_companyAt 4 = .ok (.imul, 1) := by decide +kernel
theorem dX11_companyAt_5 : decode cX11_companyAt 5 = .ok (.iadd, 1) := by decide +kernel
theorem dX11_companyAt_6 : decode cX11_companyAt 6 = .ok (.ireturn, 1) := by decide +kernel
theorem dX11_trainAt_0 : decode cX11_trainAt 0 = .ok (.bipush 95, 2) := by decide +kernel
theorem dX11_trainAt_2 : decode cX11_trainAt 2 = .ok (.bipush 8, 2) := by decide +kernel
theorem dX11_trainAt_4 : decode cX11_trainAt 4 = .ok (.iload_n 0, 1) := by decide +kernel
theorem dX11_trainAt_5 : decode cX11_trainAt 5 = .ok (.imul, 1) := by decide +kernel
theorem dX11_trainAt_6 : decode cX11_trainAt 6 = .ok (.iadd, 1) := by decide +kernel
theorem dX11_trainAt_7 : decode cX11_trainAt 7 = .ok (.iconst 2, 1) := by decide +kernel
theorem dX11_trainAt_8 : decode cX11_trainAt 8 = .ok (.iload_n 1, 1) := by decide +kernel
theorem dX11_trainAt_9 : decode cX11_trainAt 9 = .ok (.imul, 1) := by decide +kernel
theorem dX11_trainAt_10 : decode cX11_trainAt 10 = .ok (.iadd, 1) := by decide +kernel
theorem dX11_trainAt_11 : decode cX11_trainAt 11 = .ok (.ireturn, 1) := by decide +kernel
theorem dX11_contractAt_0 : decode cX11_contractAt 0 = .ok (.bipush 127, 2) := by decide +kernel
theorem dX11_contractAt_2 : decode cX11_contractAt 2 = .ok (.bipush 6, 2) := by decide +kernel
theorem dX11_contractAt_4 : decode cX11_contractAt 4 = .ok (.iload_n 0, 1) := by decide +kernel
theorem dX11_contractAt_5 : decode cX11_contractAt 5 = .ok (.imul, 1) := by decide +kernel
theorem dX11_contractAt_6 : decode cX11_contractAt 6 = .ok (.iadd, 1) := by decide +kernel
theorem dX11_contractAt_7 : decode cX11_contractAt 7 = .ok (.ireturn, 1) := by decide +kernel
theorem dX11_begin_0 : decode cX11_begin 0 = .ok (.iconst 0, 1) := by decide +kernel
theorem dX11_begin_1 : decode cX11_begin 1 = .ok (.istore_n 1, 1) := by decide +kernel
theorem dX11_begin_2 : decode cX11_begin 2 = .ok (.iload_n 1, 1) := by decide +kernel
theorem dX11_begin_3 : decode cX11_begin 3 = .ok (.sipush 175, 3) := by decide +kernel
theorem dX11_begin_6 : decode cX11_begin 6 = .ok (.if_icmp .ge 13, 3) := by decide +kernel
theorem dX11_begin_9 : decode cX11_begin 9 = .ok (.aload_n 0, 1) := by decide +kernel
theorem dX11_begin_10 : decode cX11_begin 10 = .ok (.iload_n 1, 1) := by decide +kernel
theorem dX11_begin_11 : decode cX11_begin 11 = .ok (.iconst 0, 1) := by decide +kernel
theorem dX11_begin_12 : decode cX11_begin 12 = .ok (.iastore, 1) := by decide +kernel
theorem dX11_begin_13 : decode cX11_begin 13 = .ok (.iinc 1 1, 3) := by decide +kernel
theorem dX11_begin_16 : decode cX11_begin 16 = .ok (.goto (-14), 3) := by decide +kernel
theorem dX11_begin_19 : decode cX11_begin 19 = .ok (.aload_n 0, 1) := by decide +kernel
theorem dX11_begin_20 : decode cX11_begin 20 = .ok (.iconst 3, 1) := by decide +kernel
theorem dX11_begin_21 : decode cX11_begin 21 = .ok (.iconst 1, 1) := by decide +kernel
theorem dX11_begin_22 : decode cX11_begin 22 = .ok (.iastore, 1) := by decide +kernel
theorem dX11_begin_23 : decode cX11_begin 23 = .ok (.aload_n 0, 1) := by decide +kernel
theorem dX11_begin_24 : decode cX11_begin 24 = .ok (.iconst 5, 1) := by decide +kernel
theorem dX11_begin_25 : decode cX11_begin 25 = .ok (.sipush (-400), 3) := by decide +kernel
theorem dX11_begin_28 : decode cX11_begin 28 = .ok (.iastore, 1) := by decide +kernel
theorem dX11_begin_29 : decode cX11_begin 29 = .ok (.iconst 0, 1) := by decide +kernel
theorem dX11_begin_30 : decode cX11_begin 30 = .ok (.istore_n 1, 1) := by decide +kernel
theorem dX11_begin_31 : decode cX11_begin 31 = .ok (.iload_n 1, 1) := by decide +kernel
theorem dX11_begin_32 : decode cX11_begin 32 = .ok (.iconst 4, 1) := by decide +kernel
theorem dX11_begin_33 : decode cX11_begin 33 = .ok (.if_icmp .ge 26, 3) := by decide +kernel
theorem dX11_begin_36 : decode cX11_begin 36 = .ok (.aload_n 0, 1) := by decide +kernel
theorem dX11_begin_37 : decode cX11_begin 37 = .ok (.iload_n 1, 1) := by decide +kernel
theorem dX11_begin_38 : decode cX11_begin 38 = .ok (.invokestatic 50, 3) := by decide +kernel
theorem dX11_begin_41 : decode cX11_begin 41 = .ok (.bipush 100, 2) := by decide +kernel
theorem dX11_begin_43 : decode cX11_begin 43 = .ok (.iastore, 1) := by decide +kernel
theorem dX11_begin_44 : decode cX11_begin 44 = .ok (.aload_n 0, 1) := by decide +kernel
theorem dX11_begin_45 : decode cX11_begin 45 = .ok (.iload_n 1, 1) := by decide +kernel
theorem dX11_begin_46 : decode cX11_begin 46 = .ok (.invokestatic 50, 3) := by decide +kernel
theorem dX11_begin_49 : decode cX11_begin 49 = .ok (.iconst 1, 1) := by decide +kernel
theorem dX11_begin_50 : decode cX11_begin 50 = .ok (.iadd, 1) := by decide +kernel
theorem dX11_begin_51 : decode cX11_begin 51 = .ok (.iconst 1, 1) := by decide +kernel
theorem dX11_begin_52 : decode cX11_begin 52 = .ok (.iastore, 1) := by decide +kernel
theorem dX11_begin_53 : decode cX11_begin 53 = .ok (.iinc 1 1, 3) := by decide +kernel
theorem dX11_begin_56 : decode cX11_begin 56 = .ok (.goto (-25), 3) := by decide +kernel
theorem dX11_begin_59 : decode cX11_begin 59 = .ok (.return_, 1) := by decide +kernel
theorem dX11_addTrack_0 : decode cX11_addTrack 0 = .ok (.aload_n 0, 1) := by decide +kernel
theorem dX11_addTrack_1 : decode cX11_addTrack 1 = .ok (.iconst 1, 1) := by decide +kernel
theorem dX11_addTrack_2 : decode cX11_addTrack 2 = .ok (.iaload, 1) := by decide +kernel
theorem dX11_addTrack_3 : decode cX11_addTrack 3 = .ok (.invokestatic 54, 3) := by decide +kernel
theorem dX11_addTrack_6 : decode cX11_addTrack 6 = .ok (.istore 4, 2) := by decide +kernel
theorem dX11_addTrack_8 : decode cX11_addTrack 8 = .ok (.aload_n 0, 1) := by decide +kernel
theorem dX11_addTrack_9 : decode cX11_addTrack 9 = .ok (.iload 4, 2) := by decide +kernel
theorem dX11_addTrack_11 : decode cX11_addTrack 11 = .ok (.iload_n 1, 1) := by decide +kernel
theorem dX11_addTrack_12 : decode cX11_addTrack 12 = .ok (.iastore, 1) := by decide +kernel
theorem dX11_addTrack_13 : decode cX11_addTrack 13 = .ok (.aload_n 0, 1) := by decide +kernel
theorem dX11_addTrack_14 : decode cX11_addTrack 14 = .ok (.iload 4, 2) := by decide +kernel
theorem dX11_addTrack_16 : decode cX11_addTrack 16 = .ok (.iconst 1, 1) := by decide +kernel
theorem dX11_addTrack_17 : decode cX11_addTrack 17 = .ok (.iadd, 1) := by decide +kernel
theorem dX11_addTrack_18 : decode cX11_addTrack 18 = .ok (.iload_n 2, 1) := by decide +kernel
theorem dX11_addTrack_19 : decode cX11_addTrack 19 = .ok (.iastore, 1) := by decide +kernel
theorem dX11_addTrack_20 : decode cX11_addTrack 20 = .ok (.aload_n 0, 1) := by decide +kernel
theorem dX11_addTrack_21 : decode cX11_addTrack 21 = .ok (.iload 4, 2) := by decide +kernel
theorem dX11_addTrack_23 : decode cX11_addTrack 23 = .ok (.iconst 2, 1) := by decide +kernel
theorem dX11_addTrack_24 : decode cX11_addTrack 24 = .ok (.iadd, 1) := by decide +kernel
theorem dX11_addTrack_25 : decode cX11_addTrack 25 = .ok (.iload_n 3, 1) := by decide +kernel
theorem dX11_addTrack_26 : decode cX11_addTrack 26 = .ok (.iastore, 1) := by decide +kernel
theorem dX11_addTrack_27 : decode cX11_addTrack 27 = .ok (.aload_n 0, 1) := by decide +kernel
theorem dX11_addTrack_28 : decode cX11_addTrack 28 = .ok (.iload 4, 2) := by decide +kernel
theorem dX11_addTrack_30 : decode cX11_addTrack 30 = .ok (.iconst 3, 1) := by decide +kernel
theorem dX11_addTrack_31 : decode cX11_addTrack 31 = .ok (.iadd, 1) := by decide +kernel
theorem dX11_addTrack_32 : decode cX11_addTrack 32 = .ok (.bipush (-9), 2) := by decide +kernel
theorem dX11_addTrack_34 : decode cX11_addTrack 34 = .ok (.iastore, 1) := by decide +kernel
theorem dX11_addTrack_35 : decode cX11_addTrack 35 = .ok (.aload_n 0, 1) := by decide +kernel
theorem dX11_addTrack_36 : decode cX11_addTrack 36 = .ok (.iconst 1, 1) := by decide +kernel
theorem dX11_addTrack_37 : decode cX11_addTrack 37 = .ok (.dup2, 1) := by decide +kernel
theorem dX11_addTrack_38 : decode cX11_addTrack 38 = .ok (.iaload, 1) := by decide +kernel
theorem dX11_addTrack_39 : decode cX11_addTrack 39 = .ok (.iconst 1, 1) := by decide +kernel
theorem dX11_addTrack_40 : decode cX11_addTrack 40 = .ok (.iadd, 1) := by decide +kernel
theorem dX11_addTrack_41 : decode cX11_addTrack 41 = .ok (.iastore, 1) := by decide +kernel
theorem dX11_addTrack_42 : decode cX11_addTrack 42 = .ok (.return_, 1) := by decide +kernel
theorem dX11_addContract_0 : decode cX11_addContract 0 = .ok (.aload_n 0, 1) := by decide +kernel
theorem dX11_addContract_1 : decode cX11_addContract 1 = .ok (.iconst 2, 1) := by decide +kernel
theorem dX11_addContract_2 : decode cX11_addContract 2 = .ok (.iaload, 1) := by decide +kernel
theorem dX11_addContract_3 : decode cX11_addContract 3 = .ok (.invokestatic 57, 3) := by decide +kernel
theorem dX11_addContract_6 : decode cX11_addContract 6 = .ok (.istore 5, 2) := by decide +kernel
theorem dX11_addContract_8 : decode cX11_addContract 8 = .ok (.aload_n 0, 1) := by decide +kernel
theorem dX11_addContract_9 : decode cX11_addContract 9 = .ok (.iload 5, 2) := by decide +kernel
theorem dX11_addContract_11 : decode cX11_addContract 11 = .ok (.iload_n 1, 1) := by decide +kernel
theorem dX11_addContract_12 : decode cX11_addContract 12 = .ok (.iastore, 1) := by decide +kernel
theorem dX11_addContract_13 : decode cX11_addContract 13 = .ok (.aload_n 0, 1) := by decide +kernel
theorem dX11_addContract_14 : decode cX11_addContract 14 = .ok (.iload 5, 2) := by decide +kernel
theorem dX11_addContract_16 : decode cX11_addContract 16 = .ok (.iconst 1, 1) := by decide +kernel
theorem dX11_addContract_17 : decode cX11_addContract 17 = .ok (.iadd, 1) := by decide +kernel
theorem dX11_addContract_18 : decode cX11_addContract 18 = .ok (.iload_n 2, 1) := by decide +kernel
theorem dX11_addContract_19 : decode cX11_addContract 19 = .ok (.iastore, 1) := by decide +kernel
theorem dX11_addContract_20 : decode cX11_addContract 20 = .ok (.aload_n 0, 1) := by decide +kernel
theorem dX11_addContract_21 : decode cX11_addContract 21 = .ok (.iload 5, 2) := by decide +kernel
theorem dX11_addContract_23 : decode cX11_addContract 23 = .ok (.iconst 2, 1) := by decide +kernel
theorem dX11_addContract_24 : decode cX11_addContract 24 = .ok (.iadd, 1) := by decide +kernel
theorem dX11_addContract_25 : decode cX11_addContract 25 = .ok (.iload_n 3, 1) := by decide +kernel
theorem dX11_addContract_26 : decode cX11_addContract 26 = .ok (.iastore, 1) := by decide +kernel
theorem dX11_addContract_27 : decode cX11_addContract 27 = .ok (.aload_n 0, 1) := by decide +kernel
theorem dX11_addContract_28 : decode cX11_addContract 28 = .ok (.iload 5, 2) := by decide +kernel
theorem dX11_addContract_30 : decode cX11_addContract 30 = .ok (.iconst 3, 1) := by decide +kernel
theorem dX11_addContract_31 : decode cX11_addContract 31 = .ok (.iadd, 1) := by decide +kernel
theorem dX11_addContract_32 : decode cX11_addContract 32 = .ok (.iload 4, 2) := by decide +kernel
theorem dX11_addContract_34 : decode cX11_addContract 34 = .ok (.iastore, 1) := by decide +kernel
theorem dX11_addContract_35 : decode cX11_addContract 35 = .ok (.aload_n 0, 1) := by decide +kernel
theorem dX11_addContract_36 : decode cX11_addContract 36 = .ok (.iload 5, 2) := by decide +kernel
theorem dX11_addContract_38 : decode cX11_addContract 38 = .ok (.iconst 4, 1) := by decide +kernel
theorem dX11_addContract_39 : decode cX11_addContract 39 = .ok (.iadd, 1) := by decide +kernel
theorem dX11_addContract_40 : decode cX11_addContract 40 = .ok (.bipush (-9), 2) := by decide +kernel
theorem dX11_addContract_42 : decode cX11_addContract 42 = .ok (.iastore, 1) := by decide +kernel
theorem dX11_addContract_43 : decode cX11_addContract 43 = .ok (.aload_n 0, 1) := by decide +kernel
theorem dX11_addContract_44 : decode cX11_addContract 44 = .ok (.iload 5, 2) := by decide +kernel
theorem dX11_addContract_46 : decode cX11_addContract 46 = .ok (.iconst 5, 1) := by decide +kernel
theorem dX11_addContract_47 : decode cX11_addContract 47 = .ok (.iadd, 1) := by decide +kernel
theorem dX11_addContract_48 : decode cX11_addContract 48 = .ok (.iconst 0, 1) := by decide +kernel
theorem dX11_addContract_49 : decode cX11_addContract 49 = .ok (.iastore, 1) := by decide +kernel
theorem dX11_addContract_50 : decode cX11_addContract 50 = .ok (.aload_n 0, 1) := by decide +kernel
theorem dX11_addContract_51 : decode cX11_addContract 51 = .ok (.iconst 2, 1) := by decide +kernel
theorem dX11_addContract_52 : decode cX11_addContract 52 = .ok (.dup2, 1) := by decide +kernel
theorem dX11_addContract_53 : decode cX11_addContract 53 = .ok (.iaload, 1) := by decide +kernel
theorem dX11_addContract_54 : decode cX11_addContract 54 = .ok (.iconst 1, 1) := by decide +kernel
theorem dX11_addContract_55 : decode cX11_addContract 55 = .ok (.iadd, 1) := by decide +kernel
theorem dX11_addContract_56 : decode cX11_addContract 56 = .ok (.iastore, 1) := by decide +kernel
theorem dX11_addContract_57 : decode cX11_addContract 57 = .ok (.return_, 1) := by decide +kernel
theorem dX11_isCompany_0 : decode cX11_isCompany 0 = .ok (.iload_n 0, 1) := by decide +kernel
theorem dX11_isCompany_1 : decode cX11_isCompany 1 = .ok (.i2l, 1) := by decide +kernel
theorem dX11_isCompany_2 : decode cX11_isCompany 2 = .ok (.lconst 0, 1) := by decide +kernel
theorem dX11_isCompany_3 : decode cX11_isCompany 3 = .ok (.ldc2_w 60, 3) := by decide +kernel
theorem dX11_isCompany_6 : decode cX11_isCompany 6 = .ok (.invokestatic 62, 3) := by decide +kernel
theorem dX11_isCompany_9 : decode cX11_isCompany 9 = .ok (.ireturn, 1) := by decide +kernel
theorem dX11_isTrack_0 : decode cX11_isTrack 0 = .ok (.iload_n 1, 1) := by decide +kernel
theorem dX11_isTrack_1 : decode cX11_isTrack 1 = .ok (.i2l, 1) := by decide +kernel
theorem dX11_isTrack_2 : decode cX11_isTrack 2 = .ok (.lconst 0, 1) := by decide +kernel
theorem dX11_isTrack_3 : decode cX11_isTrack 3 = .ok (.aload_n 0, 1) := by decide +kernel
theorem dX11_isTrack_4 : decode cX11_isTrack 4 = .ok (.iconst 1, 1) := by decide +kernel
theorem dX11_isTrack_5 : decode cX11_isTrack 5 = .ok (.iaload, 1) := by decide +kernel
theorem dX11_isTrack_6 : decode cX11_isTrack 6 = .ok (.iconst 1, 1) := by decide +kernel
theorem dX11_isTrack_7 : decode cX11_isTrack 7 = .ok (.isub, 1) := by decide +kernel
theorem dX11_isTrack_8 : decode cX11_isTrack 8 = .ok (.i2l, 1) := by decide +kernel
theorem dX11_isTrack_9 : decode cX11_isTrack 9 = .ok (.invokestatic 62, 3) := by decide +kernel
theorem dX11_isTrack_12 : decode cX11_isTrack 12 = .ok (.ireturn, 1) := by decide +kernel
theorem dX11_isContract_0 : decode cX11_isContract 0 = .ok (.iload_n 1, 1) := by decide +kernel
theorem dX11_isContract_1 : decode cX11_isContract 1 = .ok (.i2l, 1) := by decide +kernel
theorem dX11_isContract_2 : decode cX11_isContract 2 = .ok (.lconst 0, 1) := by decide +kernel
theorem dX11_isContract_3 : decode cX11_isContract 3 = .ok (.aload_n 0, 1) := by decide +kernel
theorem dX11_isContract_4 : decode cX11_isContract 4 = .ok (.iconst 2, 1) := by decide +kernel
theorem dX11_isContract_5 : decode cX11_isContract 5 = .ok (.iaload, 1) := by decide +kernel
theorem dX11_isContract_6 : decode cX11_isContract 6 = .ok (.iconst 1, 1) := by decide +kernel
theorem dX11_isContract_7 : decode cX11_isContract 7 = .ok (.isub, 1) := by decide +kernel
theorem dX11_isContract_8 : decode cX11_isContract 8 = .ok (.i2l, 1) := by decide +kernel
theorem dX11_isContract_9 : decode cX11_isContract 9 = .ok (.invokestatic 62, 3) := by decide +kernel
theorem dX11_isContract_12 : decode cX11_isContract 12 = .ok (.ireturn, 1) := by decide +kernel
theorem dX11_trainsOf_0 : decode cX11_trainsOf 0 = .ok (.aload_n 0, 1) := by decide +kernel
theorem dX11_trainsOf_1 : decode cX11_trainsOf 1 = .ok (.iload_n 1, 1) := by decide +kernel
theorem dX11_trainsOf_2 : decode cX11_trainsOf 2 = .ok (.invokestatic 50, 3) := by decide +kernel
theorem dX11_trainsOf_5 : decode cX11_trainsOf 5 = .ok (.iconst 2, 1) := by decide +kernel
theorem dX11_trainsOf_6 : decode cX11_trainsOf 6 = .ok (.iadd, 1) := by decide +kernel
theorem dX11_trainsOf_7 : decode cX11_trainsOf 7 = .ok (.iaload, 1) := by decide +kernel
theorem dX11_trainsOf_8 : decode cX11_trainsOf 8 = .ok (.ireturn, 1) := by decide +kernel
theorem dX11_isTrain_0 : decode cX11_isTrain 0 = .ok (.iload_n 2, 1) := by decide +kernel
theorem dX11_isTrain_1 : decode cX11_isTrain 1 = .ok (.i2l, 1) := by decide +kernel
theorem dX11_isTrain_2 : decode cX11_isTrain 2 = .ok (.lconst 0, 1) := by decide +kernel
theorem dX11_isTrain_3 : decode cX11_isTrain 3 = .ok (.aload_n 0, 1) := by decide +kernel
theorem dX11_isTrain_4 : decode cX11_isTrain 4 = .ok (.iload_n 1, 1) := by decide +kernel
theorem dX11_isTrain_5 : decode cX11_isTrain 5 = .ok (.invokestatic 66, 3) := by decide +kernel
theorem dX11_isTrain_8 : decode cX11_isTrain 8 = .ok (.iconst 1, 1) := by decide +kernel
theorem dX11_isTrain_9 : decode cX11_isTrain 9 = .ok (.isub, 1) := by decide +kernel
theorem dX11_isTrain_10 : decode cX11_isTrain 10 = .ok (.i2l, 1) := by decide +kernel
theorem dX11_isTrain_11 : decode cX11_isTrain 11 = .ok (.invokestatic 62, 3) := by decide +kernel
theorem dX11_isTrain_14 : decode cX11_isTrain 14 = .ok (.ireturn, 1) := by decide +kernel
theorem dX11_costOf_0 : decode cX11_costOf 0 = .ok (.aload_n 0, 1) := by decide +kernel
theorem dX11_costOf_1 : decode cX11_costOf 1 = .ok (.iload_n 2, 1) := by decide +kernel
theorem dX11_costOf_2 : decode cX11_costOf 2 = .ok (.invokestatic 54, 3) := by decide +kernel
theorem dX11_costOf_5 : decode cX11_costOf 5 = .ok (.iconst 3, 1) := by decide +kernel
theorem dX11_costOf_6 : decode cX11_costOf 6 = .ok (.iadd, 1) := by decide +kernel
theorem dX11_costOf_7 : decode cX11_costOf 7 = .ok (.iaload, 1) := by decide +kernel
theorem dX11_costOf_8 : decode cX11_costOf 8 = .ok (.istore_n 3, 1) := by decide +kernel
theorem dX11_costOf_9 : decode cX11_costOf 9 = .ok (.iload_n 3, 1) := by decide +kernel
theorem dX11_costOf_10 : decode cX11_costOf 10 = .ok (.iload_n 1, 1) := by decide +kernel
theorem dX11_costOf_11 : decode cX11_costOf 11 = .ok (.if_icmp .ne 7, 3) := by decide +kernel
theorem dX11_costOf_14 : decode cX11_costOf 14 = .ok (.iconst 0, 1) := by decide +kernel
theorem dX11_costOf_15 : decode cX11_costOf 15 = .ok (.goto 21, 3) := by decide +kernel
theorem dX11_costOf_18 : decode cX11_costOf 18 = .ok (.iload_n 3, 1) := by decide +kernel
theorem dX11_costOf_19 : decode cX11_costOf 19 = .ok (.bipush (-9), 2) := by decide +kernel
theorem dX11_costOf_21 : decode cX11_costOf 21 = .ok (.if_icmp .ne 7, 3) := by decide +kernel
theorem dX11_costOf_24 : decode cX11_costOf 24 = .ok (.iconst 1, 1) := by decide +kernel
theorem dX11_costOf_25 : decode cX11_costOf 25 = .ok (.goto 11, 3) := by decide +kernel
theorem dX11_costOf_28 : decode cX11_costOf 28 = .ok (.aload_n 0, 1) := by decide +kernel
theorem dX11_costOf_29 : decode cX11_costOf 29 = .ok (.iload_n 3, 1) := by decide +kernel
theorem dX11_costOf_30 : decode cX11_costOf 30 = .ok (.invokestatic 50, 3) := by decide +kernel
theorem dX11_costOf_33 : decode cX11_costOf 33 = .ok (.iconst 1, 1) := by decide +kernel
theorem dX11_costOf_34 : decode cX11_costOf 34 = .ok (.iadd, 1) := by decide +kernel
theorem dX11_costOf_35 : decode cX11_costOf 35 = .ok (.iaload, 1) := by decide +kernel
theorem dX11_costOf_36 : decode cX11_costOf 36 = .ok (.istore 4, 2) := by decide +kernel
theorem dX11_costOf_38 : decode cX11_costOf 38 = .ok (.iload 4, 2) := by decide +kernel
theorem dX11_costOf_40 : decode cX11_costOf 40 = .ok (.aload_n 0, 1) := by decide +kernel
theorem dX11_costOf_41 : decode cX11_costOf 41 = .ok (.iload_n 2, 1) := by decide +kernel
theorem dX11_costOf_42 : decode cX11_costOf 42 = .ok (.invokestatic 54, 3) := by decide +kernel
theorem dX11_costOf_45 : decode cX11_costOf 45 = .ok (.iconst 2, 1) := by decide +kernel
theorem dX11_costOf_46 : decode cX11_costOf 46 = .ok (.iadd, 1) := by decide +kernel
theorem dX11_costOf_47 : decode cX11_costOf 47 = .ok (.iaload, 1) := by decide +kernel
theorem dX11_costOf_48 : decode cX11_costOf 48 = .ok (.imul, 1) := by decide +kernel
theorem dX11_costOf_49 : decode cX11_costOf 49 = .ok (.ireturn, 1) := by decide +kernel
theorem dX11_across_0 : decode cX11_across 0 = .ok (.iload_n 1, 1) := by decide +kernel
theorem dX11_across_1 : decode cX11_across 1 = .ok (.invokestatic 54, 3) := by decide +kernel
theorem dX11_across_4 : decode cX11_across 4 = .ok (.istore_n 3, 1) := by decide +kernel
theorem dX11_across_5 : decode cX11_across 5 = .ok (.aload_n 0, 1) := by decide +kernel
theorem dX11_across_6 : decode cX11_across 6 = .ok (.iload_n 3, 1) := by decide +kernel
theorem dX11_across_7 : decode cX11_across 7 = .ok (.iaload, 1) := by decide +kernel
theorem dX11_across_8 : decode cX11_across 8 = .ok (.iload_n 2, 1) := by decide +kernel
theorem dX11_across_9 : decode cX11_across 9 = .ok (.if_icmp .ne 11, 3) := by decide +kernel
theorem dX11_across_12 : decode cX11_across 12 = .ok (.aload_n 0, 1) := by decide +kernel
theorem dX11_across_13 : decode cX11_across 13 = .ok (.iload_n 3, 1) := by decide +kernel
theorem dX11_across_14 : decode cX11_across 14 = .ok (.iconst 1, 1) := by decide +kernel
theorem dX11_across_15 : decode cX11_across 15 = .ok (.iadd, 1) := by decide +kernel
theorem dX11_across_16 : decode cX11_across 16 = .ok (.iaload, 1) := by decide +kernel
theorem dX11_across_17 : decode cX11_across 17 = .ok (.goto 20, 3) := by decide +kernel
theorem dX11_across_20 : decode cX11_across 20 = .ok (.aload_n 0, 1) := by decide +kernel
theorem dX11_across_21 : decode cX11_across 21 = .ok (.iload_n 3, 1) := by decide +kernel
theorem dX11_across_22 : decode cX11_across 22 = .ok (.iconst 1, 1) := by decide +kernel
theorem dX11_across_23 : decode cX11_across 23 = .ok (.iadd, 1) := by decide +kernel
theorem dX11_across_24 : decode cX11_across 24 = .ok (.iaload, 1) := by decide +kernel
theorem dX11_across_25 : decode cX11_across 25 = .ok (.iload_n 2, 1) := by decide +kernel
theorem dX11_across_26 : decode cX11_across 26 = .ok (.if_icmp .ne 9, 3) := by decide +kernel
theorem dX11_across_29 : decode cX11_across 29 = .ok (.aload_n 0, 1) := by decide +kernel
theorem dX11_across_30 : decode cX11_across 30 = .ok (.iload_n 3, 1) := by decide +kernel
theorem dX11_across_31 : decode cX11_across 31 = .ok (.iaload, 1) := by decide +kernel
theorem dX11_across_32 : decode cX11_across 32 = .ok (.goto 5, 3) := by decide +kernel
theorem dX11_across_35 : decode cX11_across 35 = .ok (.bipush (-9), 2) := by decide +kernel
theorem dX11_across_37 : decode cX11_across 37 = .ok (.ireturn, 1) := by decide +kernel
theorem dX11_goneBy_0 : decode cX11_goneBy 0 = .ok (.aload_n 1, 1) := by decide +kernel
theorem dX11_goneBy_1 : decode cX11_goneBy 1 = .ok (.iload_n 3, 1) := by decide +kernel
theorem dX11_goneBy_2 : decode cX11_goneBy 2 = .ok (.iload 4, 2) := by decide +kernel
theorem dX11_goneBy_4 : decode cX11_goneBy 4 = .ok (.invokestatic 70, 3) := by decide +kernel
theorem dX11_goneBy_7 : decode cX11_goneBy 7 = .ok (.istore 6, 2) := by decide +kernel
theorem dX11_goneBy_9 : decode cX11_goneBy 9 = .ok (.iload 5, 2) := by decide +kernel
theorem dX11_goneBy_11 : decode cX11_goneBy 11 = .ok (.aload_n 1, 1) := by decide +kernel
theorem dX11_goneBy_12 : decode cX11_goneBy 12 = .ok (.iload_n 3, 1) := by decide +kernel
theorem dX11_goneBy_13 : decode cX11_goneBy 13 = .ok (.invokestatic 54, 3) := by decide +kernel
theorem dX11_goneBy_16 : decode cX11_goneBy 16 = .ok (.iconst 2, 1) := by decide +kernel
theorem dX11_goneBy_17 : decode cX11_goneBy 17 = .ok (.iadd, 1) := by decide +kernel
theorem dX11_goneBy_18 : decode cX11_goneBy 18 = .ok (.iaload, 1) := by decide +kernel
theorem dX11_goneBy_19 : decode cX11_goneBy 19 = .ok (.isub, 1) := by decide +kernel
theorem dX11_goneBy_20 : decode cX11_goneBy 20 = .ok (.istore 7, 2) := by decide +kernel
theorem dX11_goneBy_22 : decode cX11_goneBy 22 = .ok (.iload 6, 2) := by decide +kernel
theorem dX11_goneBy_24 : decode cX11_goneBy 24 = .ok (.bipush (-9), 2) := by decide +kernel
theorem dX11_goneBy_26 : decode cX11_goneBy 26 = .ok (.if_icmp .eq 8, 3) := by decide +kernel
theorem dX11_goneBy_29 : decode cX11_goneBy 29 = .ok (.iload 7, 2) := by decide +kernel
theorem dX11_goneBy_31 : decode cX11_goneBy 31 = .ok (.ifCond .ge 8, 3) := by decide +kernel
theorem dX11_goneBy_34 : decode cX11_goneBy 34 = .ok (.ldc 74, 2) := by decide +kernel
theorem dX11_goneBy_36 : decode cX11_goneBy 36 = .ok (.goto 23, 3) := by decide +kernel
theorem dX11_goneBy_39 : decode cX11_goneBy 39 = .ok (.aload_n 0, 1) := by decide +kernel
theorem dX11_goneBy_40 : decode cX11_goneBy 40 = .ok (.getfield 32, 3) := by decide +kernel
theorem dX11_goneBy_43 : decode cX11_goneBy 43 = .ok (.bipush 9, 2) := by decide +kernel
theorem dX11_goneBy_45 : decode cX11_goneBy 45 = .ok (.iload 7, 2) := by decide +kernel
theorem dX11_goneBy_47 : decode cX11_goneBy 47 = .ok (.imul, 1) := by decide +kernel
theorem dX11_goneBy_48 : decode cX11_goneBy 48 = .ok (.iload 6, 2) := by decide +kernel
theorem dX11_goneBy_50 : decode cX11_goneBy 50 = .ok (.iadd, 1) := by decide +kernel
theorem dX11_goneBy_51 : decode cX11_goneBy 51 = .ok (.iaload, 1) := by decide +kernel
theorem dX11_goneBy_52 : decode cX11_goneBy 52 = .ok (.aload_n 1, 1) := by decide +kernel
theorem dX11_goneBy_53 : decode cX11_goneBy 53 = .ok (.iload_n 2, 1) := by decide +kernel
theorem dX11_goneBy_54 : decode cX11_goneBy 54 = .ok (.iload_n 3, 1) := by decide +kernel
theorem dX11_goneBy_55 : decode cX11_goneBy 55 = .ok (.invokestatic 75, 3) := by decide +kernel
theorem dX11_goneBy_58 : decode cX11_goneBy 58 = .ok (.iadd, 1) := by decide +kernel
theorem dX11_goneBy_59 : decode cX11_goneBy 59 = .ok (.ireturn, 1) := by decide +kernel
theorem dX11_layLeast_0 : decode cX11_layLeast 0 = .ok (.iconst 0, 1) := by decide +kernel
theorem dX11_layLeast_1 : decode cX11_layLeast 1 = .ok (.istore 5, 2) := by decide +kernel
theorem dX11_layLeast_3 : decode cX11_layLeast 3 = .ok (.iload 5, 2) := by decide +kernel
theorem dX11_layLeast_5 : decode cX11_layLeast 5 = .ok (.iload 4, 2) := by decide +kernel
theorem dX11_layLeast_7 : decode cX11_layLeast 7 = .ok (.if_icmp .gt 119, 3) := by decide +kernel
theorem dX11_layLeast_10 : decode cX11_layLeast 10 = .ok (.iconst 0, 1) := by decide +kernel
theorem dX11_layLeast_11 : decode cX11_layLeast 11 = .ok (.istore 6, 2) := by decide +kernel
theorem dX11_layLeast_13 : decode cX11_layLeast 13 = .ok (.iload 6, 2) := by decide +kernel
theorem dX11_layLeast_15 : decode cX11_layLeast 15 = .ok (.aload_n 1, 1) := by decide +kernel
theorem dX11_layLeast_16 : decode cX11_layLeast 16 = .ok (.iconst 0, 1) := by decide +kernel
theorem dX11_layLeast_17 : decode cX11_layLeast 17 = .ok (.iaload, 1) := by decide +kernel
theorem dX11_layLeast_18 : decode cX11_layLeast 18 = .ok (.if_icmp .ge 102, 3) := by decide +kernel
theorem dX11_layLeast_21 : decode cX11_layLeast 21 = .ok (.iload 5, 2) := by decide +kernel
theorem dX11_layLeast_23 : decode cX11_layLeast 23 = .ok (.ifCond .ne 13, 3) := by decide +kernel
theorem dX11_layLeast_26 : decode cX11_layLeast 26 = .ok (.iload 6, 2) := by decide +kernel
theorem dX11_layLeast_28 : decode cX11_layLeast 28 = .ok (.iload_n 3, 1) := by decide +kernel
theorem dX11_layLeast_29 : decode cX11_layLeast 29 = .ok (.if_icmp .ne 7, 3) := by decide +kernel
theorem dX11_layLeast_32 : decode cX11_layLeast 32 = .ok (.iconst 0, 1) := by decide +kernel
theorem dX11_layLeast_33 : decode cX11_layLeast 33 = .ok (.goto 5, 3) := by decide +kernel
theorem dX11_layLeast_36 : decode cX11_layLeast 36 = .ok (.ldc 74, 2) := by decide +kernel
theorem dX11_layLeast_38 : decode cX11_layLeast 38 = .ok (.istore 7, 2) := by decide +kernel
theorem dX11_layLeast_40 : decode cX11_layLeast 40 = .ok (.iconst 0, 1) := by decide +kernel
theorem dX11_layLeast_41 : decode cX11_layLeast 41 = .ok (.istore 8, 2) := by decide +kernel
theorem dX11_layLeast_43 : decode cX11_layLeast 43 = .ok (.iload 8, 2) := by decide +kernel
theorem dX11_layLeast_45 : decode cX11_layLeast 45 = .ok (.aload_n 1, 1) := by decide +kernel
theorem dX11_layLeast_46 : decode cX11_layLeast 46 = .ok (.iconst 1, 1) := by decide +kernel
theorem dX11_layLeast_47 : decode cX11_layLeast 47 = .ok (.iaload, 1) := by decide +kernel
theorem dX11_layLeast_48 : decode cX11_layLeast 48 = .ok (.if_icmp .ge 39, 3) := by decide +kernel
theorem dX11_layLeast_51 : decode cX11_layLeast 51 = .ok (.aload_n 0, 1) := by decide +kernel
theorem dX11_layLeast_52 : decode cX11_layLeast 52 = .ok (.aload_n 1, 1) := by decide +kernel
theorem dX11_layLeast_53 : decode cX11_layLeast 53 = .ok (.iload_n 2, 1) := by decide +kernel
theorem dX11_layLeast_54 : decode cX11_layLeast 54 = .ok (.iload 8, 2) := by decide +kernel
theorem dX11_layLeast_56 : decode cX11_layLeast 56 = .ok (.iload 6, 2) := by decide +kernel
theorem dX11_layLeast_58 : decode cX11_layLeast 58 = .ok (.iload 5, 2) := by decide +kernel
theorem dX11_layLeast_60 : decode cX11_layLeast 60 = .ok (.invokevirtual 78, 3) := by decide +kernel
theorem dX11_layLeast_63 : decode cX11_layLeast 63 = .ok (.istore 9, 2) := by decide +kernel
theorem dX11_layLeast_65 : decode cX11_layLeast 65 = .ok (.iload 9, 2) := by decide +kernel
theorem dX11_layLeast_67 : decode cX11_layLeast 67 = .ok (.iload 7, 2) := by decide +kernel
theorem dX11_layLeast_69 : decode cX11_layLeast 69 = .ok (.if_icmp .ge 8, 3) := by decide +kernel
theorem dX11_layLeast_72 : decode cX11_layLeast 72 = .ok (.iload 9, 2) := by decide +kernel
theorem dX11_layLeast_74 : decode cX11_layLeast 74 = .ok (.goto 5, 3) := by decide +kernel
theorem dX11_layLeast_77 : decode cX11_layLeast 77 = .ok (.iload 7, 2) := by decide +kernel
theorem dX11_layLeast_79 : decode cX11_layLeast 79 = .ok (.istore 7, 2) := by decide +kernel
theorem dX11_layLeast_81 : decode cX11_layLeast 81 = .ok (.iinc 8 1, 3) := by decide +kernel
theorem dX11_layLeast_84 : decode cX11_layLeast 84 = .ok (.goto (-41), 3) := by decide +kernel
theorem dX11_layLeast_87 : decode cX11_layLeast 87 = .ok (.aload_n 0, 1) := by decide +kernel
theorem dX11_layLeast_88 : decode cX11_layLeast 88 = .ok (.getfield 32, 3) := by decide +kernel
theorem dX11_layLeast_91 : decode cX11_layLeast 91 = .ok (.bipush 9, 2) := by decide +kernel
theorem dX11_layLeast_93 : decode cX11_layLeast 93 = .ok (.iload 5, 2) := by decide +kernel
theorem dX11_layLeast_95 : decode cX11_layLeast 95 = .ok (.imul, 1) := by decide +kernel
theorem dX11_layLeast_96 : decode cX11_layLeast 96 = .ok (.iload 6, 2) := by decide +kernel
theorem dX11_layLeast_98 : decode cX11_layLeast 98 = .ok (.iadd, 1) := by decide +kernel
theorem dX11_layLeast_99 : decode cX11_layLeast 99 = .ok (.iload 7, 2) := by decide +kernel
theorem dX11_layLeast_101 : decode cX11_layLeast 101 = .ok (.ldc 74, 2) := by decide +kernel
theorem dX11_layLeast_103 : decode cX11_layLeast 103 = .ok (.if_icmp .ge 8, 3) := by decide +kernel
theorem dX11_layLeast_106 : decode cX11_layLeast 106 = .ok (.iload 7, 2) := by decide +kernel
theorem dX11_layLeast_108 : decode cX11_layLeast 108 = .ok (.goto 5, 3) := by decide +kernel
theorem dX11_layLeast_111 : decode cX11_layLeast 111 = .ok (.ldc 74, 2) := by decide +kernel
theorem dX11_layLeast_113 : decode cX11_layLeast 113 = .ok (.iastore, 1) := by decide +kernel
theorem dX11_layLeast_114 : decode cX11_layLeast 114 = .ok (.iinc 6 1, 3) := by decide +kernel
theorem dX11_layLeast_117 : decode cX11_layLeast 117 = .ok (.goto (-104), 3) := by decide +kernel
theorem dX11_layLeast_120 : decode cX11_layLeast 120 = .ok (.iinc 5 1, 3) := by decide +kernel
theorem dX11_layLeast_123 : decode cX11_layLeast 123 = .ok (.goto (-120), 3) := by decide +kernel
theorem dX11_layLeast_126 : decode cX11_layLeast 126 = .ok (.return_, 1) := by decide +kernel
theorem dX11_findWay_0 : decode cX11_findWay 0 = .ok (.aload_n 0, 1) := by decide +kernel
theorem dX11_findWay_1 : decode cX11_findWay 1 = .ok (.aload_n 1, 1) := by decide +kernel
theorem dX11_findWay_2 : decode cX11_findWay 2 = .ok (.iload_n 2, 1) := by decide +kernel
theorem dX11_findWay_3 : decode cX11_findWay 3 = .ok (.iload 4, 2) := by decide +kernel
theorem dX11_findWay_5 : decode cX11_findWay 5 = .ok (.iload 5, 2) := by decide +kernel
theorem dX11_findWay_7 : decode cX11_findWay 7 = .ok (.invokevirtual 82, 3) := by decide +kernel
theorem dX11_findWay_10 : decode cX11_findWay 10 = .ok (.aload_n 0, 1) := by decide +kernel
theorem dX11_findWay_11 : decode cX11_findWay 11 = .ok (.ldc 74, 2) := by decide +kernel
theorem dX11_findWay_13 : decode cX11_findWay 13 = .ok (.putfield 85, 3) := by decide +kernel
theorem dX11_findWay_16 : decode cX11_findWay 16 = .ok (.iconst 1, 1) := by decide +kernel
theorem dX11_findWay_17 : decode cX11_findWay 17 = .ok (.istore 6, 2) := by decide +kernel
theorem dX11_findWay_19 : decode cX11_findWay 19 = .ok (.iload 6, 2) := by decide +kernel
theorem dX11_findWay_21 : decode cX11_findWay 21 = .ok (.iload 5, 2) := by decide +kernel
theorem dX11_findWay_23 : decode cX11_findWay 23 = .ok (.if_icmp .gt 50, 3) := by decide +kernel
theorem dX11_findWay_26 : decode cX11_findWay 26 = .ok (.aload_n 0, 1) := by decide +kernel
theorem dX11_findWay_27 : decode cX11_findWay 27 = .ok (.getfield 32, 3) := by decide +kernel
theorem dX11_findWay_30 : decode cX11_findWay 30 = .ok (.bipush 9, 2) := by decide +kernel
theorem dX11_findWay_32 : decode cX11_findWay 32 = .ok (.iload 6, 2) := by decide +kernel
theorem dX11_findWay_34 : decode cX11_findWay 34 = .ok (.imul, 1) := by decide +kernel
theorem dX11_findWay_35 : decode cX11_findWay 35 = .ok (.iload_n 3, 1) := by decide +kernel
theorem dX11_findWay_36 : decode cX11_findWay 36 = .ok (.iadd, 1) := by decide +kernel
theorem dX11_findWay_37 : decode cX11_findWay 37 = .ok (.iaload, 1) := by decide +kernel
theorem dX11_findWay_38 : decode cX11_findWay 38 = .ok (.aload_n 0, 1) := by decide +kernel
theorem dX11_findWay_39 : decode cX11_findWay 39 = .ok (.getfield 85, 3) := by decide +kernel
theorem dX11_findWay_42 : decode cX11_findWay 42 = .ok (.if_icmp .ge 25, 3) := by decide +kernel
theorem dX11_findWay_45 : decode cX11_findWay 45 = .ok (.aload_n 0, 1) := by decide +kernel
theorem dX11_findWay_46 : decode cX11_findWay 46 = .ok (.aload_n 0, 1) := by decide +kernel
theorem dX11_findWay_47 : decode cX11_findWay 47 = .ok (.getfield 32, 3) := by decide +kernel
theorem dX11_findWay_50 : decode cX11_findWay 50 = .ok (.bipush 9, 2) := by decide +kernel
theorem dX11_findWay_52 : decode cX11_findWay 52 = .ok (.iload 6, 2) := by decide +kernel
theorem dX11_findWay_54 : decode cX11_findWay 54 = .ok (.imul, 1) := by decide +kernel
theorem dX11_findWay_55 : decode cX11_findWay 55 = .ok (.iload_n 3, 1) := by decide +kernel
theorem dX11_findWay_56 : decode cX11_findWay 56 = .ok (.iadd, 1) := by decide +kernel
theorem dX11_findWay_57 : decode cX11_findWay 57 = .ok (.iaload, 1) := by decide +kernel
theorem dX11_findWay_58 : decode cX11_findWay 58 = .ok (.putfield 85, 3) := by decide +kernel
theorem dX11_findWay_61 : decode cX11_findWay 61 = .ok (.aload_n 0, 1) := by decide +kernel
theorem dX11_findWay_62 : decode cX11_findWay 62 = .ok (.iload 6, 2) := by decide +kernel
theorem dX11_findWay_64 : decode cX11_findWay 64 = .ok (.putfield 88, 3) := by decide +kernel
theorem dX11_findWay_67 : decode cX11_findWay 67 = .ok (.iinc 6 1, 3) := by decide +kernel
theorem dX11_findWay_70 : decode cX11_findWay 70 = .ok (.goto (-51), 3) := by decide +kernel
theorem dX11_findWay_73 : decode cX11_findWay 73 = .ok (.aload_n 0, 1) := by decide +kernel
theorem dX11_findWay_74 : decode cX11_findWay 74 = .ok (.getfield 85, 3) := by decide +kernel
theorem dX11_findWay_77 : decode cX11_findWay 77 = .ok (.ldc 74, 2) := by decide +kernel
theorem dX11_findWay_79 : decode cX11_findWay 79 = .ok (.if_icmp .ne 5, 3) := by decide +kernel
theorem dX11_findWay_82 : decode cX11_findWay 82 = .ok (.iconst 0, 1) := by decide +kernel
theorem dX11_findWay_83 : decode cX11_findWay 83 = .ok (.ireturn, 1) := by decide +kernel
theorem dX11_findWay_84 : decode cX11_findWay 84 = .ok (.aload_n 0, 1) := by decide +kernel
theorem dX11_findWay_85 : decode cX11_findWay 85 = .ok (.iconst 0, 1) := by decide +kernel
theorem dX11_findWay_86 : decode cX11_findWay 86 = .ok (.putfield 91, 3) := by decide +kernel
theorem dX11_findWay_89 : decode cX11_findWay 89 = .ok (.iload_n 3, 1) := by decide +kernel
theorem dX11_findWay_90 : decode cX11_findWay 90 = .ok (.istore 6, 2) := by decide +kernel
theorem dX11_findWay_92 : decode cX11_findWay 92 = .ok (.aload_n 0, 1) := by decide +kernel
theorem dX11_findWay_93 : decode cX11_findWay 93 = .ok (.getfield 88, 3) := by decide +kernel
theorem dX11_findWay_96 : decode cX11_findWay 96 = .ok (.istore 7, 2) := by decide +kernel
theorem dX11_findWay_98 : decode cX11_findWay 98 = .ok (.iload 7, 2) := by decide +kernel
theorem dX11_findWay_100 : decode cX11_findWay 100 = .ok (.ifCond .le 88, 3) := by decide +kernel
theorem dX11_findWay_103 : decode cX11_findWay 103 = .ok (.iconst 0, 1) := by decide +kernel
theorem dX11_findWay_104 : decode cX11_findWay 104 = .ok (.istore 8, 2) := by decide +kernel
theorem dX11_findWay_106 : decode cX11_findWay 106 = .ok (.aload_n 0, 1) := by decide +kernel
theorem dX11_findWay_107 : decode cX11_findWay 107 = .ok (.aload_n 1, 1) := by decide +kernel
theorem dX11_findWay_108 : decode cX11_findWay 108 = .ok (.iload_n 2, 1) := by decide +kernel
theorem dX11_findWay_109 : decode cX11_findWay 109 = .ok (.iload 8, 2) := by decide +kernel
theorem dX11_findWay_111 : decode cX11_findWay 111 = .ok (.iload 6, 2) := by decide +kernel
theorem dX11_findWay_113 : decode cX11_findWay 113 = .ok (.iload 7, 2) := by decide +kernel
theorem dX11_findWay_115 : decode cX11_findWay 115 = .ok (.invokevirtual 78, 3) := by decide +kernel
theorem dX11_findWay_118 : decode cX11_findWay 118 = .ok (.aload_n 0, 1) := by decide +kernel
theorem dX11_findWay_119 : decode cX11_findWay 119 = .ok (.getfield 32, 3) := by decide +kernel
theorem dX11_findWay_122 : decode cX11_findWay 122 = .ok (.bipush 9, 2) := by decide +kernel
theorem dX11_findWay_124 : decode cX11_findWay 124 = .ok (.iload 7, 2) := by decide +kernel
theorem dX11_findWay_126 : decode cX11_findWay 126 = .ok (.imul, 1) := by decide +kernel
theorem dX11_findWay_127 : decode cX11_findWay 127 = .ok (.iload 6, 2) := by decide +kernel
theorem dX11_findWay_129 : decode cX11_findWay 129 = .ok (.iadd, 1) := by decide +kernel
theorem dX11_findWay_130 : decode cX11_findWay 130 = .ok (.iaload, 1) := by decide +kernel
theorem dX11_findWay_131 : decode cX11_findWay 131 = .ok (.if_icmp .eq 9, 3) := by decide +kernel
theorem dX11_findWay_134 : decode cX11_findWay 134 = .ok (.iinc 8 1, 3) := by decide +kernel
theorem dX11_findWay_137 : decode cX11_findWay 137 = .ok (.goto (-31), 3) := by decide +kernel
theorem dX11_findWay_140 : decode cX11_findWay 140 = .ok (.aload_n 0, 1) := by decide +kernel
theorem dX11_findWay_141 : decode cX11_findWay 141 = .ok (.getfield 35, 3) := by decide +kernel
theorem dX11_findWay_144 : decode cX11_findWay 144 = .ok (.aload_n 0, 1) := by decide +kernel
theorem dX11_findWay_145 : decode cX11_findWay 145 = .ok (.getfield 91, 3) := by decide +kernel
theorem dX11_findWay_148 : decode cX11_findWay 148 = .ok (.iload 8, 2) := by decide +kernel
theorem dX11_findWay_150 : decode cX11_findWay 150 = .ok (.iastore, 1) := by decide +kernel
theorem dX11_findWay_151 : decode cX11_findWay 151 = .ok (.aload_n 0, 1) := by decide +kernel
theorem dX11_findWay_152 : decode cX11_findWay 152 = .ok (.dup, 1) := by decide +kernel
theorem dX11_findWay_153 : decode cX11_findWay 153 = .ok (.getfield 91, 3) := by decide +kernel
theorem dX11_findWay_156 : decode cX11_findWay 156 = .ok (.iconst 1, 1) := by decide +kernel
theorem dX11_findWay_157 : decode cX11_findWay 157 = .ok (.iadd, 1) := by decide +kernel
theorem dX11_findWay_158 : decode cX11_findWay 158 = .ok (.putfield 91, 3) := by decide +kernel
theorem dX11_findWay_161 : decode cX11_findWay 161 = .ok (.iload 7, 2) := by decide +kernel
theorem dX11_findWay_163 : decode cX11_findWay 163 = .ok (.aload_n 1, 1) := by decide +kernel
theorem dX11_findWay_164 : decode cX11_findWay 164 = .ok (.iload 8, 2) := by decide +kernel
theorem dX11_findWay_166 : decode cX11_findWay 166 = .ok (.invokestatic 54, 3) := by decide +kernel
theorem dX11_findWay_169 : decode cX11_findWay 169 = .ok (.iconst 2, 1) := by decide +kernel
theorem dX11_findWay_170 : decode cX11_findWay 170 = .ok (.iadd, 1) := by decide +kernel
theorem dX11_findWay_171 : decode cX11_findWay 171 = .ok (.iaload, 1) := by decide +kernel
theorem dX11_findWay_172 : decode cX11_findWay 172 = .ok (.isub, 1) := by decide +kernel
theorem dX11_findWay_173 : decode cX11_findWay 173 = .ok (.istore 7, 2) := by decide +kernel
theorem dX11_findWay_175 : decode cX11_findWay 175 = .ok (.aload_n 1, 1) := by decide +kernel
theorem dX11_findWay_176 : decode cX11_findWay 176 = .ok (.iload 8, 2) := by decide +kernel
theorem dX11_findWay_178 : decode cX11_findWay 178 = .ok (.iload 6, 2) := by decide +kernel
theorem dX11_findWay_180 : decode cX11_findWay 180 = .ok (.invokestatic 70, 3) := by decide +kernel
theorem dX11_findWay_183 : decode cX11_findWay 183 = .ok (.istore 6, 2) := by decide +kernel
theorem dX11_findWay_185 : decode cX11_findWay 185 = .ok (.goto (-87), 3) := by decide +kernel
theorem dX11_findWay_188 : decode cX11_findWay 188 = .ok (.iconst 1, 1) := by decide +kernel
theorem dX11_findWay_189 : decode cX11_findWay 189 = .ok (.ireturn, 1) := by decide +kernel
theorem dX11_why_0 : decode cX11_why 0 = .ok (.iload_n 2, 1) := by decide +kernel
theorem dX11_why_1 : decode cX11_why 1 = .ok (.invokestatic 57, 3) := by decide +kernel
theorem dX11_why_4 : decode cX11_why 4 = .ok (.istore 4, 2) := by decide +kernel
theorem dX11_why_6 : decode cX11_why 6 = .ok (.aload_n 1, 1) := by decide +kernel
theorem dX11_why_7 : decode cX11_why 7 = .ok (.iload 4, 2) := by decide +kernel
theorem dX11_why_9 : decode cX11_why 9 = .ok (.iconst 4, 1) := by decide +kernel
theorem dX11_why_10 : decode cX11_why 10 = .ok (.iadd, 1) := by decide +kernel
theorem dX11_why_11 : decode cX11_why 11 = .ok (.iaload, 1) := by decide +kernel
theorem dX11_why_12 : decode cX11_why 12 = .ok (.istore 5, 2) := by decide +kernel
theorem dX11_why_14 : decode cX11_why 14 = .ok (.iload 5, 2) := by decide +kernel
theorem dX11_why_16 : decode cX11_why 16 = .ok (.bipush (-9), 2) := by decide +kernel
theorem dX11_why_18 : decode cX11_why 18 = .ok (.if_icmp .ne 5, 3) := by decide +kernel
theorem dX11_why_21 : decode cX11_why 21 = .ok (.iconst 1, 1) := by decide +kernel
theorem dX11_why_22 : decode cX11_why 22 = .ok (.ireturn, 1) := by decide +kernel
theorem dX11_why_23 : decode cX11_why 23 = .ok (.aload_n 1, 1) := by decide +kernel
theorem dX11_why_24 : decode cX11_why 24 = .ok (.iload 4, 2) := by decide +kernel
theorem dX11_why_26 : decode cX11_why 26 = .ok (.iconst 5, 1) := by decide +kernel
theorem dX11_why_27 : decode cX11_why 27 = .ok (.iadd, 1) := by decide +kernel
theorem dX11_why_28 : decode cX11_why 28 = .ok (.iaload, 1) := by decide +kernel
theorem dX11_why_29 : decode cX11_why 29 = .ok (.iconst 1, 1) := by decide +kernel
theorem dX11_why_30 : decode cX11_why 30 = .ok (.if_icmp .ne 5, 3) := by decide +kernel
theorem dX11_why_33 : decode cX11_why 33 = .ok (.iconst 2, 1) := by decide +kernel
theorem dX11_why_34 : decode cX11_why 34 = .ok (.ireturn, 1) := by decide +kernel
theorem dX11_why_35 : decode cX11_why 35 = .ok (.aload_n 1, 1) := by decide +kernel
theorem dX11_why_36 : decode cX11_why 36 = .ok (.iload 5, 2) := by decide +kernel
theorem dX11_why_38 : decode cX11_why 38 = .ok (.iload_n 3, 1) := by decide +kernel
theorem dX11_why_39 : decode cX11_why 39 = .ok (.invokestatic 94, 3) := by decide +kernel
theorem dX11_why_42 : decode cX11_why 42 = .ok (.iconst 1, 1) := by decide +kernel
theorem dX11_why_43 : decode cX11_why 43 = .ok (.iadd, 1) := by decide +kernel
theorem dX11_why_44 : decode cX11_why 44 = .ok (.iaload, 1) := by decide +kernel
theorem dX11_why_45 : decode cX11_why 45 = .ok (.iconst 1, 1) := by decide +kernel
theorem dX11_why_46 : decode cX11_why 46 = .ok (.if_icmp .ne 5, 3) := by decide +kernel
theorem dX11_why_49 : decode cX11_why 49 = .ok (.iconst 3, 1) := by decide +kernel
theorem dX11_why_50 : decode cX11_why 50 = .ok (.ireturn, 1) := by decide +kernel
theorem dX11_why_51 : decode cX11_why 51 = .ok (.aload_n 0, 1) := by decide +kernel
theorem dX11_why_52 : decode cX11_why 52 = .ok (.aload_n 1, 1) := by decide +kernel
theorem dX11_why_53 : decode cX11_why 53 = .ok (.iload 5, 2) := by decide +kernel
theorem dX11_why_55 : decode cX11_why 55 = .ok (.aload_n 1, 1) := by decide +kernel
theorem dX11_why_56 : decode cX11_why 56 = .ok (.iload 4, 2) := by decide +kernel
theorem dX11_why_58 : decode cX11_why 58 = .ok (.iaload, 1) := by decide +kernel
theorem dX11_why_59 : decode cX11_why 59 = .ok (.aload_n 1, 1) := by decide +kernel
theorem dX11_why_60 : decode cX11_why 60 = .ok (.iload 4, 2) := by decide +kernel
theorem dX11_why_62 : decode cX11_why 62 = .ok (.iconst 1, 1) := by decide +kernel
theorem dX11_why_63 : decode cX11_why 63 = .ok (.iadd, 1) := by decide +kernel
theorem dX11_why_64 : decode cX11_why 64 = .ok (.iaload, 1) := by decide +kernel
theorem dX11_why_65 : decode cX11_why 65 = .ok (.iconst 4, 1) := by decide +kernel
theorem dX11_why_66 : decode cX11_why 66 = .ok (.aload_n 1, 1) := by decide +kernel
theorem dX11_why_67 : decode cX11_why 67 = .ok (.iload 5, 2) := by decide +kernel
theorem dX11_why_69 : decode cX11_why 69 = .ok (.iload_n 3, 1) := by decide +kernel
theorem dX11_why_70 : decode cX11_why 70 = .ok (.invokestatic 94, 3) := by decide +kernel
theorem dX11_why_73 : decode cX11_why 73 = .ok (.iaload, 1) := by decide +kernel
theorem dX11_why_74 : decode cX11_why 74 = .ok (.imul, 1) := by decide +kernel
theorem dX11_why_75 : decode cX11_why 75 = .ok (.invokevirtual 98, 3) := by decide +kernel
theorem dX11_why_78 : decode cX11_why 78 = .ok (.ifCond .eq 7, 3) := by decide +kernel
theorem dX11_why_81 : decode cX11_why 81 = .ok (.iconst 0, 1) := by decide +kernel
theorem dX11_why_82 : decode cX11_why 82 = .ok (.goto 4, 3) := by decide +kernel
theorem dX11_why_85 : decode cX11_why 85 = .ok (.iconst 4, 1) := by decide +kernel
theorem dX11_why_86 : decode cX11_why 86 = .ok (.ireturn, 1) := by decide +kernel
theorem dX11_runOn_0 : decode cX11_runOn 0 = .ok (.iload_n 2, 1) := by decide +kernel
theorem dX11_runOn_1 : decode cX11_runOn 1 = .ok (.invokestatic 57, 3) := by decide +kernel
theorem dX11_runOn_4 : decode cX11_runOn 4 = .ok (.istore 4, 2) := by decide +kernel
theorem dX11_runOn_6 : decode cX11_runOn 6 = .ok (.aload_n 1, 1) := by decide +kernel
theorem dX11_runOn_7 : decode cX11_runOn 7 = .ok (.iload 4, 2) := by decide +kernel
theorem dX11_runOn_9 : decode cX11_runOn 9 = .ok (.iconst 4, 1) := by decide +kernel
theorem dX11_runOn_10 : decode cX11_runOn 10 = .ok (.iadd, 1) := by decide +kernel
theorem dX11_runOn_11 : decode cX11_runOn 11 = .ok (.iaload, 1) := by decide +kernel
theorem dX11_runOn_12 : decode cX11_runOn 12 = .ok (.istore 5, 2) := by decide +kernel
theorem dX11_runOn_14 : decode cX11_runOn 14 = .ok (.aload_n 0, 1) := by decide +kernel
theorem dX11_runOn_15 : decode cX11_runOn 15 = .ok (.aload_n 1, 1) := by decide +kernel
theorem dX11_runOn_16 : decode cX11_runOn 16 = .ok (.iload 5, 2) := by decide +kernel
theorem dX11_runOn_18 : decode cX11_runOn 18 = .ok (.aload_n 1, 1) := by decide +kernel
theorem dX11_runOn_19 : decode cX11_runOn 19 = .ok (.iload 4, 2) := by decide +kernel
theorem dX11_runOn_21 : decode cX11_runOn 21 = .ok (.iaload, 1) := by decide +kernel
theorem dX11_runOn_22 : decode cX11_runOn 22 = .ok (.aload_n 1, 1) := by decide +kernel
theorem dX11_runOn_23 : decode cX11_runOn 23 = .ok (.iload 4, 2) := by decide +kernel
theorem dX11_runOn_25 : decode cX11_runOn 25 = .ok (.iconst 1, 1) := by decide +kernel
theorem dX11_runOn_26 : decode cX11_runOn 26 = .ok (.iadd, 1) := by decide +kernel
theorem dX11_runOn_27 : decode cX11_runOn 27 = .ok (.iaload, 1) := by decide +kernel
theorem dX11_runOn_28 : decode cX11_runOn 28 = .ok (.iconst 4, 1) := by decide +kernel
theorem dX11_runOn_29 : decode cX11_runOn 29 = .ok (.aload_n 1, 1) := by decide +kernel
theorem dX11_runOn_30 : decode cX11_runOn 30 = .ok (.iload 5, 2) := by decide +kernel
theorem dX11_runOn_32 : decode cX11_runOn 32 = .ok (.iload_n 3, 1) := by decide +kernel
theorem dX11_runOn_33 : decode cX11_runOn 33 = .ok (.invokestatic 94, 3) := by decide +kernel
theorem dX11_runOn_36 : decode cX11_runOn 36 = .ok (.iaload, 1) := by decide +kernel
theorem dX11_runOn_37 : decode cX11_runOn 37 = .ok (.imul, 1) := by decide +kernel
theorem dX11_runOn_38 : decode cX11_runOn 38 = .ok (.invokevirtual 98, 3) := by decide +kernel
theorem dX11_runOn_41 : decode cX11_runOn 41 = .ok (.pop, 1) := by decide +kernel
theorem dX11_runOn_42 : decode cX11_runOn 42 = .ok (.iconst 0, 1) := by decide +kernel
theorem dX11_runOn_43 : decode cX11_runOn 43 = .ok (.istore 6, 2) := by decide +kernel
theorem dX11_runOn_45 : decode cX11_runOn 45 = .ok (.iload 6, 2) := by decide +kernel
theorem dX11_runOn_47 : decode cX11_runOn 47 = .ok (.aload_n 0, 1) := by decide +kernel
theorem dX11_runOn_48 : decode cX11_runOn 48 = .ok (.getfield 91, 3) := by decide +kernel
theorem dX11_runOn_51 : decode cX11_runOn 51 = .ok (.if_icmp .ge 105, 3) := by decide +kernel
theorem dX11_runOn_54 : decode cX11_runOn 54 = .ok (.aload_n 1, 1) := by decide +kernel
theorem dX11_runOn_55 : decode cX11_runOn 55 = .ok (.iload 5, 2) := by decide +kernel
theorem dX11_runOn_57 : decode cX11_runOn 57 = .ok (.aload_n 0, 1) := by decide +kernel
theorem dX11_runOn_58 : decode cX11_runOn 58 = .ok (.getfield 35, 3) := by decide +kernel
theorem dX11_runOn_61 : decode cX11_runOn 61 = .ok (.iload 6, 2) := by decide +kernel
theorem dX11_runOn_63 : decode cX11_runOn 63 = .ok (.iaload, 1) := by decide +kernel
theorem dX11_runOn_64 : decode cX11_runOn 64 = .ok (.invokestatic 75, 3) := by decide +kernel
theorem dX11_runOn_67 : decode cX11_runOn 67 = .ok (.istore 7, 2) := by decide +kernel
theorem dX11_runOn_69 : decode cX11_runOn 69 = .ok (.aload_n 1, 1) := by decide +kernel
theorem dX11_runOn_70 : decode cX11_runOn 70 = .ok (.aload_n 0, 1) := by decide +kernel
theorem dX11_runOn_71 : decode cX11_runOn 71 = .ok (.getfield 35, 3) := by decide +kernel
theorem dX11_runOn_74 : decode cX11_runOn 74 = .ok (.iload 6, 2) := by decide +kernel
theorem dX11_runOn_76 : decode cX11_runOn 76 = .ok (.iaload, 1) := by decide +kernel
theorem dX11_runOn_77 : decode cX11_runOn 77 = .ok (.invokestatic 54, 3) := by decide +kernel
theorem dX11_runOn_80 : decode cX11_runOn 80 = .ok (.iconst 3, 1) := by decide +kernel
theorem dX11_runOn_81 : decode cX11_runOn 81 = .ok (.iadd, 1) := by decide +kernel
theorem dX11_runOn_82 : decode cX11_runOn 82 = .ok (.iaload, 1) := by decide +kernel
theorem dX11_runOn_83 : decode cX11_runOn 83 = .ok (.istore 8, 2) := by decide +kernel
theorem dX11_runOn_85 : decode cX11_runOn 85 = .ok (.iload 8, 2) := by decide +kernel
theorem dX11_runOn_87 : decode cX11_runOn 87 = .ok (.bipush (-9), 2) := by decide +kernel
theorem dX11_runOn_89 : decode cX11_runOn 89 = .ok (.if_icmp .ne 14, 3) := by decide +kernel
theorem dX11_runOn_92 : decode cX11_runOn 92 = .ok (.aload_n 1, 1) := by decide +kernel
theorem dX11_runOn_93 : decode cX11_runOn 93 = .ok (.iconst 5, 1) := by decide +kernel
theorem dX11_runOn_94 : decode cX11_runOn 94 = .ok (.dup2, 1) := by decide +kernel
theorem dX11_runOn_95 : decode cX11_runOn 95 = .ok (.iaload, 1) := by decide +kernel
theorem dX11_runOn_96 : decode cX11_runOn 96 = .ok (.iload 7, 2) := by decide +kernel
theorem dX11_runOn_98 : decode cX11_runOn 98 = .ok (.iadd, 1) := by decide +kernel
theorem dX11_runOn_99 : decode cX11_runOn 99 = .ok (.iastore, 1) := by decide +kernel
theorem dX11_runOn_100 : decode cX11_runOn 100 = .ok (.goto 29, 3) := by decide +kernel
theorem dX11_runOn_103 : decode cX11_runOn 103 = .ok (.aload_n 1, 1) := by decide +kernel
theorem dX11_runOn_104 : decode cX11_runOn 104 = .ok (.iload 8, 2) := by decide +kernel
theorem dX11_runOn_106 : decode cX11_runOn 106 = .ok (.invokestatic 50, 3) := by decide +kernel
theorem dX11_runOn_109 : decode cX11_runOn 109 = .ok (.dup2, 1) := by decide +kernel
theorem dX11_runOn_110 : decode cX11_runOn 110 = .ok (.iaload, 1) := by decide +kernel
theorem dX11_runOn_111 : decode cX11_runOn 111 = .ok (.iload 7, 2) := by decide +kernel
theorem dX11_runOn_113 : decode cX11_runOn 113 = .ok (.iadd, 1) := by decide +kernel
theorem dX11_runOn_114 : decode cX11_runOn 114 = .ok (.iastore, 1) := by decide +kernel
theorem dX11_runOn_115 : decode cX11_runOn 115 = .ok (.aload_n 1, 1) := by decide +kernel
theorem dX11_runOn_116 : decode cX11_runOn 116 = .ok (.iload 8, 2) := by decide +kernel
theorem dX11_runOn_118 : decode cX11_runOn 118 = .ok (.invokestatic 50, 3) := by decide +kernel
theorem dX11_runOn_121 : decode cX11_runOn 121 = .ok (.iconst 3, 1) := by decide +kernel
theorem dX11_runOn_122 : decode cX11_runOn 122 = .ok (.iadd, 1) := by decide +kernel
theorem dX11_runOn_123 : decode cX11_runOn 123 = .ok (.dup2, 1) := by decide +kernel
theorem dX11_runOn_124 : decode cX11_runOn 124 = .ok (.iaload, 1) := by decide +kernel
theorem dX11_runOn_125 : decode cX11_runOn 125 = .ok (.iload 7, 2) := by decide +kernel
theorem dX11_runOn_127 : decode cX11_runOn 127 = .ok (.iadd, 1) := by decide +kernel
theorem dX11_runOn_128 : decode cX11_runOn 128 = .ok (.iastore, 1) := by decide +kernel
theorem dX11_runOn_129 : decode cX11_runOn 129 = .ok (.aload_n 1, 1) := by decide +kernel
theorem dX11_runOn_130 : decode cX11_runOn 130 = .ok (.iload 5, 2) := by decide +kernel
theorem dX11_runOn_132 : decode cX11_runOn 132 = .ok (.invokestatic 50, 3) := by decide +kernel
theorem dX11_runOn_135 : decode cX11_runOn 135 = .ok (.dup2, 1) := by decide +kernel
theorem dX11_runOn_136 : decode cX11_runOn 136 = .ok (.iaload, 1) := by decide +kernel
theorem dX11_runOn_137 : decode cX11_runOn 137 = .ok (.iload 7, 2) := by decide +kernel
theorem dX11_runOn_139 : decode cX11_runOn 139 = .ok (.isub, 1) := by decide +kernel
theorem dX11_runOn_140 : decode cX11_runOn 140 = .ok (.iastore, 1) := by decide +kernel
theorem dX11_runOn_141 : decode cX11_runOn 141 = .ok (.aload_n 1, 1) := by decide +kernel
theorem dX11_runOn_142 : decode cX11_runOn 142 = .ok (.bipush 6, 2) := by decide +kernel
theorem dX11_runOn_144 : decode cX11_runOn 144 = .ok (.dup2, 1) := by decide +kernel
theorem dX11_runOn_145 : decode cX11_runOn 145 = .ok (.iaload, 1) := by decide +kernel
theorem dX11_runOn_146 : decode cX11_runOn 146 = .ok (.iload 7, 2) := by decide +kernel
theorem dX11_runOn_148 : decode cX11_runOn 148 = .ok (.iadd, 1) := by decide +kernel
theorem dX11_runOn_149 : decode cX11_runOn 149 = .ok (.iastore, 1) := by decide +kernel
theorem dX11_runOn_150 : decode cX11_runOn 150 = .ok (.iinc 6 1, 3) := by decide +kernel
theorem dX11_runOn_153 : decode cX11_runOn 153 = .ok (.goto (-108), 3) := by decide +kernel
theorem dX11_runOn_156 : decode cX11_runOn 156 = .ok (.aload_n 1, 1) := by decide +kernel
theorem dX11_runOn_157 : decode cX11_runOn 157 = .ok (.iconst 5, 1) := by decide +kernel
theorem dX11_runOn_158 : decode cX11_runOn 158 = .ok (.dup2, 1) := by decide +kernel
theorem dX11_runOn_159 : decode cX11_runOn 159 = .ok (.iaload, 1) := by decide +kernel
theorem dX11_runOn_160 : decode cX11_runOn 160 = .ok (.aload_n 1, 1) := by decide +kernel
theorem dX11_runOn_161 : decode cX11_runOn 161 = .ok (.iload 4, 2) := by decide +kernel
theorem dX11_runOn_163 : decode cX11_runOn 163 = .ok (.iconst 2, 1) := by decide +kernel
theorem dX11_runOn_164 : decode cX11_runOn 164 = .ok (.iadd, 1) := by decide +kernel
theorem dX11_runOn_165 : decode cX11_runOn 165 = .ok (.iaload, 1) := by decide +kernel
theorem dX11_runOn_166 : decode cX11_runOn 166 = .ok (.isub, 1) := by decide +kernel
theorem dX11_runOn_167 : decode cX11_runOn 167 = .ok (.iastore, 1) := by decide +kernel
theorem dX11_runOn_168 : decode cX11_runOn 168 = .ok (.aload_n 1, 1) := by decide +kernel
theorem dX11_runOn_169 : decode cX11_runOn 169 = .ok (.iload 5, 2) := by decide +kernel
theorem dX11_runOn_171 : decode cX11_runOn 171 = .ok (.invokestatic 50, 3) := by decide +kernel
theorem dX11_runOn_174 : decode cX11_runOn 174 = .ok (.dup2, 1) := by decide +kernel
theorem dX11_runOn_175 : decode cX11_runOn 175 = .ok (.iaload, 1) := by decide +kernel
theorem dX11_runOn_176 : decode cX11_runOn 176 = .ok (.aload_n 1, 1) := by decide +kernel
theorem dX11_runOn_177 : decode cX11_runOn 177 = .ok (.iload 4, 2) := by decide +kernel
theorem dX11_runOn_179 : decode cX11_runOn 179 = .ok (.iconst 2, 1) := by decide +kernel
theorem dX11_runOn_180 : decode cX11_runOn 180 = .ok (.iadd, 1) := by decide +kernel
theorem dX11_runOn_181 : decode cX11_runOn 181 = .ok (.iaload, 1) := by decide +kernel
theorem dX11_runOn_182 : decode cX11_runOn 182 = .ok (.iadd, 1) := by decide +kernel
theorem dX11_runOn_183 : decode cX11_runOn 183 = .ok (.iastore, 1) := by decide +kernel
theorem dX11_runOn_184 : decode cX11_runOn 184 = .ok (.aload_n 1, 1) := by decide +kernel
theorem dX11_runOn_185 : decode cX11_runOn 185 = .ok (.bipush 7, 2) := by decide +kernel
theorem dX11_runOn_187 : decode cX11_runOn 187 = .ok (.dup2, 1) := by decide +kernel
theorem dX11_runOn_188 : decode cX11_runOn 188 = .ok (.iaload, 1) := by decide +kernel
theorem dX11_runOn_189 : decode cX11_runOn 189 = .ok (.aload_n 1, 1) := by decide +kernel
theorem dX11_runOn_190 : decode cX11_runOn 190 = .ok (.iload 4, 2) := by decide +kernel
theorem dX11_runOn_192 : decode cX11_runOn 192 = .ok (.iconst 2, 1) := by decide +kernel
theorem dX11_runOn_193 : decode cX11_runOn 193 = .ok (.iadd, 1) := by decide +kernel
theorem dX11_runOn_194 : decode cX11_runOn 194 = .ok (.iaload, 1) := by decide +kernel
theorem dX11_runOn_195 : decode cX11_runOn 195 = .ok (.iadd, 1) := by decide +kernel
theorem dX11_runOn_196 : decode cX11_runOn 196 = .ok (.iastore, 1) := by decide +kernel
theorem dX11_runOn_197 : decode cX11_runOn 197 = .ok (.aload_n 1, 1) := by decide +kernel
theorem dX11_runOn_198 : decode cX11_runOn 198 = .ok (.iload 4, 2) := by decide +kernel
theorem dX11_runOn_200 : decode cX11_runOn 200 = .ok (.iconst 5, 1) := by decide +kernel
theorem dX11_runOn_201 : decode cX11_runOn 201 = .ok (.iadd, 1) := by decide +kernel
theorem dX11_runOn_202 : decode cX11_runOn 202 = .ok (.iconst 1, 1) := by decide +kernel
theorem dX11_runOn_203 : decode cX11_runOn 203 = .ok (.iastore, 1) := by decide +kernel
theorem dX11_runOn_204 : decode cX11_runOn 204 = .ok (.aload_n 1, 1) := by decide +kernel
theorem dX11_runOn_205 : decode cX11_runOn 205 = .ok (.iload 5, 2) := by decide +kernel
theorem dX11_runOn_207 : decode cX11_runOn 207 = .ok (.iload_n 3, 1) := by decide +kernel
theorem dX11_runOn_208 : decode cX11_runOn 208 = .ok (.invokestatic 94, 3) := by decide +kernel
theorem dX11_runOn_211 : decode cX11_runOn 211 = .ok (.iconst 1, 1) := by decide +kernel
theorem dX11_runOn_212 : decode cX11_runOn 212 = .ok (.iadd, 1) := by decide +kernel
theorem dX11_runOn_213 : decode cX11_runOn 213 = .ok (.iconst 1, 1) := by decide +kernel
theorem dX11_runOn_214 : decode cX11_runOn 214 = .ok (.iastore, 1) := by decide +kernel
theorem dX11_runOn_215 : decode cX11_runOn 215 = .ok (.aload_n 0, 1) := by decide +kernel
theorem dX11_runOn_216 : decode cX11_runOn 216 = .ok (.getfield 85, 3) := by decide +kernel
theorem dX11_runOn_219 : decode cX11_runOn 219 = .ok (.ireturn, 1) := by decide +kernel
theorem dX11_toBank_0 : decode cX11_toBank 0 = .ok (.aload_n 0, 1) := by decide +kernel
theorem dX11_toBank_1 : decode cX11_toBank 1 = .ok (.iload_n 1, 1) := by decide +kernel
theorem dX11_toBank_2 : decode cX11_toBank 2 = .ok (.invokestatic 50, 3) := by decide +kernel
theorem dX11_toBank_5 : decode cX11_toBank 5 = .ok (.dup2, 1) := by decide +kernel
theorem dX11_toBank_6 : decode cX11_toBank 6 = .ok (.iaload, 1) := by decide +kernel
theorem dX11_toBank_7 : decode cX11_toBank 7 = .ok (.iload_n 2, 1) := by decide +kernel
theorem dX11_toBank_8 : decode cX11_toBank 8 = .ok (.isub, 1) := by decide +kernel
theorem dX11_toBank_9 : decode cX11_toBank 9 = .ok (.iastore, 1) := by decide +kernel
theorem dX11_toBank_10 : decode cX11_toBank 10 = .ok (.aload_n 0, 1) := by decide +kernel
theorem dX11_toBank_11 : decode cX11_toBank 11 = .ok (.iconst 5, 1) := by decide +kernel
theorem dX11_toBank_12 : decode cX11_toBank 12 = .ok (.dup2, 1) := by decide +kernel
theorem dX11_toBank_13 : decode cX11_toBank 13 = .ok (.iaload, 1) := by decide +kernel
theorem dX11_toBank_14 : decode cX11_toBank 14 = .ok (.iload_n 2, 1) := by decide +kernel
theorem dX11_toBank_15 : decode cX11_toBank 15 = .ok (.iadd, 1) := by decide +kernel
theorem dX11_toBank_16 : decode cX11_toBank 16 = .ok (.iastore, 1) := by decide +kernel
theorem dX11_toBank_17 : decode cX11_toBank 17 = .ok (.return_, 1) := by decide +kernel
theorem dX11_dropContract_0 : decode cX11_dropContract 0 = .ok (.iload_n 1, 1) := by decide +kernel
theorem dX11_dropContract_1 : decode cX11_dropContract 1 = .ok (.invokestatic 57, 3) := by decide +kernel
theorem dX11_dropContract_4 : decode cX11_dropContract 4 = .ok (.istore_n 2, 1) := by decide +kernel
theorem dX11_dropContract_5 : decode cX11_dropContract 5 = .ok (.iload_n 2, 1) := by decide +kernel
theorem dX11_dropContract_6 : decode cX11_dropContract 6 = .ok (.bipush 6, 2) := by decide +kernel
theorem dX11_dropContract_8 : decode cX11_dropContract 8 = .ok (.iadd, 1) := by decide +kernel
theorem dX11_dropContract_9 : decode cX11_dropContract 9 = .ok (.sipush 175, 3) := by decide +kernel
theorem dX11_dropContract_12 : decode cX11_dropContract 12 = .ok (.if_icmp .ge 18, 3) := by decide +kernel
theorem dX11_dropContract_15 : decode cX11_dropContract 15 = .ok (.aload_n 0, 1) := by decide +kernel
theorem dX11_dropContract_16 : decode cX11_dropContract 16 = .ok (.iload_n 2, 1) := by decide +kernel
theorem dX11_dropContract_17 : decode cX11_dropContract 17 = .ok (.aload_n 0, 1) := by decide +kernel
theorem dX11_dropContract_18 : decode cX11_dropContract 18 = .ok (.iload_n 2, 1) := by decide +kernel
theorem dX11_dropContract_19 : decode cX11_dropContract 19 = .ok (.bipush 6, 2) := by decide +kernel
theorem dX11_dropContract_21 : decode cX11_dropContract 21 = .ok (.iadd, 1) := by decide +kernel
theorem dX11_dropContract_22 : decode cX11_dropContract 22 = .ok (.iaload, 1) := by decide +kernel
theorem dX11_dropContract_23 : decode cX11_dropContract 23 = .ok (.iastore, 1) := by decide +kernel
theorem dX11_dropContract_24 : decode cX11_dropContract 24 = .ok (.iinc 2 1, 3) := by decide +kernel
theorem dX11_dropContract_27 : decode cX11_dropContract 27 = .ok (.goto (-22), 3) := by decide +kernel
theorem dX11_dropContract_30 : decode cX11_dropContract 30 = .ok (.aload_n 0, 1) := by decide +kernel
theorem dX11_dropContract_31 : decode cX11_dropContract 31 = .ok (.iconst 2, 1) := by decide +kernel
theorem dX11_dropContract_32 : decode cX11_dropContract 32 = .ok (.dup2, 1) := by decide +kernel
theorem dX11_dropContract_33 : decode cX11_dropContract 33 = .ok (.iaload, 1) := by decide +kernel
theorem dX11_dropContract_34 : decode cX11_dropContract 34 = .ok (.iconst 1, 1) := by decide +kernel
theorem dX11_dropContract_35 : decode cX11_dropContract 35 = .ok (.isub, 1) := by decide +kernel
theorem dX11_dropContract_36 : decode cX11_dropContract 36 = .ok (.iastore, 1) := by decide +kernel
theorem dX11_dropContract_37 : decode cX11_dropContract 37 = .ok (.return_, 1) := by decide +kernel
theorem dX11_endContracts_0 : decode cX11_endContracts 0 = .ok (.iconst 0, 1) := by decide +kernel
theorem dX11_endContracts_1 : decode cX11_endContracts 1 = .ok (.istore_n 1, 1) := by decide +kernel
theorem dX11_endContracts_2 : decode cX11_endContracts 2 = .ok (.iload_n 1, 1) := by decide +kernel
theorem dX11_endContracts_3 : decode cX11_endContracts 3 = .ok (.aload_n 0, 1) := by decide +kernel
theorem dX11_endContracts_4 : decode cX11_endContracts 4 = .ok (.iconst 2, 1) := by decide +kernel
theorem dX11_endContracts_5 : decode cX11_endContracts 5 = .ok (.iaload, 1) := by decide +kernel
theorem dX11_endContracts_6 : decode cX11_endContracts 6 = .ok (.if_icmp .ge 79, 3) := by decide +kernel
theorem dX11_endContracts_9 : decode cX11_endContracts 9 = .ok (.iload_n 1, 1) := by decide +kernel
theorem dX11_endContracts_10 : decode cX11_endContracts 10 = .ok (.invokestatic 57, 3) := by decide +kernel
theorem dX11_endContracts_13 : decode cX11_endContracts 13 = .ok (.istore_n 2, 1) := by decide +kernel
theorem dX11_endContracts_14 : decode cX11_endContracts 14 = .ok (.aload_n 0, 1) := by decide +kernel
theorem dX11_endContracts_15 : decode cX11_endContracts 15 = .ok (.iload_n 2, 1) := by decide +kernel
theorem dX11_endContracts_16 : decode cX11_endContracts 16 = .ok (.iconst 4, 1) := by decide +kernel
theorem dX11_endContracts_17 : decode cX11_endContracts 17 = .ok (.iadd, 1) := by decide +kernel
theorem dX11_endContracts_18 : decode cX11_endContracts 18 = .ok (.iaload, 1) := by decide +kernel
theorem dX11_endContracts_19 : decode cX11_endContracts 19 = .ok (.istore_n 3, 1) := by decide +kernel
theorem dX11_endContracts_20 : decode cX11_endContracts 20 = .ok (.iload_n 3, 1) := by decide +kernel
theorem dX11_endContracts_21 : decode cX11_endContracts 21 = .ok (.bipush (-9), 2) := by decide +kernel
theorem dX11_endContracts_23 : decode cX11_endContracts 23 = .ok (.if_icmp .eq 34, 3) := by decide +kernel
theorem dX11_endContracts_26 : decode cX11_endContracts 26 = .ok (.aload_n 0, 1) := by decide +kernel
theorem dX11_endContracts_27 : decode cX11_endContracts 27 = .ok (.iload_n 2, 1) := by decide +kernel
theorem dX11_endContracts_28 : decode cX11_endContracts 28 = .ok (.iconst 5, 1) := by decide +kernel
theorem dX11_endContracts_29 : decode cX11_endContracts 29 = .ok (.iadd, 1) := by decide +kernel
theorem dX11_endContracts_30 : decode cX11_endContracts 30 = .ok (.iaload, 1) := by decide +kernel
theorem dX11_endContracts_31 : decode cX11_endContracts 31 = .ok (.ifCond .ne 17, 3) := by decide +kernel
theorem dX11_endContracts_34 : decode cX11_endContracts 34 = .ok (.aload_n 0, 1) := by decide +kernel
theorem dX11_endContracts_35 : decode cX11_endContracts 35 = .ok (.iload_n 3, 1) := by decide +kernel
theorem dX11_endContracts_36 : decode cX11_endContracts 36 = .ok (.iconst 5, 1) := by decide +kernel
theorem dX11_endContracts_37 : decode cX11_endContracts 37 = .ok (.invokestatic 102, 3) := by decide +kernel
theorem dX11_endContracts_40 : decode cX11_endContracts 40 = .ok (.aload_n 0, 1) := by decide +kernel
theorem dX11_endContracts_41 : decode cX11_endContracts 41 = .ok (.bipush 8, 2) := by decide +kernel
theorem dX11_endContracts_43 : decode cX11_endContracts 43 = .ok (.dup2, 1) := by decide +kernel
theorem dX11_endContracts_44 : decode cX11_endContracts 44 = .ok (.iaload, 1) := by decide +kernel
theorem dX11_endContracts_45 : decode cX11_endContracts 45 = .ok (.iconst 5, 1) := by decide +kernel
theorem dX11_endContracts_46 : decode cX11_endContracts 46 = .ok (.iadd, 1) := by decide +kernel
theorem dX11_endContracts_47 : decode cX11_endContracts 47 = .ok (.iastore, 1) := by decide +kernel
theorem dX11_endContracts_48 : decode cX11_endContracts 48 = .ok (.aload_n 0, 1) := by decide +kernel
theorem dX11_endContracts_49 : decode cX11_endContracts 49 = .ok (.iload_n 2, 1) := by decide +kernel
theorem dX11_endContracts_50 : decode cX11_endContracts 50 = .ok (.iconst 3, 1) := by decide +kernel
theorem dX11_endContracts_51 : decode cX11_endContracts 51 = .ok (.iadd, 1) := by decide +kernel
theorem dX11_endContracts_52 : decode cX11_endContracts 52 = .ok (.dup2, 1) := by decide +kernel
theorem dX11_endContracts_53 : decode cX11_endContracts 53 = .ok (.iaload, 1) := by decide +kernel
theorem dX11_endContracts_54 : decode cX11_endContracts 54 = .ok (.iconst 1, 1) := by decide +kernel
theorem dX11_endContracts_55 : decode cX11_endContracts 55 = .ok (.isub, 1) := by decide +kernel
theorem dX11_endContracts_56 : decode cX11_endContracts 56 = .ok (.iastore, 1) := by decide +kernel
theorem dX11_endContracts_57 : decode cX11_endContracts 57 = .ok (.aload_n 0, 1) := by decide +kernel
theorem dX11_endContracts_58 : decode cX11_endContracts 58 = .ok (.iload_n 2, 1) := by decide +kernel
theorem dX11_endContracts_59 : decode cX11_endContracts 59 = .ok (.iconst 5, 1) := by decide +kernel
theorem dX11_endContracts_60 : decode cX11_endContracts 60 = .ok (.iadd, 1) := by decide +kernel
theorem dX11_endContracts_61 : decode cX11_endContracts 61 = .ok (.iconst 0, 1) := by decide +kernel
theorem dX11_endContracts_62 : decode cX11_endContracts 62 = .ok (.iastore, 1) := by decide +kernel
theorem dX11_endContracts_63 : decode cX11_endContracts 63 = .ok (.aload_n 0, 1) := by decide +kernel
theorem dX11_endContracts_64 : decode cX11_endContracts 64 = .ok (.iload_n 2, 1) := by decide +kernel
theorem dX11_endContracts_65 : decode cX11_endContracts 65 = .ok (.iconst 3, 1) := by decide +kernel
theorem dX11_endContracts_66 : decode cX11_endContracts 66 = .ok (.iadd, 1) := by decide +kernel
theorem dX11_endContracts_67 : decode cX11_endContracts 67 = .ok (.iaload, 1) := by decide +kernel
theorem dX11_endContracts_68 : decode cX11_endContracts 68 = .ok (.ifCond .ne 11, 3) := by decide +kernel
theorem dX11_endContracts_71 : decode cX11_endContracts 71 = .ok (.aload_n 0, 1) := by decide +kernel
theorem dX11_endContracts_72 : decode cX11_endContracts 72 = .ok (.iload_n 1, 1) := by decide +kernel
theorem dX11_endContracts_73 : decode cX11_endContracts 73 = .ok (.invokestatic 106, 3) := by decide +kernel
theorem dX11_endContracts_76 : decode cX11_endContracts 76 = .ok (.goto 6, 3) := by decide +kernel
theorem dX11_endContracts_79 : decode cX11_endContracts 79 = .ok (.iinc 1 1, 3) := by decide +kernel
theorem dX11_endContracts_82 : decode cX11_endContracts 82 = .ok (.goto (-80), 3) := by decide +kernel
theorem dX11_endContracts_85 : decode cX11_endContracts 85 = .ok (.return_, 1) := by decide +kernel
theorem dX11_tracksOf_0 : decode cX11_tracksOf 0 = .ok (.iconst 0, 1) := by decide +kernel
theorem dX11_tracksOf_1 : decode cX11_tracksOf 1 = .ok (.istore_n 3, 1) := by decide +kernel
theorem dX11_tracksOf_2 : decode cX11_tracksOf 2 = .ok (.iconst 0, 1) := by decide +kernel
theorem dX11_tracksOf_3 : decode cX11_tracksOf 3 = .ok (.istore 4, 2) := by decide +kernel
theorem dX11_tracksOf_5 : decode cX11_tracksOf 5 = .ok (.iload 4, 2) := by decide +kernel
theorem dX11_tracksOf_7 : decode cX11_tracksOf 7 = .ok (.aload_n 0, 1) := by decide +kernel
theorem dX11_tracksOf_8 : decode cX11_tracksOf 8 = .ok (.iconst 1, 1) := by decide +kernel
theorem dX11_tracksOf_9 : decode cX11_tracksOf 9 = .ok (.iaload, 1) := by decide +kernel
theorem dX11_tracksOf_10 : decode cX11_tracksOf 10 = .ok (.if_icmp .ge 46, 3) := by decide +kernel
theorem dX11_tracksOf_13 : decode cX11_tracksOf 13 = .ok (.iload_n 3, 1) := by decide +kernel
theorem dX11_tracksOf_14 : decode cX11_tracksOf 14 = .ok (.aload_n 0, 1) := by decide +kernel
theorem dX11_tracksOf_15 : decode cX11_tracksOf 15 = .ok (.iload 4, 2) := by decide +kernel
theorem dX11_tracksOf_17 : decode cX11_tracksOf 17 = .ok (.invokestatic 54, 3) := by decide +kernel
theorem dX11_tracksOf_20 : decode cX11_tracksOf 20 = .ok (.iconst 3, 1) := by decide +kernel
theorem dX11_tracksOf_21 : decode cX11_tracksOf 21 = .ok (.iadd, 1) := by decide +kernel
theorem dX11_tracksOf_22 : decode cX11_tracksOf 22 = .ok (.iaload, 1) := by decide +kernel
theorem dX11_tracksOf_23 : decode cX11_tracksOf 23 = .ok (.iload_n 1, 1) := by decide +kernel
theorem dX11_tracksOf_24 : decode cX11_tracksOf 24 = .ok (.if_icmp .ne 23, 3) := by decide +kernel
theorem dX11_tracksOf_27 : decode cX11_tracksOf 27 = .ok (.iload_n 2, 1) := by decide +kernel
theorem dX11_tracksOf_28 : decode cX11_tracksOf 28 = .ok (.ifCond .eq 15, 3) := by decide +kernel
theorem dX11_tracksOf_31 : decode cX11_tracksOf 31 = .ok (.aload_n 0, 1) := by decide +kernel
theorem dX11_tracksOf_32 : decode cX11_tracksOf 32 = .ok (.iload 4, 2) := by decide +kernel
theorem dX11_tracksOf_34 : decode cX11_tracksOf 34 = .ok (.invokestatic 54, 3) := by decide +kernel
theorem dX11_tracksOf_37 : decode cX11_tracksOf 37 = .ok (.iconst 2, 1) := by decide +kernel
theorem dX11_tracksOf_38 : decode cX11_tracksOf 38 = .ok (.iadd, 1) := by decide +kernel
theorem dX11_tracksOf_39 : decode cX11_tracksOf 39 = .ok (.iaload, 1) := by decide +kernel
theorem dX11_tracksOf_40 : decode cX11_tracksOf 40 = .ok (.goto 8, 3) := by decide +kernel
theorem dX11_tracksOf_43 : decode cX11_tracksOf 43 = .ok (.iconst 1, 1) := by decide +kernel
theorem dX11_tracksOf_44 : decode cX11_tracksOf 44 = .ok (.goto 4, 3) := by decide +kernel
theorem dX11_tracksOf_47 : decode cX11_tracksOf 47 = .ok (.iconst 0, 1) := by decide +kernel
theorem dX11_tracksOf_48 : decode cX11_tracksOf 48 = .ok (.iadd, 1) := by decide +kernel
theorem dX11_tracksOf_49 : decode cX11_tracksOf 49 = .ok (.istore_n 3, 1) := by decide +kernel
theorem dX11_tracksOf_50 : decode cX11_tracksOf 50 = .ok (.iinc 4 1, 3) := by decide +kernel
theorem dX11_tracksOf_53 : decode cX11_tracksOf 53 = .ok (.goto (-48), 3) := by decide +kernel
theorem dX11_tracksOf_56 : decode cX11_tracksOf 56 = .ok (.iload_n 3, 1) := by decide +kernel
theorem dX11_tracksOf_57 : decode cX11_tracksOf 57 = .ok (.ireturn, 1) := by decide +kernel
theorem dX11_levelsOf_0 : decode cX11_levelsOf 0 = .ok (.iconst 0, 1) := by decide +kernel
theorem dX11_levelsOf_1 : decode cX11_levelsOf 1 = .ok (.istore_n 2, 1) := by decide +kernel
theorem dX11_levelsOf_2 : decode cX11_levelsOf 2 = .ok (.iconst 0, 1) := by decide +kernel
theorem dX11_levelsOf_3 : decode cX11_levelsOf 3 = .ok (.istore_n 3, 1) := by decide +kernel
theorem dX11_levelsOf_4 : decode cX11_levelsOf 4 = .ok (.iload_n 3, 1) := by decide +kernel
theorem dX11_levelsOf_5 : decode cX11_levelsOf 5 = .ok (.aload_n 0, 1) := by decide +kernel
theorem dX11_levelsOf_6 : decode cX11_levelsOf 6 = .ok (.iload_n 1, 1) := by decide +kernel
theorem dX11_levelsOf_7 : decode cX11_levelsOf 7 = .ok (.invokestatic 66, 3) := by decide +kernel
theorem dX11_levelsOf_10 : decode cX11_levelsOf 10 = .ok (.if_icmp .ge 19, 3) := by decide +kernel
theorem dX11_levelsOf_13 : decode cX11_levelsOf 13 = .ok (.iload_n 2, 1) := by decide +kernel
theorem dX11_levelsOf_14 : decode cX11_levelsOf 14 = .ok (.aload_n 0, 1) := by decide +kernel
theorem dX11_levelsOf_15 : decode cX11_levelsOf 15 = .ok (.iload_n 1, 1) := by decide +kernel
theorem dX11_levelsOf_16 : decode cX11_levelsOf 16 = .ok (.iload_n 3, 1) := by decide +kernel
theorem dX11_levelsOf_17 : decode cX11_levelsOf 17 = .ok (.invokestatic 94, 3) := by decide +kernel
theorem dX11_levelsOf_20 : decode cX11_levelsOf 20 = .ok (.iaload, 1) := by decide +kernel
theorem dX11_levelsOf_21 : decode cX11_levelsOf 21 = .ok (.iadd, 1) := by decide +kernel
theorem dX11_levelsOf_22 : decode cX11_levelsOf 22 = .ok (.istore_n 2, 1) := by decide +kernel
theorem dX11_levelsOf_23 : decode cX11_levelsOf 23 = .ok (.iinc 3 1, 3) := by decide +kernel
theorem dX11_levelsOf_26 : decode cX11_levelsOf 26 = .ok (.goto (-22), 3) := by decide +kernel
theorem dX11_levelsOf_29 : decode cX11_levelsOf 29 = .ok (.iload_n 2, 1) := by decide +kernel
theorem dX11_levelsOf_30 : decode cX11_levelsOf 30 = .ok (.ireturn, 1) := by decide +kernel
theorem dX11_contractsOf_0 : decode cX11_contractsOf 0 = .ok (.iconst 0, 1) := by decide +kernel
theorem dX11_contractsOf_1 : decode cX11_contractsOf 1 = .ok (.istore_n 2, 1) := by decide +kernel
theorem dX11_contractsOf_2 : decode cX11_contractsOf 2 = .ok (.iconst 0, 1) := by decide +kernel
theorem dX11_contractsOf_3 : decode cX11_contractsOf 3 = .ok (.istore_n 3, 1) := by decide +kernel
theorem dX11_contractsOf_4 : decode cX11_contractsOf 4 = .ok (.iload_n 3, 1) := by decide +kernel
theorem dX11_contractsOf_5 : decode cX11_contractsOf 5 = .ok (.aload_n 0, 1) := by decide +kernel
theorem dX11_contractsOf_6 : decode cX11_contractsOf 6 = .ok (.iconst 2, 1) := by decide +kernel
theorem dX11_contractsOf_7 : decode cX11_contractsOf 7 = .ok (.iaload, 1) := by decide +kernel
theorem dX11_contractsOf_8 : decode cX11_contractsOf 8 = .ok (.if_icmp .ge 29, 3) := by decide +kernel
theorem dX11_contractsOf_11 : decode cX11_contractsOf 11 = .ok (.iload_n 2, 1) := by decide +kernel
theorem dX11_contractsOf_12 : decode cX11_contractsOf 12 = .ok (.aload_n 0, 1) := by decide +kernel
theorem dX11_contractsOf_13 : decode cX11_contractsOf 13 = .ok (.iload_n 3, 1) := by decide +kernel
theorem dX11_contractsOf_14 : decode cX11_contractsOf 14 = .ok (.invokestatic 57, 3) := by decide +kernel
theorem dX11_contractsOf_17 : decode cX11_contractsOf 17 = .ok (.iconst 4, 1) := by decide +kernel
theorem dX11_contractsOf_18 : decode cX11_contractsOf 18 = .ok (.iadd, 1) := by decide +kernel
theorem dX11_contractsOf_19 : decode cX11_contractsOf 19 = .ok (.iaload, 1) := by decide +kernel
theorem dX11_contractsOf_20 : decode cX11_contractsOf 20 = .ok (.iload_n 1, 1) := by decide +kernel
theorem dX11_contractsOf_21 : decode cX11_contractsOf 21 = .ok (.if_icmp .ne 7, 3) := by decide +kernel
theorem dX11_contractsOf_24 : decode cX11_contractsOf 24 = .ok (.iconst 1, 1) := by decide +kernel
theorem dX11_contractsOf_25 : decode cX11_contractsOf 25 = .ok (.goto 4, 3) := by decide +kernel
theorem dX11_contractsOf_28 : decode cX11_contractsOf 28 = .ok (.iconst 0, 1) := by decide +kernel
theorem dX11_contractsOf_29 : decode cX11_contractsOf 29 = .ok (.iadd, 1) := by decide +kernel
theorem dX11_contractsOf_30 : decode cX11_contractsOf 30 = .ok (.istore_n 2, 1) := by decide +kernel
theorem dX11_contractsOf_31 : decode cX11_contractsOf 31 = .ok (.iinc 3 1, 3) := by decide +kernel
theorem dX11_contractsOf_34 : decode cX11_contractsOf 34 = .ok (.goto (-30), 3) := by decide +kernel
theorem dX11_contractsOf_37 : decode cX11_contractsOf 37 = .ok (.iload_n 2, 1) := by decide +kernel
theorem dX11_contractsOf_38 : decode cX11_contractsOf 38 = .ok (.ireturn, 1) := by decide +kernel
theorem dX11_goBroke_0 : decode cX11_goBroke 0 = .ok (.aload_n 0, 1) := by decide +kernel
theorem dX11_goBroke_1 : decode cX11_goBroke 1 = .ok (.iload_n 1, 1) := by decide +kernel
theorem dX11_goBroke_2 : decode cX11_goBroke 2 = .ok (.aload_n 0, 1) := by decide +kernel
theorem dX11_goBroke_3 : decode cX11_goBroke 3 = .ok (.iload_n 1, 1) := by decide +kernel
theorem dX11_goBroke_4 : decode cX11_goBroke 4 = .ok (.invokestatic 50, 3) := by decide +kernel
theorem dX11_goBroke_7 : decode cX11_goBroke 7 = .ok (.iaload, 1) := by decide +kernel
theorem dX11_goBroke_8 : decode cX11_goBroke 8 = .ok (.invokestatic 102, 3) := by decide +kernel
theorem dX11_goBroke_11 : decode cX11_goBroke 11 = .ok (.aload_n 0, 1) := by decide +kernel
theorem dX11_goBroke_12 : decode cX11_goBroke 12 = .ok (.iload_n 1, 1) := by decide +kernel
theorem dX11_goBroke_13 : decode cX11_goBroke 13 = .ok (.invokestatic 50, 3) := by decide +kernel
theorem dX11_goBroke_16 : decode cX11_goBroke 16 = .ok (.iconst 2, 1) := by decide +kernel
theorem dX11_goBroke_17 : decode cX11_goBroke 17 = .ok (.iadd, 1) := by decide +kernel
theorem dX11_goBroke_18 : decode cX11_goBroke 18 = .ok (.iconst 0, 1) := by decide +kernel
theorem dX11_goBroke_19 : decode cX11_goBroke 19 = .ok (.iastore, 1) := by decide +kernel
theorem dX11_goBroke_20 : decode cX11_goBroke 20 = .ok (.aload_n 0, 1) := by decide +kernel
theorem dX11_goBroke_21 : decode cX11_goBroke 21 = .ok (.iload_n 1, 1) := by decide +kernel
theorem dX11_goBroke_22 : decode cX11_goBroke 22 = .ok (.invokestatic 50, 3) := by decide +kernel
theorem dX11_goBroke_25 : decode cX11_goBroke 25 = .ok (.iconst 4, 1) := by decide +kernel
theorem dX11_goBroke_26 : decode cX11_goBroke 26 = .ok (.iadd, 1) := by decide +kernel
theorem dX11_goBroke_27 : decode cX11_goBroke 27 = .ok (.dup2, 1) := by decide +kernel
theorem dX11_goBroke_28 : decode cX11_goBroke 28 = .ok (.iaload, 1) := by decide +kernel
theorem dX11_goBroke_29 : decode cX11_goBroke 29 = .ok (.iconst 1, 1) := by decide +kernel
theorem dX11_goBroke_30 : decode cX11_goBroke 30 = .ok (.iadd, 1) := by decide +kernel
theorem dX11_goBroke_31 : decode cX11_goBroke 31 = .ok (.iastore, 1) := by decide +kernel
theorem dX11_goBroke_32 : decode cX11_goBroke 32 = .ok (.aload_n 0, 1) := by decide +kernel
theorem dX11_goBroke_33 : decode cX11_goBroke 33 = .ok (.bipush 9, 2) := by decide +kernel
theorem dX11_goBroke_35 : decode cX11_goBroke 35 = .ok (.dup2, 1) := by decide +kernel
theorem dX11_goBroke_36 : decode cX11_goBroke 36 = .ok (.iaload, 1) := by decide +kernel
theorem dX11_goBroke_37 : decode cX11_goBroke 37 = .ok (.iconst 1, 1) := by decide +kernel
theorem dX11_goBroke_38 : decode cX11_goBroke 38 = .ok (.iadd, 1) := by decide +kernel
theorem dX11_goBroke_39 : decode cX11_goBroke 39 = .ok (.iastore, 1) := by decide +kernel
theorem dX11_goBroke_40 : decode cX11_goBroke 40 = .ok (.iconst 0, 1) := by decide +kernel
theorem dX11_goBroke_41 : decode cX11_goBroke 41 = .ok (.istore_n 2, 1) := by decide +kernel
theorem dX11_goBroke_42 : decode cX11_goBroke 42 = .ok (.iload_n 2, 1) := by decide +kernel
theorem dX11_goBroke_43 : decode cX11_goBroke 43 = .ok (.aload_n 0, 1) := by decide +kernel
theorem dX11_goBroke_44 : decode cX11_goBroke 44 = .ok (.iconst 1, 1) := by decide +kernel
theorem dX11_goBroke_45 : decode cX11_goBroke 45 = .ok (.iaload, 1) := by decide +kernel
theorem dX11_goBroke_46 : decode cX11_goBroke 46 = .ok (.if_icmp .ge 42, 3) := by decide +kernel
theorem dX11_goBroke_49 : decode cX11_goBroke 49 = .ok (.aload_n 0, 1) := by decide +kernel
theorem dX11_goBroke_50 : decode cX11_goBroke 50 = .ok (.iload_n 2, 1) := by decide +kernel
theorem dX11_goBroke_51 : decode cX11_goBroke 51 = .ok (.invokestatic 54, 3) := by decide +kernel
theorem dX11_goBroke_54 : decode cX11_goBroke 54 = .ok (.iconst 3, 1) := by decide +kernel
theorem dX11_goBroke_55 : decode cX11_goBroke 55 = .ok (.iadd, 1) := by decide +kernel
theorem dX11_goBroke_56 : decode cX11_goBroke 56 = .ok (.aload_n 0, 1) := by decide +kernel
theorem dX11_goBroke_57 : decode cX11_goBroke 57 = .ok (.iload_n 2, 1) := by decide +kernel
theorem dX11_goBroke_58 : decode cX11_goBroke 58 = .ok (.invokestatic 54, 3) := by decide +kernel
theorem dX11_goBroke_61 : decode cX11_goBroke 61 = .ok (.iconst 3, 1) := by decide +kernel
theorem dX11_goBroke_62 : decode cX11_goBroke 62 = .ok (.iadd, 1) := by decide +kernel
theorem dX11_goBroke_63 : decode cX11_goBroke 63 = .ok (.iaload, 1) := by decide +kernel
theorem dX11_goBroke_64 : decode cX11_goBroke 64 = .ok (.iload_n 1, 1) := by decide +kernel
theorem dX11_goBroke_65 : decode cX11_goBroke 65 = .ok (.if_icmp .ne 8, 3) := by decide +kernel
theorem dX11_goBroke_68 : decode cX11_goBroke 68 = .ok (.bipush (-9), 2) := by decide +kernel
theorem dX11_goBroke_70 : decode cX11_goBroke 70 = .ok (.goto 11, 3) := by decide +kernel
theorem dX11_goBroke_73 : decode cX11_goBroke 73 = .ok (.aload_n 0, 1) := by decide +kernel
theorem dX11_goBroke_74 : decode cX11_goBroke 74 = .ok (.iload_n 2, 1) := by decide +kernel
theorem dX11_goBroke_75 : decode cX11_goBroke 75 = .ok (.invokestatic 54, 3) := by decide +kernel
theorem dX11_goBroke_78 : decode cX11_goBroke 78 = .ok (.iconst 3, 1) := by decide +kernel
theorem dX11_goBroke_79 : decode cX11_goBroke 79 = .ok (.iadd, 1) := by decide +kernel
theorem dX11_goBroke_80 : decode cX11_goBroke 80 = .ok (.iaload, 1) := by decide +kernel
theorem dX11_goBroke_81 : decode cX11_goBroke 81 = .ok (.iastore, 1) := by decide +kernel
theorem dX11_goBroke_82 : decode cX11_goBroke 82 = .ok (.iinc 2 1, 3) := by decide +kernel
theorem dX11_goBroke_85 : decode cX11_goBroke 85 = .ok (.goto (-43), 3) := by decide +kernel
theorem dX11_goBroke_88 : decode cX11_goBroke 88 = .ok (.iconst 0, 1) := by decide +kernel
theorem dX11_goBroke_89 : decode cX11_goBroke 89 = .ok (.istore_n 2, 1) := by decide +kernel
theorem dX11_goBroke_90 : decode cX11_goBroke 90 = .ok (.iload_n 2, 1) := by decide +kernel
theorem dX11_goBroke_91 : decode cX11_goBroke 91 = .ok (.aload_n 0, 1) := by decide +kernel
theorem dX11_goBroke_92 : decode cX11_goBroke 92 = .ok (.iconst 2, 1) := by decide +kernel
theorem dX11_goBroke_93 : decode cX11_goBroke 93 = .ok (.iaload, 1) := by decide +kernel
theorem dX11_goBroke_94 : decode cX11_goBroke 94 = .ok (.if_icmp .ge 42, 3) := by decide +kernel
theorem dX11_goBroke_97 : decode cX11_goBroke 97 = .ok (.aload_n 0, 1) := by decide +kernel
theorem dX11_goBroke_98 : decode cX11_goBroke 98 = .ok (.iload_n 2, 1) := by decide +kernel
theorem dX11_goBroke_99 : decode cX11_goBroke 99 = .ok (.invokestatic 57, 3) := by decide +kernel
theorem dX11_goBroke_102 : decode cX11_goBroke 102 = .ok (.iconst 4, 1) := by decide +kernel
theorem dX11_goBroke_103 : decode cX11_goBroke 103 = .ok (.iadd, 1) := by decide +kernel
theorem dX11_goBroke_104 : decode cX11_goBroke 104 = .ok (.aload_n 0, 1) := by decide +kernel
theorem dX11_goBroke_105 : decode cX11_goBroke 105 = .ok (.iload_n 2, 1) := by decide +kernel
theorem dX11_goBroke_106 : decode cX11_goBroke 106 = .ok (.invokestatic 57, 3) := by decide +kernel
theorem dX11_goBroke_109 : decode cX11_goBroke 109 = .ok (.iconst 4, 1) := by decide +kernel
theorem dX11_goBroke_110 : decode cX11_goBroke 110 = .ok (.iadd, 1) := by decide +kernel
theorem dX11_goBroke_111 : decode cX11_goBroke 111 = .ok (.iaload, 1) := by decide +kernel
theorem dX11_goBroke_112 : decode cX11_goBroke 112 = .ok (.iload_n 1, 1) := by decide +kernel
theorem dX11_goBroke_113 : decode cX11_goBroke 113 = .ok (.if_icmp .ne 8, 3) := by decide +kernel
theorem dX11_goBroke_116 : decode cX11_goBroke 116 = .ok (.bipush (-9), 2) := by decide +kernel
theorem dX11_goBroke_118 : decode cX11_goBroke 118 = .ok (.goto 11, 3) := by decide +kernel
theorem dX11_goBroke_121 : decode cX11_goBroke 121 = .ok (.aload_n 0, 1) := by decide +kernel
theorem dX11_goBroke_122 : decode cX11_goBroke 122 = .ok (.iload_n 2, 1) := by decide +kernel
theorem dX11_goBroke_123 : decode cX11_goBroke 123 = .ok (.invokestatic 57, 3) := by decide +kernel
theorem dX11_goBroke_126 : decode cX11_goBroke 126 = .ok (.iconst 4, 1) := by decide +kernel
theorem dX11_goBroke_127 : decode cX11_goBroke 127 = .ok (.iadd, 1) := by decide +kernel
theorem dX11_goBroke_128 : decode cX11_goBroke 128 = .ok (.iaload, 1) := by decide +kernel
theorem dX11_goBroke_129 : decode cX11_goBroke 129 = .ok (.iastore, 1) := by decide +kernel
theorem dX11_goBroke_130 : decode cX11_goBroke 130 = .ok (.iinc 2 1, 3) := by decide +kernel
theorem dX11_goBroke_133 : decode cX11_goBroke 133 = .ok (.goto (-43), 3) := by decide +kernel
theorem dX11_goBroke_136 : decode cX11_goBroke 136 = .ok (.return_, 1) := by decide +kernel
theorem dX11_endOn_0 : decode cX11_endOn 0 = .ok (.aload_n 0, 1) := by decide +kernel
theorem dX11_endOn_1 : decode cX11_endOn 1 = .ok (.invokestatic 110, 3) := by decide +kernel
theorem dX11_endOn_4 : decode cX11_endOn 4 = .ok (.iconst 0, 1) := by decide +kernel
theorem dX11_endOn_5 : decode cX11_endOn 5 = .ok (.istore_n 1, 1) := by decide +kernel
theorem dX11_endOn_6 : decode cX11_endOn 6 = .ok (.iload_n 1, 1) := by decide +kernel
theorem dX11_endOn_7 : decode cX11_endOn 7 = .ok (.iconst 4, 1) := by decide +kernel
theorem dX11_endOn_8 : decode cX11_endOn 8 = .ok (.if_icmp .ge 26, 3) := by decide +kernel
theorem dX11_endOn_11 : decode cX11_endOn 11 = .ok (.aload_n 0, 1) := by decide +kernel
theorem dX11_endOn_12 : decode cX11_endOn 12 = .ok (.iload_n 1, 1) := by decide +kernel
theorem dX11_endOn_13 : decode cX11_endOn 13 = .ok (.aload_n 0, 1) := by decide +kernel
theorem dX11_endOn_14 : decode cX11_endOn 14 = .ok (.iload_n 1, 1) := by decide +kernel
theorem dX11_endOn_15 : decode cX11_endOn 15 = .ok (.iconst 0, 1) := by decide +kernel
theorem dX11_endOn_16 : decode cX11_endOn 16 = .ok (.invokestatic 113, 3) := by decide +kernel
theorem dX11_endOn_19 : decode cX11_endOn 19 = .ok (.aload_n 0, 1) := by decide +kernel
theorem dX11_endOn_20 : decode cX11_endOn 20 = .ok (.iload_n 1, 1) := by decide +kernel
theorem dX11_endOn_21 : decode cX11_endOn 21 = .ok (.invokestatic 117, 3) := by decide +kernel
theorem dX11_endOn_24 : decode cX11_endOn 24 = .ok (.iadd, 1) := by decide +kernel
theorem dX11_endOn_25 : decode cX11_endOn 25 = .ok (.invokestatic 102, 3) := by decide +kernel
theorem dX11_endOn_28 : decode cX11_endOn 28 = .ok (.iinc 1 1, 3) := by decide +kernel
theorem dX11_endOn_31 : decode cX11_endOn 31 = .ok (.goto (-25), 3) := by decide +kernel
theorem dX11_endOn_34 : decode cX11_endOn 34 = .ok (.iconst 0, 1) := by decide +kernel
theorem dX11_endOn_35 : decode cX11_endOn 35 = .ok (.istore_n 1, 1) := by decide +kernel
theorem dX11_endOn_36 : decode cX11_endOn 36 = .ok (.iconst 0, 1) := by decide +kernel
theorem dX11_endOn_37 : decode cX11_endOn 37 = .ok (.istore_n 2, 1) := by decide +kernel
theorem dX11_endOn_38 : decode cX11_endOn 38 = .ok (.iload_n 2, 1) := by decide +kernel
theorem dX11_endOn_39 : decode cX11_endOn 39 = .ok (.iconst 4, 1) := by decide +kernel
theorem dX11_endOn_40 : decode cX11_endOn 40 = .ok (.if_icmp .ge 56, 3) := by decide +kernel
theorem dX11_endOn_43 : decode cX11_endOn 43 = .ok (.aload_n 0, 1) := by decide +kernel
theorem dX11_endOn_44 : decode cX11_endOn 44 = .ok (.iload_n 2, 1) := by decide +kernel
theorem dX11_endOn_45 : decode cX11_endOn 45 = .ok (.invokestatic 50, 3) := by decide +kernel
theorem dX11_endOn_48 : decode cX11_endOn 48 = .ok (.iaload, 1) := by decide +kernel
theorem dX11_endOn_49 : decode cX11_endOn 49 = .ok (.ifCond .ge 14, 3) := by decide +kernel
theorem dX11_endOn_52 : decode cX11_endOn 52 = .ok (.aload_n 0, 1) := by decide +kernel
theorem dX11_endOn_53 : decode cX11_endOn 53 = .ok (.iload_n 2, 1) := by decide +kernel
theorem dX11_endOn_54 : decode cX11_endOn 54 = .ok (.invokestatic 120, 3) := by decide +kernel
theorem dX11_endOn_57 : decode cX11_endOn 57 = .ok (.iload_n 1, 1) := by decide +kernel
theorem dX11_endOn_58 : decode cX11_endOn 58 = .ok (.iconst 1, 1) := by decide +kernel
theorem dX11_endOn_59 : decode cX11_endOn 59 = .ok (.iload_n 2, 1) := by decide +kernel
theorem dX11_endOn_60 : decode cX11_endOn 60 = .ok (.ishl, 1) := by decide +kernel
theorem dX11_endOn_61 : decode cX11_endOn 61 = .ok (.ior, 1) := by decide +kernel
theorem dX11_endOn_62 : decode cX11_endOn 62 = .ok (.istore_n 1, 1) := by decide +kernel
theorem dX11_endOn_63 : decode cX11_endOn 63 = .ok (.iconst 0, 1) := by decide +kernel
theorem dX11_endOn_64 : decode cX11_endOn 64 = .ok (.istore_n 3, 1) := by decide +kernel
theorem dX11_endOn_65 : decode cX11_endOn 65 = .ok (.iload_n 3, 1) := by decide +kernel
theorem dX11_endOn_66 : decode cX11_endOn 66 = .ok (.aload_n 0, 1) := by decide +kernel
theorem dX11_endOn_67 : decode cX11_endOn 67 = .ok (.iload_n 2, 1) := by decide +kernel
theorem dX11_endOn_68 : decode cX11_endOn 68 = .ok (.invokestatic 66, 3) := by decide +kernel
theorem dX11_endOn_71 : decode cX11_endOn 71 = .ok (.if_icmp .ge 19, 3) := by decide +kernel
theorem dX11_endOn_74 : decode cX11_endOn 74 = .ok (.aload_n 0, 1) := by decide +kernel
theorem dX11_endOn_75 : decode cX11_endOn 75 = .ok (.iload_n 2, 1) := by decide +kernel
theorem dX11_endOn_76 : decode cX11_endOn 76 = .ok (.iload_n 3, 1) := by decide +kernel
theorem dX11_endOn_77 : decode cX11_endOn 77 = .ok (.invokestatic 94, 3) := by decide +kernel
theorem dX11_endOn_80 : decode cX11_endOn 80 = .ok (.iconst 1, 1) := by decide +kernel
theorem dX11_endOn_81 : decode cX11_endOn 81 = .ok (.iadd, 1) := by decide +kernel
theorem dX11_endOn_82 : decode cX11_endOn 82 = .ok (.iconst 0, 1) := by decide +kernel
theorem dX11_endOn_83 : decode cX11_endOn 83 = .ok (.iastore, 1) := by decide +kernel
theorem dX11_endOn_84 : decode cX11_endOn 84 = .ok (.iinc 3 1, 3) := by decide +kernel
theorem dX11_endOn_87 : decode cX11_endOn 87 = .ok (.goto (-22), 3) := by decide +kernel
theorem dX11_endOn_90 : decode cX11_endOn 90 = .ok (.iinc 2 1, 3) := by decide +kernel
theorem dX11_endOn_93 : decode cX11_endOn 93 = .ok (.goto (-55), 3) := by decide +kernel
theorem dX11_endOn_96 : decode cX11_endOn 96 = .ok (.aload_n 0, 1) := by decide +kernel
theorem dX11_endOn_97 : decode cX11_endOn 97 = .ok (.iconst 4, 1) := by decide +kernel
theorem dX11_endOn_98 : decode cX11_endOn 98 = .ok (.dup2, 1) := by decide +kernel
theorem dX11_endOn_99 : decode cX11_endOn 99 = .ok (.iaload, 1) := by decide +kernel
theorem dX11_endOn_100 : decode cX11_endOn 100 = .ok (.iconst 1, 1) := by decide +kernel
theorem dX11_endOn_101 : decode cX11_endOn 101 = .ok (.iadd, 1) := by decide +kernel
theorem dX11_endOn_102 : decode cX11_endOn 102 = .ok (.iastore, 1) := by decide +kernel
theorem dX11_endOn_103 : decode cX11_endOn 103 = .ok (.iload_n 1, 1) := by decide +kernel
theorem dX11_endOn_104 : decode cX11_endOn 104 = .ok (.ireturn, 1) := by decide +kernel
theorem dX11_canBuyTrack_0 : decode cX11_canBuyTrack 0 = .ok (.aload_n 0, 1) := by decide +kernel
theorem dX11_canBuyTrack_1 : decode cX11_canBuyTrack 1 = .ok (.iload_n 2, 1) := by decide +kernel
theorem dX11_canBuyTrack_2 : decode cX11_canBuyTrack 2 = .ok (.invokestatic 54, 3) := by decide +kernel
theorem dX11_canBuyTrack_5 : decode cX11_canBuyTrack 5 = .ok (.iconst 3, 1) := by decide +kernel
theorem dX11_canBuyTrack_6 : decode cX11_canBuyTrack 6 = .ok (.iadd, 1) := by decide +kernel
theorem dX11_canBuyTrack_7 : decode cX11_canBuyTrack 7 = .ok (.iaload, 1) := by decide +kernel
theorem dX11_canBuyTrack_8 : decode cX11_canBuyTrack 8 = .ok (.bipush (-9), 2) := by decide +kernel
theorem dX11_canBuyTrack_10 : decode cX11_canBuyTrack 10 = .ok (.if_icmp .ne 26, 3) := by decide +kernel
theorem dX11_canBuyTrack_13 : decode cX11_canBuyTrack 13 = .ok (.aload_n 0, 1) := by decide +kernel
theorem dX11_canBuyTrack_14 : decode cX11_canBuyTrack 14 = .ok (.iload_n 1, 1) := by decide +kernel
theorem dX11_canBuyTrack_15 : decode cX11_canBuyTrack 15 = .ok (.invokestatic 50, 3) := by decide +kernel
theorem dX11_canBuyTrack_18 : decode cX11_canBuyTrack 18 = .ok (.iaload, 1) := by decide +kernel
theorem dX11_canBuyTrack_19 : decode cX11_canBuyTrack 19 = .ok (.iconst 3, 1) := by decide +kernel
theorem dX11_canBuyTrack_20 : decode cX11_canBuyTrack 20 = .ok (.aload_n 0, 1) := by decide +kernel
theorem dX11_canBuyTrack_21 : decode cX11_canBuyTrack 21 = .ok (.iload_n 2, 1) := by decide +kernel
theorem dX11_canBuyTrack_22 : decode cX11_canBuyTrack 22 = .ok (.invokestatic 54, 3) := by decide +kernel
theorem dX11_canBuyTrack_25 : decode cX11_canBuyTrack 25 = .ok (.iconst 2, 1) := by decide +kernel
theorem dX11_canBuyTrack_26 : decode cX11_canBuyTrack 26 = .ok (.iadd, 1) := by decide +kernel
theorem dX11_canBuyTrack_27 : decode cX11_canBuyTrack 27 = .ok (.iaload, 1) := by decide +kernel
theorem dX11_canBuyTrack_28 : decode cX11_canBuyTrack 28 = .ok (.imul, 1) := by decide +kernel
theorem dX11_canBuyTrack_29 : decode cX11_canBuyTrack 29 = .ok (.if_icmp .lt 7, 3) := by decide +kernel
theorem dX11_canBuyTrack_32 : decode cX11_canBuyTrack 32 = .ok (.iconst 1, 1) := by decide +kernel
theorem dX11_canBuyTrack_33 : decode cX11_canBuyTrack 33 = .ok (.goto 4, 3) := by decide +kernel
theorem dX11_canBuyTrack_36 : decode cX11_canBuyTrack 36 = .ok (.iconst 0, 1) := by decide +kernel
theorem dX11_canBuyTrack_37 : decode cX11_canBuyTrack 37 = .ok (.ireturn, 1) := by decide +kernel
theorem dX11_buyTrackOn_0 : decode cX11_buyTrackOn 0 = .ok (.aload_n 0, 1) := by decide +kernel
theorem dX11_buyTrackOn_1 : decode cX11_buyTrackOn 1 = .ok (.iload_n 1, 1) := by decide +kernel
theorem dX11_buyTrackOn_2 : decode cX11_buyTrackOn 2 = .ok (.iconst 3, 1) := by decide +kernel
theorem dX11_buyTrackOn_3 : decode cX11_buyTrackOn 3 = .ok (.aload_n 0, 1) := by decide +kernel
theorem dX11_buyTrackOn_4 : decode cX11_buyTrackOn 4 = .ok (.iload_n 2, 1) := by decide +kernel
theorem dX11_buyTrackOn_5 : decode cX11_buyTrackOn 5 = .ok (.invokestatic 54, 3) := by decide +kernel
theorem dX11_buyTrackOn_8 : decode cX11_buyTrackOn 8 = .ok (.iconst 2, 1) := by decide +kernel
theorem dX11_buyTrackOn_9 : decode cX11_buyTrackOn 9 = .ok (.iadd, 1) := by decide +kernel
theorem dX11_buyTrackOn_10 : decode cX11_buyTrackOn 10 = .ok (.iaload, 1) := by decide +kernel
theorem dX11_buyTrackOn_11 : decode cX11_buyTrackOn 11 = .ok (.imul, 1) := by decide +kernel
theorem dX11_buyTrackOn_12 : decode cX11_buyTrackOn 12 = .ok (.invokestatic 102, 3) := by decide +kernel
theorem dX11_buyTrackOn_15 : decode cX11_buyTrackOn 15 = .ok (.aload_n 0, 1) := by decide +kernel
theorem dX11_buyTrackOn_16 : decode cX11_buyTrackOn 16 = .ok (.iload_n 2, 1) := by decide +kernel
theorem dX11_buyTrackOn_17 : decode cX11_buyTrackOn 17 = .ok (.invokestatic 54, 3) := by decide +kernel
theorem dX11_buyTrackOn_20 : decode cX11_buyTrackOn 20 = .ok (.iconst 3, 1) := by decide +kernel
theorem dX11_buyTrackOn_21 : decode cX11_buyTrackOn 21 = .ok (.iadd, 1) := by decide +kernel
theorem dX11_buyTrackOn_22 : decode cX11_buyTrackOn 22 = .ok (.iload_n 1, 1) := by decide +kernel
theorem dX11_buyTrackOn_23 : decode cX11_buyTrackOn 23 = .ok (.iastore, 1) := by decide +kernel
theorem dX11_buyTrackOn_24 : decode cX11_buyTrackOn 24 = .ok (.aload_n 0, 1) := by decide +kernel
theorem dX11_buyTrackOn_25 : decode cX11_buyTrackOn 25 = .ok (.iload_n 1, 1) := by decide +kernel
theorem dX11_buyTrackOn_26 : decode cX11_buyTrackOn 26 = .ok (.invokestatic 50, 3) := by decide +kernel
theorem dX11_buyTrackOn_29 : decode cX11_buyTrackOn 29 = .ok (.iaload, 1) := by decide +kernel
theorem dX11_buyTrackOn_30 : decode cX11_buyTrackOn 30 = .ok (.ireturn, 1) := by decide +kernel
theorem dX11_canBuyTrain_0 : decode cX11_canBuyTrain 0 = .ok (.iload_n 2, 1) := by decide +kernel
theorem dX11_canBuyTrain_1 : decode cX11_canBuyTrain 1 = .ok (.i2l, 1) := by decide +kernel
theorem dX11_canBuyTrain_2 : decode cX11_canBuyTrain 2 = .ok (.aload_n 0, 1) := by decide +kernel
theorem dX11_canBuyTrain_3 : decode cX11_canBuyTrain 3 = .ok (.iconst 3, 1) := by decide +kernel
theorem dX11_canBuyTrain_4 : decode cX11_canBuyTrain 4 = .ok (.iaload, 1) := by decide +kernel
theorem dX11_canBuyTrain_5 : decode cX11_canBuyTrain 5 = .ok (.iconst 1, 1) := by decide +kernel
theorem dX11_canBuyTrain_6 : decode cX11_canBuyTrain 6 = .ok (.isub, 1) := by decide +kernel
theorem dX11_canBuyTrain_7 : decode cX11_canBuyTrain 7 = .ok (.i2l, 1) := by decide +kernel
theorem dX11_canBuyTrain_8 : decode cX11_canBuyTrain 8 = .ok (.aload_n 0, 1) := by decide +kernel
theorem dX11_canBuyTrain_9 : decode cX11_canBuyTrain 9 = .ok (.iconst 3, 1) := by decide +kernel
theorem dX11_canBuyTrain_10 : decode cX11_canBuyTrain 10 = .ok (.iaload, 1) := by decide +kernel
theorem dX11_canBuyTrain_11 : decode cX11_canBuyTrain 11 = .ok (.iconst 1, 1) := by decide +kernel
theorem dX11_canBuyTrain_12 : decode cX11_canBuyTrain 12 = .ok (.iadd, 1) := by decide +kernel
theorem dX11_canBuyTrain_13 : decode cX11_canBuyTrain 13 = .ok (.i2l, 1) := by decide +kernel
theorem dX11_canBuyTrain_14 : decode cX11_canBuyTrain 14 = .ok (.invokestatic 62, 3) := by decide +kernel
theorem dX11_canBuyTrain_17 : decode cX11_canBuyTrain 17 = .ok (.ifCond .eq 29, 3) := by decide +kernel
theorem dX11_canBuyTrain_20 : decode cX11_canBuyTrain 20 = .ok (.aload_n 0, 1) := by decide +kernel
theorem dX11_canBuyTrain_21 : decode cX11_canBuyTrain 21 = .ok (.iload_n 1, 1) := by decide +kernel
theorem dX11_canBuyTrain_22 : decode cX11_canBuyTrain 22 = .ok (.invokestatic 66, 3) := by decide +kernel
theorem dX11_canBuyTrain_25 : decode cX11_canBuyTrain 25 = .ok (.iconst 4, 1) := by decide +kernel
theorem dX11_canBuyTrain_26 : decode cX11_canBuyTrain 26 = .ok (.if_icmp .ge 20, 3) := by decide +kernel
theorem dX11_canBuyTrain_29 : decode cX11_canBuyTrain 29 = .ok (.aload_n 0, 1) := by decide +kernel
theorem dX11_canBuyTrain_30 : decode cX11_canBuyTrain 30 = .ok (.iload_n 1, 1) := by decide +kernel
theorem dX11_canBuyTrain_31 : decode cX11_canBuyTrain 31 = .ok (.invokestatic 50, 3) := by decide +kernel
theorem dX11_canBuyTrain_34 : decode cX11_canBuyTrain 34 = .ok (.iaload, 1) := by decide +kernel
theorem dX11_canBuyTrain_35 : decode cX11_canBuyTrain 35 = .ok (.bipush 20, 2) := by decide +kernel
theorem dX11_canBuyTrain_37 : decode cX11_canBuyTrain 37 = .ok (.iload_n 2, 1) := by decide +kernel
theorem dX11_canBuyTrain_38 : decode cX11_canBuyTrain 38 = .ok (.imul, 1) := by decide +kernel
theorem dX11_canBuyTrain_39 : decode cX11_canBuyTrain 39 = .ok (.if_icmp .lt 7, 3) := by decide +kernel
theorem dX11_canBuyTrain_42 : decode cX11_canBuyTrain 42 = .ok (.iconst 1, 1) := by decide +kernel
theorem dX11_canBuyTrain_43 : decode cX11_canBuyTrain 43 = .ok (.goto 4, 3) := by decide +kernel
theorem dX11_canBuyTrain_46 : decode cX11_canBuyTrain 46 = .ok (.iconst 0, 1) := by decide +kernel
theorem dX11_canBuyTrain_47 : decode cX11_canBuyTrain 47 = .ok (.ireturn, 1) := by decide +kernel
theorem dX11_rust_0 : decode cX11_rust 0 = .ok (.iconst 0, 1) := by decide +kernel
theorem dX11_rust_1 : decode cX11_rust 1 = .ok (.istore_n 3, 1) := by decide +kernel
theorem dX11_rust_2 : decode cX11_rust 2 = .ok (.aload_n 0, 1) := by decide +kernel
theorem dX11_rust_3 : decode cX11_rust 3 = .ok (.iload_n 1, 1) := by decide +kernel
theorem dX11_rust_4 : decode cX11_rust 4 = .ok (.invokestatic 66, 3) := by decide +kernel
theorem dX11_rust_7 : decode cX11_rust 7 = .ok (.istore 4, 2) := by decide +kernel
theorem dX11_rust_9 : decode cX11_rust 9 = .ok (.iconst 0, 1) := by decide +kernel
theorem dX11_rust_10 : decode cX11_rust 10 = .ok (.istore 5, 2) := by decide +kernel
theorem dX11_rust_12 : decode cX11_rust 12 = .ok (.iload 5, 2) := by decide +kernel
theorem dX11_rust_14 : decode cX11_rust 14 = .ok (.iload 4, 2) := by decide +kernel
theorem dX11_rust_16 : decode cX11_rust 16 = .ok (.if_icmp .ge 58, 3) := by decide +kernel
theorem dX11_rust_19 : decode cX11_rust 19 = .ok (.aload_n 0, 1) := by decide +kernel
theorem dX11_rust_20 : decode cX11_rust 20 = .ok (.iload_n 1, 1) := by decide +kernel
theorem dX11_rust_21 : decode cX11_rust 21 = .ok (.iload 5, 2) := by decide +kernel
theorem dX11_rust_23 : decode cX11_rust 23 = .ok (.invokestatic 94, 3) := by decide +kernel
theorem dX11_rust_26 : decode cX11_rust 26 = .ok (.iaload, 1) := by decide +kernel
theorem dX11_rust_27 : decode cX11_rust 27 = .ok (.iload_n 2, 1) := by decide +kernel
theorem dX11_rust_28 : decode cX11_rust 28 = .ok (.if_icmp .lt 40, 3) := by decide +kernel
theorem dX11_rust_31 : decode cX11_rust 31 = .ok (.aload_n 0, 1) := by decide +kernel
theorem dX11_rust_32 : decode cX11_rust 32 = .ok (.iload_n 1, 1) := by decide +kernel
theorem dX11_rust_33 : decode cX11_rust 33 = .ok (.iload_n 3, 1) := by decide +kernel
theorem dX11_rust_34 : decode cX11_rust 34 = .ok (.invokestatic 94, 3) := by decide +kernel
theorem dX11_rust_37 : decode cX11_rust 37 = .ok (.aload_n 0, 1) := by decide +kernel
theorem dX11_rust_38 : decode cX11_rust 38 = .ok (.iload_n 1, 1) := by decide +kernel
theorem dX11_rust_39 : decode cX11_rust 39 = .ok (.iload 5, 2) := by decide +kernel
theorem dX11_rust_41 : decode cX11_rust 41 = .ok (.invokestatic 94, 3) := by decide +kernel
theorem dX11_rust_44 : decode cX11_rust 44 = .ok (.iaload, 1) := by decide +kernel
theorem dX11_rust_45 : decode cX11_rust 45 = .ok (.iastore, 1) := by decide +kernel
theorem dX11_rust_46 : decode cX11_rust 46 = .ok (.aload_n 0, 1) := by decide +kernel
theorem dX11_rust_47 : decode cX11_rust 47 = .ok (.iload_n 1, 1) := by decide +kernel
theorem dX11_rust_48 : decode cX11_rust 48 = .ok (.iload_n 3, 1) := by decide +kernel
theorem dX11_rust_49 : decode cX11_rust 49 = .ok (.invokestatic 94, 3) := by decide +kernel
theorem dX11_rust_52 : decode cX11_rust 52 = .ok (.iconst 1, 1) := by decide +kernel
theorem dX11_rust_53 : decode cX11_rust 53 = .ok (.iadd, 1) := by decide +kernel
theorem dX11_rust_54 : decode cX11_rust 54 = .ok (.aload_n 0, 1) := by decide +kernel
theorem dX11_rust_55 : decode cX11_rust 55 = .ok (.iload_n 1, 1) := by decide +kernel
theorem dX11_rust_56 : decode cX11_rust 56 = .ok (.iload 5, 2) := by decide +kernel
theorem dX11_rust_58 : decode cX11_rust 58 = .ok (.invokestatic 94, 3) := by decide +kernel
theorem dX11_rust_61 : decode cX11_rust 61 = .ok (.iconst 1, 1) := by decide +kernel
theorem dX11_rust_62 : decode cX11_rust 62 = .ok (.iadd, 1) := by decide +kernel
theorem dX11_rust_63 : decode cX11_rust 63 = .ok (.iaload, 1) := by decide +kernel
theorem dX11_rust_64 : decode cX11_rust 64 = .ok (.iastore, 1) := by decide +kernel
theorem dX11_rust_65 : decode cX11_rust 65 = .ok (.iinc 3 1, 3) := by decide +kernel
theorem dX11_rust_68 : decode cX11_rust 68 = .ok (.iinc 5 1, 3) := by decide +kernel
theorem dX11_rust_71 : decode cX11_rust 71 = .ok (.goto (-59), 3) := by decide +kernel
theorem dX11_rust_74 : decode cX11_rust 74 = .ok (.aload_n 0, 1) := by decide +kernel
theorem dX11_rust_75 : decode cX11_rust 75 = .ok (.iload_n 1, 1) := by decide +kernel
theorem dX11_rust_76 : decode cX11_rust 76 = .ok (.invokestatic 50, 3) := by decide +kernel
theorem dX11_rust_79 : decode cX11_rust 79 = .ok (.iconst 2, 1) := by decide +kernel
theorem dX11_rust_80 : decode cX11_rust 80 = .ok (.iadd, 1) := by decide +kernel
theorem dX11_rust_81 : decode cX11_rust 81 = .ok (.iload_n 3, 1) := by decide +kernel
theorem dX11_rust_82 : decode cX11_rust 82 = .ok (.iastore, 1) := by decide +kernel
theorem dX11_rust_83 : decode cX11_rust 83 = .ok (.iload 4, 2) := by decide +kernel
theorem dX11_rust_85 : decode cX11_rust 85 = .ok (.iload_n 3, 1) := by decide +kernel
theorem dX11_rust_86 : decode cX11_rust 86 = .ok (.isub, 1) := by decide +kernel
theorem dX11_rust_87 : decode cX11_rust 87 = .ok (.ireturn, 1) := by decide +kernel
theorem dX11_buyTrainOn_0 : decode cX11_buyTrainOn 0 = .ok (.aload_n 0, 1) := by decide +kernel
theorem dX11_buyTrainOn_1 : decode cX11_buyTrainOn 1 = .ok (.iload_n 1, 1) := by decide +kernel
theorem dX11_buyTrainOn_2 : decode cX11_buyTrainOn 2 = .ok (.bipush 20, 2) := by decide +kernel
theorem dX11_buyTrainOn_4 : decode cX11_buyTrainOn 4 = .ok (.iload_n 2, 1) := by decide +kernel
theorem dX11_buyTrainOn_5 : decode cX11_buyTrainOn 5 = .ok (.imul, 1) := by decide +kernel
theorem dX11_buyTrainOn_6 : decode cX11_buyTrainOn 6 = .ok (.invokestatic 102, 3) := by decide +kernel
theorem dX11_buyTrainOn_9 : decode cX11_buyTrainOn 9 = .ok (.iload_n 1, 1) := by decide +kernel
theorem dX11_buyTrainOn_10 : decode cX11_buyTrainOn 10 = .ok (.aload_n 0, 1) := by decide +kernel
theorem dX11_buyTrainOn_11 : decode cX11_buyTrainOn 11 = .ok (.iload_n 1, 1) := by decide +kernel
theorem dX11_buyTrainOn_12 : decode cX11_buyTrainOn 12 = .ok (.invokestatic 66, 3) := by decide +kernel
theorem dX11_buyTrainOn_15 : decode cX11_buyTrainOn 15 = .ok (.invokestatic 94, 3) := by decide +kernel
theorem dX11_buyTrainOn_18 : decode cX11_buyTrainOn 18 = .ok (.istore_n 3, 1) := by decide +kernel
theorem dX11_buyTrainOn_19 : decode cX11_buyTrainOn 19 = .ok (.aload_n 0, 1) := by decide +kernel
theorem dX11_buyTrainOn_20 : decode cX11_buyTrainOn 20 = .ok (.iload_n 3, 1) := by decide +kernel
theorem dX11_buyTrainOn_21 : decode cX11_buyTrainOn 21 = .ok (.iload_n 2, 1) := by decide +kernel
theorem dX11_buyTrainOn_22 : decode cX11_buyTrainOn 22 = .ok (.iastore, 1) := by decide +kernel
theorem dX11_buyTrainOn_23 : decode cX11_buyTrainOn 23 = .ok (.aload_n 0, 1) := by decide +kernel
theorem dX11_buyTrainOn_24 : decode cX11_buyTrainOn 24 = .ok (.iload_n 3, 1) := by decide +kernel
theorem dX11_buyTrainOn_25 : decode cX11_buyTrainOn 25 = .ok (.iconst 1, 1) := by decide +kernel
theorem dX11_buyTrainOn_26 : decode cX11_buyTrainOn 26 = .ok (.iadd, 1) := by decide +kernel
theorem dX11_buyTrainOn_27 : decode cX11_buyTrainOn 27 = .ok (.iconst 0, 1) := by decide +kernel
theorem dX11_buyTrainOn_28 : decode cX11_buyTrainOn 28 = .ok (.iastore, 1) := by decide +kernel
theorem dX11_buyTrainOn_29 : decode cX11_buyTrainOn 29 = .ok (.aload_n 0, 1) := by decide +kernel
theorem dX11_buyTrainOn_30 : decode cX11_buyTrainOn 30 = .ok (.iload_n 1, 1) := by decide +kernel
theorem dX11_buyTrainOn_31 : decode cX11_buyTrainOn 31 = .ok (.invokestatic 50, 3) := by decide +kernel
theorem dX11_buyTrainOn_34 : decode cX11_buyTrainOn 34 = .ok (.iconst 2, 1) := by decide +kernel
theorem dX11_buyTrainOn_35 : decode cX11_buyTrainOn 35 = .ok (.iadd, 1) := by decide +kernel
theorem dX11_buyTrainOn_36 : decode cX11_buyTrainOn 36 = .ok (.dup2, 1) := by decide +kernel
theorem dX11_buyTrainOn_37 : decode cX11_buyTrainOn 37 = .ok (.iaload, 1) := by decide +kernel
theorem dX11_buyTrainOn_38 : decode cX11_buyTrainOn 38 = .ok (.iconst 1, 1) := by decide +kernel
theorem dX11_buyTrainOn_39 : decode cX11_buyTrainOn 39 = .ok (.iadd, 1) := by decide +kernel
theorem dX11_buyTrainOn_40 : decode cX11_buyTrainOn 40 = .ok (.iastore, 1) := by decide +kernel
theorem dX11_buyTrainOn_41 : decode cX11_buyTrainOn 41 = .ok (.iload_n 2, 1) := by decide +kernel
theorem dX11_buyTrainOn_42 : decode cX11_buyTrainOn 42 = .ok (.aload_n 0, 1) := by decide +kernel
theorem dX11_buyTrainOn_43 : decode cX11_buyTrainOn 43 = .ok (.iconst 3, 1) := by decide +kernel
theorem dX11_buyTrainOn_44 : decode cX11_buyTrainOn 44 = .ok (.iaload, 1) := by decide +kernel
theorem dX11_buyTrainOn_45 : decode cX11_buyTrainOn 45 = .ok (.if_icmp .gt 5, 3) := by decide +kernel
theorem dX11_buyTrainOn_48 : decode cX11_buyTrainOn 48 = .ok (.iconst 0, 1) := by decide +kernel
theorem dX11_buyTrainOn_49 : decode cX11_buyTrainOn 49 = .ok (.ireturn, 1) := by decide +kernel
theorem dX11_buyTrainOn_50 : decode cX11_buyTrainOn 50 = .ok (.aload_n 0, 1) := by decide +kernel
theorem dX11_buyTrainOn_51 : decode cX11_buyTrainOn 51 = .ok (.iconst 3, 1) := by decide +kernel
theorem dX11_buyTrainOn_52 : decode cX11_buyTrainOn 52 = .ok (.dup2, 1) := by decide +kernel
theorem dX11_buyTrainOn_53 : decode cX11_buyTrainOn 53 = .ok (.iaload, 1) := by decide +kernel
theorem dX11_buyTrainOn_54 : decode cX11_buyTrainOn 54 = .ok (.iconst 1, 1) := by decide +kernel
theorem dX11_buyTrainOn_55 : decode cX11_buyTrainOn 55 = .ok (.iadd, 1) := by decide +kernel
theorem dX11_buyTrainOn_56 : decode cX11_buyTrainOn 56 = .ok (.iastore, 1) := by decide +kernel
theorem dX11_buyTrainOn_57 : decode cX11_buyTrainOn 57 = .ok (.iconst 0, 1) := by decide +kernel
theorem dX11_buyTrainOn_58 : decode cX11_buyTrainOn 58 = .ok (.istore 4, 2) := by decide +kernel
theorem dX11_buyTrainOn_60 : decode cX11_buyTrainOn 60 = .ok (.iconst 0, 1) := by decide +kernel
theorem dX11_buyTrainOn_61 : decode cX11_buyTrainOn 61 = .ok (.istore 5, 2) := by decide +kernel
theorem dX11_buyTrainOn_63 : decode cX11_buyTrainOn 63 = .ok (.iload 5, 2) := by decide +kernel
theorem dX11_buyTrainOn_65 : decode cX11_buyTrainOn 65 = .ok (.iconst 4, 1) := by decide +kernel
theorem dX11_buyTrainOn_66 : decode cX11_buyTrainOn 66 = .ok (.if_icmp .ge 25, 3) := by decide +kernel
theorem dX11_buyTrainOn_69 : decode cX11_buyTrainOn 69 = .ok (.iload 4, 2) := by decide +kernel
theorem dX11_buyTrainOn_71 : decode cX11_buyTrainOn 71 = .ok (.aload_n 0, 1) := by decide +kernel
theorem dX11_buyTrainOn_72 : decode cX11_buyTrainOn 72 = .ok (.iload 5, 2) := by decide +kernel
theorem dX11_buyTrainOn_74 : decode cX11_buyTrainOn 74 = .ok (.aload_n 0, 1) := by decide +kernel
theorem dX11_buyTrainOn_75 : decode cX11_buyTrainOn 75 = .ok (.iconst 3, 1) := by decide +kernel
theorem dX11_buyTrainOn_76 : decode cX11_buyTrainOn 76 = .ok (.iaload, 1) := by decide +kernel
theorem dX11_buyTrainOn_77 : decode cX11_buyTrainOn 77 = .ok (.iconst 1, 1) := by decide +kernel
theorem dX11_buyTrainOn_78 : decode cX11_buyTrainOn 78 = .ok (.isub, 1) := by decide +kernel
theorem dX11_buyTrainOn_79 : decode cX11_buyTrainOn 79 = .ok (.invokestatic 123, 3) := by decide +kernel
theorem dX11_buyTrainOn_82 : decode cX11_buyTrainOn 82 = .ok (.iadd, 1) := by decide +kernel
theorem dX11_buyTrainOn_83 : decode cX11_buyTrainOn 83 = .ok (.istore 4, 2) := by decide +kernel
theorem dX11_buyTrainOn_85 : decode cX11_buyTrainOn 85 = .ok (.iinc 5 1, 3) := by decide +kernel
theorem dX11_buyTrainOn_88 : decode cX11_buyTrainOn 88 = .ok (.goto (-25), 3) := by decide +kernel
theorem dX11_buyTrainOn_91 : decode cX11_buyTrainOn 91 = .ok (.aload_n 0, 1) := by decide +kernel
theorem dX11_buyTrainOn_92 : decode cX11_buyTrainOn 92 = .ok (.bipush 10, 2) := by decide +kernel
theorem dX11_buyTrainOn_94 : decode cX11_buyTrainOn 94 = .ok (.dup2, 1) := by decide +kernel
theorem dX11_buyTrainOn_95 : decode cX11_buyTrainOn 95 = .ok (.iaload, 1) := by decide +kernel
theorem dX11_buyTrainOn_96 : decode cX11_buyTrainOn 96 = .ok (.iload 4, 2) := by decide +kernel
theorem dX11_buyTrainOn_98 : decode cX11_buyTrainOn 98 = .ok (.iadd, 1) := by decide +kernel
theorem dX11_buyTrainOn_99 : decode cX11_buyTrainOn 99 = .ok (.iastore, 1) := by decide +kernel
theorem dX11_buyTrainOn_100 : decode cX11_buyTrainOn 100 = .ok (.iload 4, 2) := by decide +kernel
theorem dX11_buyTrainOn_102 : decode cX11_buyTrainOn 102 = .ok (.ireturn, 1) := by decide +kernel
theorem dX11_canTake_0 : decode cX11_canTake 0 = .ok (.aload_n 0, 1) := by decide +kernel
theorem dX11_canTake_1 : decode cX11_canTake 1 = .ok (.iload_n 1, 1) := by decide +kernel
theorem dX11_canTake_2 : decode cX11_canTake 2 = .ok (.invokestatic 57, 3) := by decide +kernel
theorem dX11_canTake_5 : decode cX11_canTake 5 = .ok (.iconst 4, 1) := by decide +kernel
theorem dX11_canTake_6 : decode cX11_canTake 6 = .ok (.iadd, 1) := by decide +kernel
theorem dX11_canTake_7 : decode cX11_canTake 7 = .ok (.iaload, 1) := by decide +kernel
theorem dX11_canTake_8 : decode cX11_canTake 8 = .ok (.bipush (-9), 2) := by decide +kernel
theorem dX11_canTake_10 : decode cX11_canTake 10 = .ok (.if_icmp .ne 7, 3) := by decide +kernel
theorem dX11_canTake_13 : decode cX11_canTake 13 = .ok (.iconst 1, 1) := by decide +kernel
theorem dX11_canTake_14 : decode cX11_canTake 14 = .ok (.goto 4, 3) := by decide +kernel
theorem dX11_canTake_17 : decode cX11_canTake 17 = .ok (.iconst 0, 1) := by decide +kernel
theorem dX11_canTake_18 : decode cX11_canTake 18 = .ok (.ireturn, 1) := by decide +kernel
theorem dX11_takeOn_0 : decode cX11_takeOn 0 = .ok (.aload_n 0, 1) := by decide +kernel
theorem dX11_takeOn_1 : decode cX11_takeOn 1 = .ok (.iload_n 2, 1) := by decide +kernel
theorem dX11_takeOn_2 : decode cX11_takeOn 2 = .ok (.invokestatic 57, 3) := by decide +kernel
theorem dX11_takeOn_5 : decode cX11_takeOn 5 = .ok (.iconst 4, 1) := by decide +kernel
theorem dX11_takeOn_6 : decode cX11_takeOn 6 = .ok (.iadd, 1) := by decide +kernel
theorem dX11_takeOn_7 : decode cX11_takeOn 7 = .ok (.iload_n 1, 1) := by decide +kernel
theorem dX11_takeOn_8 : decode cX11_takeOn 8 = .ok (.iastore, 1) := by decide +kernel
theorem dX11_takeOn_9 : decode cX11_takeOn 9 = .ok (.aload_n 0, 1) := by decide +kernel
theorem dX11_takeOn_10 : decode cX11_takeOn 10 = .ok (.iload_n 1, 1) := by decide +kernel
theorem dX11_takeOn_11 : decode cX11_takeOn 11 = .ok (.invokestatic 126, 3) := by decide +kernel
theorem dX11_takeOn_14 : decode cX11_takeOn 14 = .ok (.ireturn, 1) := by decide +kernel
theorem dX11_worthOf_0 : decode cX11_worthOf 0 = .ok (.aload_n 0, 1) := by decide +kernel
theorem dX11_worthOf_1 : decode cX11_worthOf 1 = .ok (.iload_n 1, 1) := by decide +kernel
theorem dX11_worthOf_2 : decode cX11_worthOf 2 = .ok (.invokestatic 50, 3) := by decide +kernel
theorem dX11_worthOf_5 : decode cX11_worthOf 5 = .ok (.iaload, 1) := by decide +kernel
theorem dX11_worthOf_6 : decode cX11_worthOf 6 = .ok (.iconst 3, 1) := by decide +kernel
theorem dX11_worthOf_7 : decode cX11_worthOf 7 = .ok (.aload_n 0, 1) := by decide +kernel
theorem dX11_worthOf_8 : decode cX11_worthOf 8 = .ok (.iload_n 1, 1) := by decide +kernel
theorem dX11_worthOf_9 : decode cX11_worthOf 9 = .ok (.iconst 1, 1) := by decide +kernel
theorem dX11_worthOf_10 : decode cX11_worthOf 10 = .ok (.invokestatic 113, 3) := by decide +kernel
theorem dX11_worthOf_13 : decode cX11_worthOf 13 = .ok (.imul, 1) := by decide +kernel
theorem dX11_worthOf_14 : decode cX11_worthOf 14 = .ok (.iadd, 1) := by decide +kernel
theorem dX11_worthOf_15 : decode cX11_worthOf 15 = .ok (.bipush 10, 2) := by decide +kernel
theorem dX11_worthOf_17 : decode cX11_worthOf 17 = .ok (.aload_n 0, 1) := by decide +kernel
theorem dX11_worthOf_18 : decode cX11_worthOf 18 = .ok (.iload_n 1, 1) := by decide +kernel
theorem dX11_worthOf_19 : decode cX11_worthOf 19 = .ok (.invokestatic 117, 3) := by decide +kernel
theorem dX11_worthOf_22 : decode cX11_worthOf 22 = .ok (.imul, 1) := by decide +kernel
theorem dX11_worthOf_23 : decode cX11_worthOf 23 = .ok (.iadd, 1) := by decide +kernel
theorem dX11_worthOf_24 : decode cX11_worthOf 24 = .ok (.ireturn, 1) := by decide +kernel
theorem dX11_append_0 : decode cX11_append 0 = .ok (.aload_n 0, 1) := by decide +kernel
theorem dX11_append_1 : decode cX11_append 1 = .ok (.iload_n 1, 1) := by decide +kernel
theorem dX11_append_2 : decode cX11_append 2 = .ok (.i2l, 1) := by decide +kernel
theorem dX11_append_3 : decode cX11_append 3 = .ok (.lconst 0, 1) := by decide +kernel
theorem dX11_append_4 : decode cX11_append 4 = .ok (.ldc2_w 129, 3) := by decide +kernel
theorem dX11_append_7 : decode cX11_append 7 = .ok (.invokestatic 62, 3) := by decide +kernel
theorem dX11_append_10 : decode cX11_append 10 = .ok (.ifCond .ne 7, 3) := by decide +kernel
theorem dX11_append_13 : decode cX11_append 13 = .ok (.iconst 1, 1) := by decide +kernel
theorem dX11_append_14 : decode cX11_append 14 = .ok (.goto 17, 3) := by decide +kernel
theorem dX11_append_17 : decode cX11_append 17 = .ok (.aload_n 0, 1) := by decide +kernel
theorem dX11_append_18 : decode cX11_append 18 = .ok (.getfield 131, 3) := by decide +kernel
theorem dX11_append_21 : decode cX11_append 21 = .ok (.bipush 100, 2) := by decide +kernel
theorem dX11_append_23 : decode cX11_append 23 = .ok (.if_icmp .ne 7, 3) := by decide +kernel
theorem dX11_append_26 : decode cX11_append 26 = .ok (.iconst 2, 1) := by decide +kernel
theorem dX11_append_27 : decode cX11_append 27 = .ok (.goto 4, 3) := by decide +kernel
theorem dX11_append_30 : decode cX11_append 30 = .ok (.iconst 0, 1) := by decide +kernel
theorem dX11_append_31 : decode cX11_append 31 = .ok (.invokevirtual 134, 3) := by decide +kernel
theorem dX11_append_34 : decode cX11_append 34 = .ok (.ifCond .eq 5, 3) := by decide +kernel
theorem dX11_append_37 : decode cX11_append 37 = .ok (.iconst 0, 1) := by decide +kernel
theorem dX11_append_38 : decode cX11_append 38 = .ok (.ireturn, 1) := by decide +kernel
theorem dX11_append_39 : decode cX11_append 39 = .ok (.aload_n 0, 1) := by decide +kernel
theorem dX11_append_40 : decode cX11_append 40 = .ok (.getfield 7, 3) := by decide +kernel
theorem dX11_append_43 : decode cX11_append 43 = .ok (.aload_n 0, 1) := by decide +kernel
theorem dX11_append_44 : decode cX11_append 44 = .ok (.getfield 131, 3) := by decide +kernel
theorem dX11_append_47 : decode cX11_append 47 = .ok (.iload_n 1, 1) := by decide +kernel
theorem dX11_append_48 : decode cX11_append 48 = .ok (.iastore, 1) := by decide +kernel
theorem dX11_append_49 : decode cX11_append 49 = .ok (.aload_n 0, 1) := by decide +kernel
theorem dX11_append_50 : decode cX11_append 50 = .ok (.dup, 1) := by decide +kernel
theorem dX11_append_51 : decode cX11_append 51 = .ok (.getfield 131, 3) := by decide +kernel
theorem dX11_append_54 : decode cX11_append 54 = .ok (.iconst 1, 1) := by decide +kernel
theorem dX11_append_55 : decode cX11_append 55 = .ok (.iadd, 1) := by decide +kernel
theorem dX11_append_56 : decode cX11_append 56 = .ok (.putfield 131, 3) := by decide +kernel
theorem dX11_append_59 : decode cX11_append 59 = .ok (.aload_n 0, 1) := by decide +kernel
theorem dX11_append_60 : decode cX11_append 60 = .ok (.getfield 131, 3) := by decide +kernel
theorem dX11_append_63 : decode cX11_append 63 = .ok (.ireturn, 1) := by decide +kernel
theorem dX11_clearText_0 : decode cX11_clearText 0 = .ok (.aload_n 0, 1) := by decide +kernel
theorem dX11_clearText_1 : decode cX11_clearText 1 = .ok (.iconst 0, 1) := by decide +kernel
theorem dX11_clearText_2 : decode cX11_clearText 2 = .ok (.putfield 46, 3) := by decide +kernel
theorem dX11_clearText_5 : decode cX11_clearText 5 = .ok (.aload_n 0, 1) := by decide +kernel
theorem dX11_clearText_6 : decode cX11_clearText 6 = .ok (.getfield 131, 3) := by decide +kernel
theorem dX11_clearText_9 : decode cX11_clearText 9 = .ok (.istore_n 1, 1) := by decide +kernel
theorem dX11_clearText_10 : decode cX11_clearText 10 = .ok (.aload_n 0, 1) := by decide +kernel
theorem dX11_clearText_11 : decode cX11_clearText 11 = .ok (.iconst 0, 1) := by decide +kernel
theorem dX11_clearText_12 : decode cX11_clearText 12 = .ok (.putfield 131, 3) := by decide +kernel
theorem dX11_clearText_15 : decode cX11_clearText 15 = .ok (.iload_n 1, 1) := by decide +kernel
theorem dX11_clearText_16 : decode cX11_clearText 16 = .ok (.ireturn, 1) := by decide +kernel
theorem dX11_eat_0 : decode cX11_eat 0 = .ok (.aload_n 0, 1) := by decide +kernel
theorem dX11_eat_1 : decode cX11_eat 1 = .ok (.getfield 138, 3) := by decide +kernel
theorem dX11_eat_4 : decode cX11_eat 4 = .ok (.aload_n 0, 1) := by decide +kernel
theorem dX11_eat_5 : decode cX11_eat 5 = .ok (.getfield 131, 3) := by decide +kernel
theorem dX11_eat_8 : decode cX11_eat 8 = .ok (.if_icmp .ge 20, 3) := by decide +kernel
theorem dX11_eat_11 : decode cX11_eat 11 = .ok (.aload_n 0, 1) := by decide +kernel
theorem dX11_eat_12 : decode cX11_eat 12 = .ok (.getfield 7, 3) := by decide +kernel
theorem dX11_eat_15 : decode cX11_eat 15 = .ok (.aload_n 0, 1) := by decide +kernel
theorem dX11_eat_16 : decode cX11_eat 16 = .ok (.getfield 138, 3) := by decide +kernel
theorem dX11_eat_19 : decode cX11_eat 19 = .ok (.iaload, 1) := by decide +kernel
theorem dX11_eat_20 : decode cX11_eat 20 = .ok (.iload_n 1, 1) := by decide +kernel
theorem dX11_eat_21 : decode cX11_eat 21 = .ok (.if_icmp .ne 7, 3) := by decide +kernel
theorem dX11_eat_24 : decode cX11_eat 24 = .ok (.iconst 1, 1) := by decide +kernel
theorem dX11_eat_25 : decode cX11_eat 25 = .ok (.goto 4, 3) := by decide +kernel
theorem dX11_eat_28 : decode cX11_eat 28 = .ok (.iconst 0, 1) := by decide +kernel
theorem dX11_eat_29 : decode cX11_eat 29 = .ok (.istore_n 2, 1) := by decide +kernel
theorem dX11_eat_30 : decode cX11_eat 30 = .ok (.aload_n 0, 1) := by decide +kernel
theorem dX11_eat_31 : decode cX11_eat 31 = .ok (.dup, 1) := by decide +kernel
theorem dX11_eat_32 : decode cX11_eat 32 = .ok (.getfield 138, 3) := by decide +kernel
theorem dX11_eat_35 : decode cX11_eat 35 = .ok (.iload_n 2, 1) := by decide +kernel
theorem dX11_eat_36 : decode cX11_eat 36 = .ok (.ifCond .eq 7, 3) := by decide +kernel
theorem dX11_eat_39 : decode cX11_eat 39 = .ok (.iconst 1, 1) := by decide +kernel
theorem dX11_eat_40 : decode cX11_eat 40 = .ok (.goto 4, 3) := by decide +kernel
theorem dX11_eat_43 : decode cX11_eat 43 = .ok (.iconst 0, 1) := by decide +kernel
theorem dX11_eat_44 : decode cX11_eat 44 = .ok (.iadd, 1) := by decide +kernel
theorem dX11_eat_45 : decode cX11_eat 45 = .ok (.putfield 138, 3) := by decide +kernel
theorem dX11_eat_48 : decode cX11_eat 48 = .ok (.iload_n 2, 1) := by decide +kernel
theorem dX11_eat_49 : decode cX11_eat 49 = .ok (.ireturn, 1) := by decide +kernel
theorem dX11_digit_0 : decode cX11_digit 0 = .ok (.aload_n 0, 1) := by decide +kernel
theorem dX11_digit_1 : decode cX11_digit 1 = .ok (.getfield 138, 3) := by decide +kernel
theorem dX11_digit_4 : decode cX11_digit 4 = .ok (.aload_n 0, 1) := by decide +kernel
theorem dX11_digit_5 : decode cX11_digit 5 = .ok (.getfield 131, 3) := by decide +kernel
theorem dX11_digit_8 : decode cX11_digit 8 = .ok (.if_icmp .ge 18, 3) := by decide +kernel
theorem dX11_digit_11 : decode cX11_digit 11 = .ok (.aload_n 0, 1) := by decide +kernel
theorem dX11_digit_12 : decode cX11_digit 12 = .ok (.getfield 7, 3) := by decide +kernel
theorem dX11_digit_15 : decode cX11_digit 15 = .ok (.aload_n 0, 1) := by decide +kernel
theorem dX11_digit_16 : decode cX11_digit 16 = .ok (.getfield 138, 3) := by decide +kernel
theorem dX11_digit_19 : decode cX11_digit 19 = .ok (.iaload, 1) := by decide +kernel
theorem dX11_digit_20 : decode cX11_digit 20 = .ok (.bipush 48, 2) := by decide +kernel
theorem dX11_digit_22 : decode cX11_digit 22 = .ok (.isub, 1) := by decide +kernel
theorem dX11_digit_23 : decode cX11_digit 23 = .ok (.goto 4, 3) := by decide +kernel
theorem dX11_digit_26 : decode cX11_digit 26 = .ok (.iconst (-1), 1) := by decide +kernel
theorem dX11_digit_27 : decode cX11_digit 27 = .ok (.istore 4, 2) := by decide +kernel
theorem dX11_digit_29 : decode cX11_digit 29 = .ok (.iload 4, 2) := by decide +kernel
theorem dX11_digit_31 : decode cX11_digit 31 = .ok (.i2l, 1) := by decide +kernel
theorem dX11_digit_32 : decode cX11_digit 32 = .ok (.iload_n 1, 1) := by decide +kernel
theorem dX11_digit_33 : decode cX11_digit 33 = .ok (.i2l, 1) := by decide +kernel
theorem dX11_digit_34 : decode cX11_digit 34 = .ok (.iload_n 2, 1) := by decide +kernel
theorem dX11_digit_35 : decode cX11_digit 35 = .ok (.i2l, 1) := by decide +kernel
theorem dX11_digit_36 : decode cX11_digit 36 = .ok (.invokestatic 62, 3) := by decide +kernel
theorem dX11_digit_39 : decode cX11_digit 39 = .ok (.ifCond .eq 13, 3) := by decide +kernel
theorem dX11_digit_42 : decode cX11_digit 42 = .ok (.iload 4, 2) := by decide +kernel
theorem dX11_digit_44 : decode cX11_digit 44 = .ok (.iload_n 3, 1) := by decide +kernel
theorem dX11_digit_45 : decode cX11_digit 45 = .ok (.if_icmp .eq 7, 3) := by decide +kernel
theorem dX11_digit_48 : decode cX11_digit 48 = .ok (.iconst 1, 1) := by decide +kernel
theorem dX11_digit_49 : decode cX11_digit 49 = .ok (.goto 4, 3) := by decide +kernel
theorem dX11_digit_52 : decode cX11_digit 52 = .ok (.iconst 0, 1) := by decide +kernel
theorem dX11_digit_53 : decode cX11_digit 53 = .ok (.istore 5, 2) := by decide +kernel
theorem dX11_digit_55 : decode cX11_digit 55 = .ok (.aload_n 0, 1) := by decide +kernel
theorem dX11_digit_56 : decode cX11_digit 56 = .ok (.dup, 1) := by decide +kernel
theorem dX11_digit_57 : decode cX11_digit 57 = .ok (.getfield 138, 3) := by decide +kernel
theorem dX11_digit_60 : decode cX11_digit 60 = .ok (.iload 5, 2) := by decide +kernel
theorem dX11_digit_62 : decode cX11_digit 62 = .ok (.ifCond .eq 7, 3) := by decide +kernel
theorem dX11_digit_65 : decode cX11_digit 65 = .ok (.iconst 1, 1) := by decide +kernel
theorem dX11_digit_66 : decode cX11_digit 66 = .ok (.goto 4, 3) := by decide +kernel
theorem dX11_digit_69 : decode cX11_digit 69 = .ok (.iconst 0, 1) := by decide +kernel
theorem dX11_digit_70 : decode cX11_digit 70 = .ok (.iadd, 1) := by decide +kernel
theorem dX11_digit_71 : decode cX11_digit 71 = .ok (.putfield 138, 3) := by decide +kernel
theorem dX11_digit_74 : decode cX11_digit 74 = .ok (.iload 5, 2) := by decide +kernel
theorem dX11_digit_76 : decode cX11_digit 76 = .ok (.ifCond .eq 8, 3) := by decide +kernel
theorem dX11_digit_79 : decode cX11_digit 79 = .ok (.iload 4, 2) := by decide +kernel
theorem dX11_digit_81 : decode cX11_digit 81 = .ok (.goto 5, 3) := by decide +kernel
theorem dX11_digit_84 : decode cX11_digit 84 = .ok (.bipush (-9), 2) := by decide +kernel
theorem dX11_digit_86 : decode cX11_digit 86 = .ok (.ireturn, 1) := by decide +kernel
theorem dX11_readTrack_0 : decode cX11_readTrack 0 = .ok (.aload_n 0, 1) := by decide +kernel
theorem dX11_readTrack_1 : decode cX11_readTrack 1 = .ok (.iconst 0, 1) := by decide +kernel
theorem dX11_readTrack_2 : decode cX11_readTrack 2 = .ok (.aload_n 0, 1) := by decide +kernel
theorem dX11_readTrack_3 : decode cX11_readTrack 3 = .ok (.getfield 13, 3) := by decide +kernel
theorem dX11_readTrack_6 : decode cX11_readTrack 6 = .ok (.iconst 0, 1) := by decide +kernel
theorem dX11_readTrack_7 : decode cX11_readTrack 7 = .ok (.iaload, 1) := by decide +kernel
theorem dX11_readTrack_8 : decode cX11_readTrack 8 = .ok (.iconst 1, 1) := by decide +kernel
theorem dX11_readTrack_9 : decode cX11_readTrack 9 = .ok (.isub, 1) := by decide +kernel
theorem dX11_readTrack_10 : decode cX11_readTrack 10 = .ok (.bipush (-9), 2) := by decide +kernel
theorem dX11_readTrack_12 : decode cX11_readTrack 12 = .ok (.invokevirtual 141, 3) := by decide +kernel
theorem dX11_readTrack_15 : decode cX11_readTrack 15 = .ok (.istore_n 1, 1) := by decide +kernel
theorem dX11_readTrack_16 : decode cX11_readTrack 16 = .ok (.iload_n 1, 1) := by decide +kernel
theorem dX11_readTrack_17 : decode cX11_readTrack 17 = .ok (.bipush (-9), 2) := by decide +kernel
theorem dX11_readTrack_19 : decode cX11_readTrack 19 = .ok (.if_icmp .ne 8, 3) := by decide +kernel
theorem dX11_readTrack_22 : decode cX11_readTrack 22 = .ok (.bipush (-9), 2) := by decide +kernel
theorem dX11_readTrack_24 : decode cX11_readTrack 24 = .ok (.goto 17, 3) := by decide +kernel
theorem dX11_readTrack_27 : decode cX11_readTrack 27 = .ok (.aload_n 0, 1) := by decide +kernel
theorem dX11_readTrack_28 : decode cX11_readTrack 28 = .ok (.iconst 0, 1) := by decide +kernel
theorem dX11_readTrack_29 : decode cX11_readTrack 29 = .ok (.aload_n 0, 1) := by decide +kernel
theorem dX11_readTrack_30 : decode cX11_readTrack 30 = .ok (.getfield 13, 3) := by decide +kernel
theorem dX11_readTrack_33 : decode cX11_readTrack 33 = .ok (.iconst 0, 1) := by decide +kernel
theorem dX11_readTrack_34 : decode cX11_readTrack 34 = .ok (.iaload, 1) := by decide +kernel
theorem dX11_readTrack_35 : decode cX11_readTrack 35 = .ok (.iconst 1, 1) := by decide +kernel
theorem dX11_readTrack_36 : decode cX11_readTrack 36 = .ok (.isub, 1) := by decide +kernel
theorem dX11_readTrack_37 : decode cX11_readTrack 37 = .ok (.iload_n 1, 1) := by decide +kernel
theorem dX11_readTrack_38 : decode cX11_readTrack 38 = .ok (.invokevirtual 141, 3) := by decide +kernel
theorem dX11_readTrack_41 : decode cX11_readTrack 41 = .ok (.istore_n 2, 1) := by decide +kernel
theorem dX11_readTrack_42 : decode cX11_readTrack 42 = .ok (.iload_n 2, 1) := by decide +kernel
theorem dX11_readTrack_43 : decode cX11_readTrack 43 = .ok (.bipush (-9), 2) := by decide +kernel
theorem dX11_readTrack_45 : decode cX11_readTrack 45 = .ok (.if_icmp .ne 8, 3) := by decide +kernel
theorem dX11_readTrack_48 : decode cX11_readTrack 48 = .ok (.bipush (-9), 2) := by decide +kernel
theorem dX11_readTrack_50 : decode cX11_readTrack 50 = .ok (.goto 12, 3) := by decide +kernel
theorem dX11_readTrack_53 : decode cX11_readTrack 53 = .ok (.aload_n 0, 1) := by decide +kernel
theorem dX11_readTrack_54 : decode cX11_readTrack 54 = .ok (.iconst 1, 1) := by decide +kernel
theorem dX11_readTrack_55 : decode cX11_readTrack 55 = .ok (.bipush 9, 2) := by decide +kernel
theorem dX11_readTrack_57 : decode cX11_readTrack 57 = .ok (.bipush (-9), 2) := by decide +kernel
theorem dX11_readTrack_59 : decode cX11_readTrack 59 = .ok (.invokevirtual 141, 3) := by decide +kernel
theorem dX11_readTrack_62 : decode cX11_readTrack 62 = .ok (.istore_n 3, 1) := by decide +kernel
theorem dX11_readTrack_63 : decode cX11_readTrack 63 = .ok (.iload_n 3, 1) := by decide +kernel
theorem dX11_readTrack_64 : decode cX11_readTrack 64 = .ok (.bipush (-9), 2) := by decide +kernel
theorem dX11_readTrack_66 : decode cX11_readTrack 66 = .ok (.if_icmp .ne 5, 3) := by decide +kernel
theorem dX11_readTrack_69 : decode cX11_readTrack 69 = .ok (.iconst 0, 1) := by decide +kernel
theorem dX11_readTrack_70 : decode cX11_readTrack 70 = .ok (.ireturn, 1) := by decide +kernel
theorem dX11_readTrack_71 : decode cX11_readTrack 71 = .ok (.aload_n 0, 1) := by decide +kernel
theorem dX11_readTrack_72 : decode cX11_readTrack 72 = .ok (.getfield 13, 3) := by decide +kernel
theorem dX11_readTrack_75 : decode cX11_readTrack 75 = .ok (.iload_n 1, 1) := by decide +kernel
theorem dX11_readTrack_76 : decode cX11_readTrack 76 = .ok (.iload_n 2, 1) := by decide +kernel
theorem dX11_readTrack_77 : decode cX11_readTrack 77 = .ok (.iload_n 3, 1) := by decide +kernel
theorem dX11_readTrack_78 : decode cX11_readTrack 78 = .ok (.invokestatic 42, 3) := by decide +kernel
theorem dX11_readTrack_81 : decode cX11_readTrack 81 = .ok (.iconst 1, 1) := by decide +kernel
theorem dX11_readTrack_82 : decode cX11_readTrack 82 = .ok (.ireturn, 1) := by decide +kernel
theorem dX11_readContract_0 : decode cX11_readContract 0 = .ok (.aload_n 0, 1) := by decide +kernel
theorem dX11_readContract_1 : decode cX11_readContract 1 = .ok (.iconst 0, 1) := by decide +kernel
theorem dX11_readContract_2 : decode cX11_readContract 2 = .ok (.aload_n 0, 1) := by decide +kernel
theorem dX11_readContract_3 : decode cX11_readContract 3 = .ok (.getfield 13, 3) := by decide +kernel
theorem dX11_readContract_6 : decode cX11_readContract 6 = .ok (.iconst 0, 1) := by decide +kernel
theorem dX11_readContract_7 : decode cX11_readContract 7 = .ok (.iaload, 1) := by decide +kernel
theorem dX11_readContract_8 : decode cX11_readContract 8 = .ok (.iconst 1, 1) := by decide +kernel
theorem dX11_readContract_9 : decode cX11_readContract 9 = .ok (.isub, 1) := by decide +kernel
theorem dX11_readContract_10 : decode cX11_readContract 10 = .ok (.bipush (-9), 2) := by decide +kernel
theorem dX11_readContract_12 : decode cX11_readContract 12 = .ok (.invokevirtual 141, 3) := by decide +kernel
theorem dX11_readContract_15 : decode cX11_readContract 15 = .ok (.istore_n 1, 1) := by decide +kernel
theorem dX11_readContract_16 : decode cX11_readContract 16 = .ok (.iload_n 1, 1) := by decide +kernel
theorem dX11_readContract_17 : decode cX11_readContract 17 = .ok (.bipush (-9), 2) := by decide +kernel
theorem dX11_readContract_19 : decode cX11_readContract 19 = .ok (.if_icmp .ne 8, 3) := by decide +kernel
theorem dX11_readContract_22 : decode cX11_readContract 22 = .ok (.bipush (-9), 2) := by decide +kernel
theorem dX11_readContract_24 : decode cX11_readContract 24 = .ok (.goto 17, 3) := by decide +kernel
theorem dX11_readContract_27 : decode cX11_readContract 27 = .ok (.aload_n 0, 1) := by decide +kernel
theorem dX11_readContract_28 : decode cX11_readContract 28 = .ok (.iconst 0, 1) := by decide +kernel
theorem dX11_readContract_29 : decode cX11_readContract 29 = .ok (.aload_n 0, 1) := by decide +kernel
theorem dX11_readContract_30 : decode cX11_readContract 30 = .ok (.getfield 13, 3) := by decide +kernel
theorem dX11_readContract_33 : decode cX11_readContract 33 = .ok (.iconst 0, 1) := by decide +kernel
theorem dX11_readContract_34 : decode cX11_readContract 34 = .ok (.iaload, 1) := by decide +kernel
theorem dX11_readContract_35 : decode cX11_readContract 35 = .ok (.iconst 1, 1) := by decide +kernel
theorem dX11_readContract_36 : decode cX11_readContract 36 = .ok (.isub, 1) := by decide +kernel
theorem dX11_readContract_37 : decode cX11_readContract 37 = .ok (.iload_n 1, 1) := by decide +kernel
theorem dX11_readContract_38 : decode cX11_readContract 38 = .ok (.invokevirtual 141, 3) := by decide +kernel
theorem dX11_readContract_41 : decode cX11_readContract 41 = .ok (.istore_n 2, 1) := by decide +kernel
theorem dX11_readContract_42 : decode cX11_readContract 42 = .ok (.iload_n 2, 1) := by decide +kernel
theorem dX11_readContract_43 : decode cX11_readContract 43 = .ok (.bipush (-9), 2) := by decide +kernel
theorem dX11_readContract_45 : decode cX11_readContract 45 = .ok (.if_icmp .ne 8, 3) := by decide +kernel
theorem dX11_readContract_48 : decode cX11_readContract 48 = .ok (.bipush (-9), 2) := by decide +kernel
theorem dX11_readContract_50 : decode cX11_readContract 50 = .ok (.goto 12, 3) := by decide +kernel
theorem dX11_readContract_53 : decode cX11_readContract 53 = .ok (.aload_n 0, 1) := by decide +kernel
theorem dX11_readContract_54 : decode cX11_readContract 54 = .ok (.iconst 0, 1) := by decide +kernel
theorem dX11_readContract_55 : decode cX11_readContract 55 = .ok (.bipush 9, 2) := by decide +kernel
theorem dX11_readContract_57 : decode cX11_readContract 57 = .ok (.bipush (-9), 2) := by decide +kernel
theorem dX11_readContract_59 : decode cX11_readContract 59 = .ok (.invokevirtual 141, 3) := by decide +kernel
theorem dX11_readContract_62 : decode cX11_readContract 62 = .ok (.istore_n 3, 1) := by decide +kernel
theorem dX11_readContract_63 : decode cX11_readContract 63 = .ok (.iload_n 3, 1) := by decide +kernel
theorem dX11_readContract_64 : decode cX11_readContract 64 = .ok (.bipush (-9), 2) := by decide +kernel
theorem dX11_readContract_66 : decode cX11_readContract 66 = .ok (.if_icmp .ne 8, 3) := by decide +kernel
theorem dX11_readContract_69 : decode cX11_readContract 69 = .ok (.bipush (-9), 2) := by decide +kernel
theorem dX11_readContract_71 : decode cX11_readContract 71 = .ok (.goto 20, 3) := by decide +kernel
theorem dX11_readContract_74 : decode cX11_readContract 74 = .ok (.aload_n 0, 1) := by decide +kernel
theorem dX11_readContract_75 : decode cX11_readContract 75 = .ok (.iload_n 3, 1) := by decide +kernel
theorem dX11_readContract_76 : decode cX11_readContract 76 = .ok (.ifCond .ne 7, 3) := by decide +kernel
theorem dX11_readContract_79 : decode cX11_readContract 79 = .ok (.iconst 1, 1) := by decide +kernel
theorem dX11_readContract_80 : decode cX11_readContract 80 = .ok (.goto 4, 3) := by decide +kernel
theorem dX11_readContract_83 : decode cX11_readContract 83 = .ok (.iconst 0, 1) := by decide +kernel
theorem dX11_readContract_84 : decode cX11_readContract 84 = .ok (.bipush 9, 2) := by decide +kernel
theorem dX11_readContract_86 : decode cX11_readContract 86 = .ok (.bipush (-9), 2) := by decide +kernel
theorem dX11_readContract_88 : decode cX11_readContract 88 = .ok (.invokevirtual 141, 3) := by decide +kernel
theorem dX11_readContract_91 : decode cX11_readContract 91 = .ok (.istore 4, 2) := by decide +kernel
theorem dX11_readContract_93 : decode cX11_readContract 93 = .ok (.iload 4, 2) := by decide +kernel
theorem dX11_readContract_95 : decode cX11_readContract 95 = .ok (.bipush (-9), 2) := by decide +kernel
theorem dX11_readContract_97 : decode cX11_readContract 97 = .ok (.if_icmp .ne 8, 3) := by decide +kernel
theorem dX11_readContract_100 : decode cX11_readContract 100 = .ok (.bipush (-9), 2) := by decide +kernel
theorem dX11_readContract_102 : decode cX11_readContract 102 = .ok (.goto 12, 3) := by decide +kernel
theorem dX11_readContract_105 : decode cX11_readContract 105 = .ok (.aload_n 0, 1) := by decide +kernel
theorem dX11_readContract_106 : decode cX11_readContract 106 = .ok (.iconst 1, 1) := by decide +kernel
theorem dX11_readContract_107 : decode cX11_readContract 107 = .ok (.bipush 9, 2) := by decide +kernel
theorem dX11_readContract_109 : decode cX11_readContract 109 = .ok (.bipush (-9), 2) := by decide +kernel
theorem dX11_readContract_111 : decode cX11_readContract 111 = .ok (.invokevirtual 141, 3) := by decide +kernel
theorem dX11_readContract_114 : decode cX11_readContract 114 = .ok (.istore 5, 2) := by decide +kernel
theorem dX11_readContract_116 : decode cX11_readContract 116 = .ok (.iload 5, 2) := by decide +kernel
theorem dX11_readContract_118 : decode cX11_readContract 118 = .ok (.bipush (-9), 2) := by decide +kernel
theorem dX11_readContract_120 : decode cX11_readContract 120 = .ok (.if_icmp .ne 5, 3) := by decide +kernel
theorem dX11_readContract_123 : decode cX11_readContract 123 = .ok (.iconst 0, 1) := by decide +kernel
theorem dX11_readContract_124 : decode cX11_readContract 124 = .ok (.ireturn, 1) := by decide +kernel
theorem dX11_readContract_125 : decode cX11_readContract 125 = .ok (.aload_n 0, 1) := by decide +kernel
theorem dX11_readContract_126 : decode cX11_readContract 126 = .ok (.getfield 13, 3) := by decide +kernel
theorem dX11_readContract_129 : decode cX11_readContract 129 = .ok (.iload_n 1, 1) := by decide +kernel
theorem dX11_readContract_130 : decode cX11_readContract 130 = .ok (.iload_n 2, 1) := by decide +kernel
theorem dX11_readContract_131 : decode cX11_readContract 131 = .ok (.bipush 10, 2) := by decide +kernel
theorem dX11_readContract_133 : decode cX11_readContract 133 = .ok (.iload_n 3, 1) := by decide +kernel
theorem dX11_readContract_134 : decode cX11_readContract 134 = .ok (.imul, 1) := by decide +kernel
theorem dX11_readContract_135 : decode cX11_readContract 135 = .ok (.iload 4, 2) := by decide +kernel
theorem dX11_readContract_137 : decode cX11_readContract 137 = .ok (.iadd, 1) := by decide +kernel
theorem dX11_readContract_138 : decode cX11_readContract 138 = .ok (.iload 5, 2) := by decide +kernel
theorem dX11_readContract_140 : decode cX11_readContract 140 = .ok (.invokestatic 145, 3) := by decide +kernel
theorem dX11_readContract_143 : decode cX11_readContract 143 = .ok (.iconst 1, 1) := by decide +kernel
theorem dX11_readContract_144 : decode cX11_readContract 144 = .ok (.ireturn, 1) := by decide +kernel
theorem dX11_readAll_0 : decode cX11_readAll 0 = .ok (.aload_n 0, 1) := by decide +kernel
theorem dX11_readAll_1 : decode cX11_readAll 1 = .ok (.iconst 0, 1) := by decide +kernel
theorem dX11_readAll_2 : decode cX11_readAll 2 = .ok (.putfield 138, 3) := by decide +kernel
theorem dX11_readAll_5 : decode cX11_readAll 5 = .ok (.aload_n 0, 1) := by decide +kernel
theorem dX11_readAll_6 : decode cX11_readAll 6 = .ok (.getfield 13, 3) := by decide +kernel
theorem dX11_readAll_9 : decode cX11_readAll 9 = .ok (.invokestatic 38, 3) := by decide +kernel
theorem dX11_readAll_12 : decode cX11_readAll 12 = .ok (.aload_n 0, 1) := by decide +kernel
theorem dX11_readAll_13 : decode cX11_readAll 13 = .ok (.bipush 82, 2) := by decide +kernel
theorem dX11_readAll_15 : decode cX11_readAll 15 = .ok (.invokevirtual 149, 3) := by decide +kernel
theorem dX11_readAll_18 : decode cX11_readAll 18 = .ok (.ifCond .ne 5, 3) := by decide +kernel
theorem dX11_readAll_21 : decode cX11_readAll 21 = .ok (.iconst 0, 1) := by decide +kernel
theorem dX11_readAll_22 : decode cX11_readAll 22 = .ok (.ireturn, 1) := by decide +kernel
theorem dX11_readAll_23 : decode cX11_readAll 23 = .ok (.aload_n 0, 1) := by decide +kernel
theorem dX11_readAll_24 : decode cX11_readAll 24 = .ok (.iconst 2, 1) := by decide +kernel
theorem dX11_readAll_25 : decode cX11_readAll 25 = .ok (.bipush 9, 2) := by decide +kernel
theorem dX11_readAll_27 : decode cX11_readAll 27 = .ok (.bipush (-9), 2) := by decide +kernel
theorem dX11_readAll_29 : decode cX11_readAll 29 = .ok (.invokevirtual 141, 3) := by decide +kernel
theorem dX11_readAll_32 : decode cX11_readAll 32 = .ok (.istore_n 1, 1) := by decide +kernel
theorem dX11_readAll_33 : decode cX11_readAll 33 = .ok (.iload_n 1, 1) := by decide +kernel
theorem dX11_readAll_34 : decode cX11_readAll 34 = .ok (.bipush (-9), 2) := by decide +kernel
theorem dX11_readAll_36 : decode cX11_readAll 36 = .ok (.if_icmp .ne 5, 3) := by decide +kernel
theorem dX11_readAll_39 : decode cX11_readAll 39 = .ok (.iconst 0, 1) := by decide +kernel
theorem dX11_readAll_40 : decode cX11_readAll 40 = .ok (.ireturn, 1) := by decide +kernel
theorem dX11_readAll_41 : decode cX11_readAll 41 = .ok (.aload_n 0, 1) := by decide +kernel
theorem dX11_readAll_42 : decode cX11_readAll 42 = .ok (.getfield 13, 3) := by decide +kernel
theorem dX11_readAll_45 : decode cX11_readAll 45 = .ok (.iconst 0, 1) := by decide +kernel
theorem dX11_readAll_46 : decode cX11_readAll 46 = .ok (.iload_n 1, 1) := by decide +kernel
theorem dX11_readAll_47 : decode cX11_readAll 47 = .ok (.iastore, 1) := by decide +kernel
theorem dX11_readAll_48 : decode cX11_readAll 48 = .ok (.aload_n 0, 1) := by decide +kernel
theorem dX11_readAll_49 : decode cX11_readAll 49 = .ok (.getfield 138, 3) := by decide +kernel
theorem dX11_readAll_52 : decode cX11_readAll 52 = .ok (.aload_n 0, 1) := by decide +kernel
theorem dX11_readAll_53 : decode cX11_readAll 53 = .ok (.getfield 131, 3) := by decide +kernel
theorem dX11_readAll_56 : decode cX11_readAll 56 = .ok (.if_icmp .ge 72, 3) := by decide +kernel
theorem dX11_readAll_59 : decode cX11_readAll 59 = .ok (.aload_n 0, 1) := by decide +kernel
theorem dX11_readAll_60 : decode cX11_readAll 60 = .ok (.getfield 13, 3) := by decide +kernel
theorem dX11_readAll_63 : decode cX11_readAll 63 = .ok (.iconst 1, 1) := by decide +kernel
theorem dX11_readAll_64 : decode cX11_readAll 64 = .ok (.iaload, 1) := by decide +kernel
theorem dX11_readAll_65 : decode cX11_readAll 65 = .ok (.bipush 16, 2) := by decide +kernel
theorem dX11_readAll_67 : decode cX11_readAll 67 = .ok (.if_icmp .ge 19, 3) := by decide +kernel
theorem dX11_readAll_70 : decode cX11_readAll 70 = .ok (.aload_n 0, 1) := by decide +kernel
theorem dX11_readAll_71 : decode cX11_readAll 71 = .ok (.bipush 116, 2) := by decide +kernel
theorem dX11_readAll_73 : decode cX11_readAll 73 = .ok (.invokevirtual 149, 3) := by decide +kernel
theorem dX11_readAll_76 : decode cX11_readAll 76 = .ok (.ifCond .eq 10, 3) := by decide +kernel
theorem dX11_readAll_79 : decode cX11_readAll 79 = .ok (.aload_n 0, 1) := by decide +kernel
theorem dX11_readAll_80 : decode cX11_readAll 80 = .ok (.invokevirtual 152, 3) := by decide +kernel
theorem dX11_readAll_83 : decode cX11_readAll 83 = .ok (.goto 35, 3) := by decide +kernel
theorem dX11_readAll_86 : decode cX11_readAll 86 = .ok (.aload_n 0, 1) := by decide +kernel
theorem dX11_readAll_87 : decode cX11_readAll 87 = .ok (.getfield 13, 3) := by decide +kernel
theorem dX11_readAll_90 : decode cX11_readAll 90 = .ok (.iconst 2, 1) := by decide +kernel
theorem dX11_readAll_91 : decode cX11_readAll 91 = .ok (.iaload, 1) := by decide +kernel
theorem dX11_readAll_92 : decode cX11_readAll 92 = .ok (.bipush 8, 2) := by decide +kernel
theorem dX11_readAll_94 : decode cX11_readAll 94 = .ok (.if_icmp .ge 23, 3) := by decide +kernel
theorem dX11_readAll_97 : decode cX11_readAll 97 = .ok (.aload_n 0, 1) := by decide +kernel
theorem dX11_readAll_98 : decode cX11_readAll 98 = .ok (.bipush 99, 2) := by decide +kernel
theorem dX11_readAll_100 : decode cX11_readAll 100 = .ok (.invokevirtual 149, 3) := by decide +kernel
theorem dX11_readAll_103 : decode cX11_readAll 103 = .ok (.ifCond .eq 14, 3) := by decide +kernel
theorem dX11_readAll_106 : decode cX11_readAll 106 = .ok (.aload_n 0, 1) := by decide +kernel
theorem dX11_readAll_107 : decode cX11_readAll 107 = .ok (.invokevirtual 156, 3) := by decide +kernel
theorem dX11_readAll_110 : decode cX11_readAll 110 = .ok (.ifCond .eq 7, 3) := by decide +kernel
theorem dX11_readAll_113 : decode cX11_readAll 113 = .ok (.iconst 1, 1) := by decide +kernel
theorem dX11_readAll_114 : decode cX11_readAll 114 = .ok (.goto 4, 3) := by decide +kernel
theorem dX11_readAll_117 : decode cX11_readAll 117 = .ok (.iconst 0, 1) := by decide +kernel
theorem dX11_readAll_118 : decode cX11_readAll 118 = .ok (.istore_n 2, 1) := by decide +kernel
theorem dX11_readAll_119 : decode cX11_readAll 119 = .ok (.iload_n 2, 1) := by decide +kernel
theorem dX11_readAll_120 : decode cX11_readAll 120 = .ok (.ifCond .ne 5, 3) := by decide +kernel
theorem dX11_readAll_123 : decode cX11_readAll 123 = .ok (.iconst 0, 1) := by decide +kernel
theorem dX11_readAll_124 : decode cX11_readAll 124 = .ok (.ireturn, 1) := by decide +kernel
theorem dX11_readAll_125 : decode cX11_readAll 125 = .ok (.goto (-77), 3) := by decide +kernel
theorem dX11_readAll_128 : decode cX11_readAll 128 = .ok (.iconst 1, 1) := by decide +kernel
theorem dX11_readAll_129 : decode cX11_readAll 129 = .ok (.ireturn, 1) := by decide +kernel
theorem dX11_errorPosition_0 : decode cX11_errorPosition 0 = .ok (.aload_n 0, 1) := by decide +kernel
theorem dX11_errorPosition_1 : decode cX11_errorPosition 1 = .ok (.iconst 0, 1) := by decide +kernel
theorem dX11_errorPosition_2 : decode cX11_errorPosition 2 = .ok (.putfield 46, 3) := by decide +kernel
theorem dX11_errorPosition_5 : decode cX11_errorPosition 5 = .ok (.aload_n 0, 1) := by decide +kernel
theorem dX11_errorPosition_6 : decode cX11_errorPosition 6 = .ok (.invokevirtual 159, 3) := by decide +kernel
theorem dX11_errorPosition_9 : decode cX11_errorPosition 9 = .ok (.ifCond .eq 8, 3) := by decide +kernel
theorem dX11_errorPosition_12 : decode cX11_errorPosition 12 = .ok (.bipush (-9), 2) := by decide +kernel
theorem dX11_errorPosition_14 : decode cX11_errorPosition 14 = .ok (.goto 7, 3) := by decide +kernel
theorem dX11_errorPosition_17 : decode cX11_errorPosition 17 = .ok (.aload_n 0, 1) := by decide +kernel
theorem dX11_errorPosition_18 : decode cX11_errorPosition 18 = .ok (.getfield 138, 3) := by decide +kernel
theorem dX11_errorPosition_21 : decode cX11_errorPosition 21 = .ok (.ireturn, 1) := by decide +kernel
theorem dX11_load_0 : decode cX11_load 0 = .ok (.aload_n 0, 1) := by decide +kernel
theorem dX11_load_1 : decode cX11_load 1 = .ok (.aload_n 0, 1) := by decide +kernel
theorem dX11_load_2 : decode cX11_load 2 = .ok (.invokevirtual 159, 3) := by decide +kernel
theorem dX11_load_5 : decode cX11_load 5 = .ok (.ifCond .eq 7, 3) := by decide +kernel
theorem dX11_load_8 : decode cX11_load 8 = .ok (.iconst 0, 1) := by decide +kernel
theorem dX11_load_9 : decode cX11_load 9 = .ok (.goto 4, 3) := by decide +kernel
theorem dX11_load_12 : decode cX11_load 12 = .ok (.iconst 1, 1) := by decide +kernel
theorem dX11_load_13 : decode cX11_load 13 = .ok (.invokevirtual 134, 3) := by decide +kernel
theorem dX11_load_16 : decode cX11_load 16 = .ok (.ifCond .eq 5, 3) := by decide +kernel
theorem dX11_load_19 : decode cX11_load 19 = .ok (.iconst 0, 1) := by decide +kernel
theorem dX11_load_20 : decode cX11_load 20 = .ok (.ireturn, 1) := by decide +kernel
theorem dX11_load_21 : decode cX11_load 21 = .ok (.aload_n 0, 1) := by decide +kernel
theorem dX11_load_22 : decode cX11_load 22 = .ok (.getfield 13, 3) := by decide +kernel
theorem dX11_load_25 : decode cX11_load 25 = .ok (.iconst 0, 1) := by decide +kernel
theorem dX11_load_26 : decode cX11_load 26 = .ok (.aload_n 0, 1) := by decide +kernel
theorem dX11_load_27 : decode cX11_load 27 = .ok (.getfield 16, 3) := by decide +kernel
theorem dX11_load_30 : decode cX11_load 30 = .ok (.iconst 0, 1) := by decide +kernel
theorem dX11_load_31 : decode cX11_load 31 = .ok (.invokestatic 162, 3) := by decide +kernel
theorem dX11_load_34 : decode cX11_load 34 = .ok (.aload_n 0, 1) := by decide +kernel
theorem dX11_load_35 : decode cX11_load 35 = .ok (.iconst 0, 1) := by decide +kernel
theorem dX11_load_36 : decode cX11_load 36 = .ok (.putfield 166, 3) := by decide +kernel
theorem dX11_load_39 : decode cX11_load 39 = .ok (.aload_n 0, 1) := by decide +kernel
theorem dX11_load_40 : decode cX11_load 40 = .ok (.getfield 28, 3) := by decide +kernel
theorem dX11_load_43 : decode cX11_load 43 = .ok (.iconst 0, 1) := by decide +kernel
theorem dX11_load_44 : decode cX11_load 44 = .ok (.iconst 0, 1) := by decide +kernel
theorem dX11_load_45 : decode cX11_load 45 = .ok (.bastore, 1) := by decide +kernel
theorem dX11_load_46 : decode cX11_load 46 = .ok (.aload_n 0, 1) := by decide +kernel
theorem dX11_load_47 : decode cX11_load 47 = .ok (.getfield 28, 3) := by decide +kernel
theorem dX11_load_50 : decode cX11_load 50 = .ok (.iconst 1, 1) := by decide +kernel
theorem dX11_load_51 : decode cX11_load 51 = .ok (.iconst 0, 1) := by decide +kernel
theorem dX11_load_52 : decode cX11_load 52 = .ok (.bastore, 1) := by decide +kernel
theorem dX11_load_53 : decode cX11_load 53 = .ok (.aload_n 0, 1) := by decide +kernel
theorem dX11_load_54 : decode cX11_load 54 = .ok (.getfield 16, 3) := by decide +kernel
theorem dX11_load_57 : decode cX11_load 57 = .ok (.iconst 1, 1) := by decide +kernel
theorem dX11_load_58 : decode cX11_load 58 = .ok (.iaload, 1) := by decide +kernel
theorem dX11_load_59 : decode cX11_load 59 = .ok (.ireturn, 1) := by decide +kernel
theorem dX11_about_0 : decode cX11_about 0 = .ok (.aload_n 0, 1) := by decide +kernel
theorem dX11_about_1 : decode cX11_about 1 = .ok (.iload_n 1, 1) := by decide +kernel
theorem dX11_about_2 : decode cX11_about 2 = .ok (.i2l, 1) := by decide +kernel
theorem dX11_about_3 : decode cX11_about 3 = .ok (.lconst 0, 1) := by decide +kernel
theorem dX11_about_4 : decode cX11_about 4 = .ok (.ldc2_w 169, 3) := by decide +kernel
theorem dX11_about_7 : decode cX11_about 7 = .ok (.invokestatic 62, 3) := by decide +kernel
theorem dX11_about_10 : decode cX11_about 10 = .ok (.ifCond .eq 7, 3) := by decide +kernel
theorem dX11_about_13 : decode cX11_about 13 = .ok (.iconst 0, 1) := by decide +kernel
theorem dX11_about_14 : decode cX11_about 14 = .ok (.goto 4, 3) := by decide +kernel
theorem dX11_about_17 : decode cX11_about 17 = .ok (.iconst 1, 1) := by decide +kernel
theorem dX11_about_18 : decode cX11_about 18 = .ok (.invokevirtual 134, 3) := by decide +kernel
theorem dX11_about_21 : decode cX11_about 21 = .ok (.ifCond .eq 7, 3) := by decide +kernel
theorem dX11_about_24 : decode cX11_about 24 = .ok (.iconst 0, 1) := by decide +kernel
theorem dX11_about_25 : decode cX11_about 25 = .ok (.goto 9, 3) := by decide +kernel
theorem dX11_about_28 : decode cX11_about 28 = .ok (.aload_n 0, 1) := by decide +kernel
theorem dX11_about_29 : decode cX11_about 29 = .ok (.getfield 16, 3) := by decide +kernel
theorem dX11_about_32 : decode cX11_about 32 = .ok (.iload_n 1, 1) := by decide +kernel
theorem dX11_about_33 : decode cX11_about 33 = .ok (.iaload, 1) := by decide +kernel
theorem dX11_about_34 : decode cX11_about 34 = .ok (.ireturn, 1) := by decide +kernel
theorem dX11_track_0 : decode cX11_track 0 = .ok (.aload_n 0, 1) := by decide +kernel
theorem dX11_track_1 : decode cX11_track 1 = .ok (.aload_n 0, 1) := by decide +kernel
theorem dX11_track_2 : decode cX11_track 2 = .ok (.getfield 16, 3) := by decide +kernel
theorem dX11_track_5 : decode cX11_track 5 = .ok (.iload_n 1, 1) := by decide +kernel
theorem dX11_track_6 : decode cX11_track 6 = .ok (.invokestatic 171, 3) := by decide +kernel
theorem dX11_track_9 : decode cX11_track 9 = .ok (.ifCond .ne 7, 3) := by decide +kernel
theorem dX11_track_12 : decode cX11_track 12 = .ok (.iconst 1, 1) := by decide +kernel
theorem dX11_track_13 : decode cX11_track 13 = .ok (.goto 20, 3) := by decide +kernel
theorem dX11_track_16 : decode cX11_track 16 = .ok (.iload_n 2, 1) := by decide +kernel
theorem dX11_track_17 : decode cX11_track 17 = .ok (.i2l, 1) := by decide +kernel
theorem dX11_track_18 : decode cX11_track 18 = .ok (.lconst 0, 1) := by decide +kernel
theorem dX11_track_19 : decode cX11_track 19 = .ok (.ldc2_w 60, 3) := by decide +kernel
theorem dX11_track_22 : decode cX11_track 22 = .ok (.invokestatic 62, 3) := by decide +kernel
theorem dX11_track_25 : decode cX11_track 25 = .ok (.ifCond .ne 7, 3) := by decide +kernel
theorem dX11_track_28 : decode cX11_track 28 = .ok (.iconst 2, 1) := by decide +kernel
theorem dX11_track_29 : decode cX11_track 29 = .ok (.goto 4, 3) := by decide +kernel
theorem dX11_track_32 : decode cX11_track 32 = .ok (.iconst 0, 1) := by decide +kernel
theorem dX11_track_33 : decode cX11_track 33 = .ok (.invokevirtual 134, 3) := by decide +kernel
theorem dX11_track_36 : decode cX11_track 36 = .ok (.ifCond .eq 7, 3) := by decide +kernel
theorem dX11_track_39 : decode cX11_track 39 = .ok (.iconst 0, 1) := by decide +kernel
theorem dX11_track_40 : decode cX11_track 40 = .ok (.goto 14, 3) := by decide +kernel
theorem dX11_track_43 : decode cX11_track 43 = .ok (.aload_n 0, 1) := by decide +kernel
theorem dX11_track_44 : decode cX11_track 44 = .ok (.getfield 16, 3) := by decide +kernel
theorem dX11_track_47 : decode cX11_track 47 = .ok (.iload_n 1, 1) := by decide +kernel
theorem dX11_track_48 : decode cX11_track 48 = .ok (.invokestatic 54, 3) := by decide +kernel
theorem dX11_track_51 : decode cX11_track 51 = .ok (.iload_n 2, 1) := by decide +kernel
theorem dX11_track_52 : decode cX11_track 52 = .ok (.iadd, 1) := by decide +kernel
theorem dX11_track_53 : decode cX11_track 53 = .ok (.iaload, 1) := by decide +kernel
theorem dX11_track_54 : decode cX11_track 54 = .ok (.ireturn, 1) := by decide +kernel
theorem dX11_company_0 : decode cX11_company 0 = .ok (.aload_n 0, 1) := by decide +kernel
theorem dX11_company_1 : decode cX11_company 1 = .ok (.iload_n 1, 1) := by decide +kernel
theorem dX11_company_2 : decode cX11_company 2 = .ok (.invokestatic 175, 3) := by decide +kernel
theorem dX11_company_5 : decode cX11_company 5 = .ok (.ifCond .ne 7, 3) := by decide +kernel
theorem dX11_company_8 : decode cX11_company 8 = .ok (.iconst 1, 1) := by decide +kernel
theorem dX11_company_9 : decode cX11_company 9 = .ok (.goto 20, 3) := by decide +kernel
theorem dX11_company_12 : decode cX11_company 12 = .ok (.iload_n 2, 1) := by decide +kernel
theorem dX11_company_13 : decode cX11_company 13 = .ok (.i2l, 1) := by decide +kernel
theorem dX11_company_14 : decode cX11_company 14 = .ok (.lconst 0, 1) := by decide +kernel
theorem dX11_company_15 : decode cX11_company 15 = .ok (.ldc2_w 178, 3) := by decide +kernel
theorem dX11_company_18 : decode cX11_company 18 = .ok (.invokestatic 62, 3) := by decide +kernel
theorem dX11_company_21 : decode cX11_company 21 = .ok (.ifCond .ne 7, 3) := by decide +kernel
theorem dX11_company_24 : decode cX11_company 24 = .ok (.iconst 2, 1) := by decide +kernel
theorem dX11_company_25 : decode cX11_company 25 = .ok (.goto 4, 3) := by decide +kernel
theorem dX11_company_28 : decode cX11_company 28 = .ok (.iconst 0, 1) := by decide +kernel
theorem dX11_company_29 : decode cX11_company 29 = .ok (.invokevirtual 134, 3) := by decide +kernel
theorem dX11_company_32 : decode cX11_company 32 = .ok (.ifCond .eq 5, 3) := by decide +kernel
theorem dX11_company_35 : decode cX11_company 35 = .ok (.iconst 0, 1) := by decide +kernel
theorem dX11_company_36 : decode cX11_company 36 = .ok (.ireturn, 1) := by decide +kernel
theorem dX11_company_37 : decode cX11_company 37 = .ok (.iload_n 1, 1) := by decide +kernel
theorem dX11_company_38 : decode cX11_company 38 = .ok (.invokestatic 50, 3) := by decide +kernel
theorem dX11_company_41 : decode cX11_company 41 = .ok (.istore_n 3, 1) := by decide +kernel
theorem dX11_company_42 : decode cX11_company 42 = .ok (.iload_n 2, 1) := by decide +kernel
theorem dX11_company_43 : decode cX11_company 43 = .ok (.iconst 3, 1) := by decide +kernel
theorem dX11_company_44 : decode cX11_company 44 = .ok (.if_icmp .ge 14, 3) := by decide +kernel
theorem dX11_company_47 : decode cX11_company 47 = .ok (.aload_n 0, 1) := by decide +kernel
theorem dX11_company_48 : decode cX11_company 48 = .ok (.getfield 16, 3) := by decide +kernel
theorem dX11_company_51 : decode cX11_company 51 = .ok (.iload_n 3, 1) := by decide +kernel
theorem dX11_company_52 : decode cX11_company 52 = .ok (.iload_n 2, 1) := by decide +kernel
theorem dX11_company_53 : decode cX11_company 53 = .ok (.iadd, 1) := by decide +kernel
theorem dX11_company_54 : decode cX11_company 54 = .ok (.iaload, 1) := by decide +kernel
theorem dX11_company_55 : decode cX11_company 55 = .ok (.goto 46, 3) := by decide +kernel
theorem dX11_company_58 : decode cX11_company 58 = .ok (.iload_n 2, 1) := by decide +kernel
theorem dX11_company_59 : decode cX11_company 59 = .ok (.iconst 3, 1) := by decide +kernel
theorem dX11_company_60 : decode cX11_company 60 = .ok (.if_icmp .ne 15, 3) := by decide +kernel
theorem dX11_company_63 : decode cX11_company 63 = .ok (.aload_n 0, 1) := by decide +kernel
theorem dX11_company_64 : decode cX11_company 64 = .ok (.getfield 16, 3) := by decide +kernel
theorem dX11_company_67 : decode cX11_company 67 = .ok (.iload_n 1, 1) := by decide +kernel
theorem dX11_company_68 : decode cX11_company 68 = .ok (.iconst 0, 1) := by decide +kernel
theorem dX11_company_69 : decode cX11_company 69 = .ok (.invokestatic 113, 3) := by decide +kernel
theorem dX11_company_72 : decode cX11_company 72 = .ok (.goto 29, 3) := by decide +kernel
theorem dX11_company_75 : decode cX11_company 75 = .ok (.iload_n 2, 1) := by decide +kernel
theorem dX11_company_76 : decode cX11_company 76 = .ok (.iconst 4, 1) := by decide +kernel
theorem dX11_company_77 : decode cX11_company 77 = .ok (.if_icmp .ne 14, 3) := by decide +kernel
theorem dX11_company_80 : decode cX11_company 80 = .ok (.aload_n 0, 1) := by decide +kernel
theorem dX11_company_81 : decode cX11_company 81 = .ok (.getfield 16, 3) := by decide +kernel
theorem dX11_company_84 : decode cX11_company 84 = .ok (.iload_n 1, 1) := by decide +kernel
theorem dX11_company_85 : decode cX11_company 85 = .ok (.invokestatic 126, 3) := by decide +kernel
theorem dX11_company_88 : decode cX11_company 88 = .ok (.goto 13, 3) := by decide +kernel
theorem dX11_company_91 : decode cX11_company 91 = .ok (.aload_n 0, 1) := by decide +kernel
theorem dX11_company_92 : decode cX11_company 92 = .ok (.getfield 16, 3) := by decide +kernel
theorem dX11_company_95 : decode cX11_company 95 = .ok (.iload_n 3, 1) := by decide +kernel
theorem dX11_company_96 : decode cX11_company 96 = .ok (.iload_n 2, 1) := by decide +kernel
theorem dX11_company_97 : decode cX11_company 97 = .ok (.iadd, 1) := by decide +kernel
theorem dX11_company_98 : decode cX11_company 98 = .ok (.iconst 2, 1) := by decide +kernel
theorem dX11_company_99 : decode cX11_company 99 = .ok (.isub, 1) := by decide +kernel
theorem dX11_company_100 : decode cX11_company 100 = .ok (.iaload, 1) := by decide +kernel
theorem dX11_company_101 : decode cX11_company 101 = .ok (.ireturn, 1) := by decide +kernel
theorem dX11_train_0 : decode cX11_train 0 = .ok (.aload_n 0, 1) := by decide +kernel
theorem dX11_train_1 : decode cX11_train 1 = .ok (.iload_n 1, 1) := by decide +kernel
theorem dX11_train_2 : decode cX11_train 2 = .ok (.invokestatic 175, 3) := by decide +kernel
theorem dX11_train_5 : decode cX11_train 5 = .ok (.ifCond .eq 15, 3) := by decide +kernel
theorem dX11_train_8 : decode cX11_train 8 = .ok (.aload_n 0, 1) := by decide +kernel
theorem dX11_train_9 : decode cX11_train 9 = .ok (.getfield 16, 3) := by decide +kernel
theorem dX11_train_12 : decode cX11_train 12 = .ok (.iload_n 1, 1) := by decide +kernel
theorem dX11_train_13 : decode cX11_train 13 = .ok (.iload_n 2, 1) := by decide +kernel
theorem dX11_train_14 : decode cX11_train 14 = .ok (.invokestatic 180, 3) := by decide +kernel
theorem dX11_train_17 : decode cX11_train 17 = .ok (.ifCond .ne 7, 3) := by decide +kernel
theorem dX11_train_20 : decode cX11_train 20 = .ok (.iconst 1, 1) := by decide +kernel
theorem dX11_train_21 : decode cX11_train 21 = .ok (.goto 18, 3) := by decide +kernel
theorem dX11_train_24 : decode cX11_train 24 = .ok (.iload_n 3, 1) := by decide +kernel
theorem dX11_train_25 : decode cX11_train 25 = .ok (.i2l, 1) := by decide +kernel
theorem dX11_train_26 : decode cX11_train 26 = .ok (.lconst 0, 1) := by decide +kernel
theorem dX11_train_27 : decode cX11_train 27 = .ok (.lconst 1, 1) := by decide +kernel
theorem dX11_train_28 : decode cX11_train 28 = .ok (.invokestatic 62, 3) := by decide +kernel
theorem dX11_train_31 : decode cX11_train 31 = .ok (.ifCond .ne 7, 3) := by decide +kernel
theorem dX11_train_34 : decode cX11_train 34 = .ok (.iconst 2, 1) := by decide +kernel
theorem dX11_train_35 : decode cX11_train 35 = .ok (.goto 4, 3) := by decide +kernel
theorem dX11_train_38 : decode cX11_train 38 = .ok (.iconst 0, 1) := by decide +kernel
theorem dX11_train_39 : decode cX11_train 39 = .ok (.invokevirtual 134, 3) := by decide +kernel
theorem dX11_train_42 : decode cX11_train 42 = .ok (.ifCond .eq 7, 3) := by decide +kernel
theorem dX11_train_45 : decode cX11_train 45 = .ok (.iconst 0, 1) := by decide +kernel
theorem dX11_train_46 : decode cX11_train 46 = .ok (.goto 15, 3) := by decide +kernel
theorem dX11_train_49 : decode cX11_train 49 = .ok (.aload_n 0, 1) := by decide +kernel
theorem dX11_train_50 : decode cX11_train 50 = .ok (.getfield 16, 3) := by decide +kernel
theorem dX11_train_53 : decode cX11_train 53 = .ok (.iload_n 1, 1) := by decide +kernel
theorem dX11_train_54 : decode cX11_train 54 = .ok (.iload_n 2, 1) := by decide +kernel
theorem dX11_train_55 : decode cX11_train 55 = .ok (.invokestatic 94, 3) := by decide +kernel
theorem dX11_train_58 : decode cX11_train 58 = .ok (.iload_n 3, 1) := by decide +kernel
theorem dX11_train_59 : decode cX11_train 59 = .ok (.iadd, 1) := by decide +kernel
theorem dX11_train_60 : decode cX11_train 60 = .ok (.iaload, 1) := by decide +kernel
theorem dX11_train_61 : decode cX11_train 61 = .ok (.ireturn, 1) := by decide +kernel
theorem dX11_contract_0 : decode cX11_contract 0 = .ok (.aload_n 0, 1) := by decide +kernel
theorem dX11_contract_1 : decode cX11_contract 1 = .ok (.aload_n 0, 1) := by decide +kernel
theorem dX11_contract_2 : decode cX11_contract 2 = .ok (.getfield 16, 3) := by decide +kernel
theorem dX11_contract_5 : decode cX11_contract 5 = .ok (.iload_n 1, 1) := by decide +kernel
theorem dX11_contract_6 : decode cX11_contract 6 = .ok (.invokestatic 184, 3) := by decide +kernel
theorem dX11_contract_9 : decode cX11_contract 9 = .ok (.ifCond .ne 7, 3) := by decide +kernel
theorem dX11_contract_12 : decode cX11_contract 12 = .ok (.iconst 1, 1) := by decide +kernel
theorem dX11_contract_13 : decode cX11_contract 13 = .ok (.goto 20, 3) := by decide +kernel
theorem dX11_contract_16 : decode cX11_contract 16 = .ok (.iload_n 2, 1) := by decide +kernel
theorem dX11_contract_17 : decode cX11_contract 17 = .ok (.i2l, 1) := by decide +kernel
theorem dX11_contract_18 : decode cX11_contract 18 = .ok (.lconst 0, 1) := by decide +kernel
theorem dX11_contract_19 : decode cX11_contract 19 = .ok (.ldc2_w 187, 3) := by decide +kernel
theorem dX11_contract_22 : decode cX11_contract 22 = .ok (.invokestatic 62, 3) := by decide +kernel
theorem dX11_contract_25 : decode cX11_contract 25 = .ok (.ifCond .ne 7, 3) := by decide +kernel
theorem dX11_contract_28 : decode cX11_contract 28 = .ok (.iconst 2, 1) := by decide +kernel
theorem dX11_contract_29 : decode cX11_contract 29 = .ok (.goto 4, 3) := by decide +kernel
theorem dX11_contract_32 : decode cX11_contract 32 = .ok (.iconst 0, 1) := by decide +kernel
theorem dX11_contract_33 : decode cX11_contract 33 = .ok (.invokevirtual 134, 3) := by decide +kernel
theorem dX11_contract_36 : decode cX11_contract 36 = .ok (.ifCond .eq 7, 3) := by decide +kernel
theorem dX11_contract_39 : decode cX11_contract 39 = .ok (.iconst 0, 1) := by decide +kernel
theorem dX11_contract_40 : decode cX11_contract 40 = .ok (.goto 14, 3) := by decide +kernel
theorem dX11_contract_43 : decode cX11_contract 43 = .ok (.aload_n 0, 1) := by decide +kernel
theorem dX11_contract_44 : decode cX11_contract 44 = .ok (.getfield 16, 3) := by decide +kernel
theorem dX11_contract_47 : decode cX11_contract 47 = .ok (.iload_n 1, 1) := by decide +kernel
theorem dX11_contract_48 : decode cX11_contract 48 = .ok (.invokestatic 57, 3) := by decide +kernel
theorem dX11_contract_51 : decode cX11_contract 51 = .ok (.iload_n 2, 1) := by decide +kernel
theorem dX11_contract_52 : decode cX11_contract 52 = .ok (.iadd, 1) := by decide +kernel
theorem dX11_contract_53 : decode cX11_contract 53 = .ok (.iaload, 1) := by decide +kernel
theorem dX11_contract_54 : decode cX11_contract 54 = .ok (.ireturn, 1) := by decide +kernel
theorem dX11_note_0 : decode cX11_note 0 = .ok (.aload_n 0, 1) := by decide +kernel
theorem dX11_note_1 : decode cX11_note 1 = .ok (.getfield 166, 3) := by decide +kernel
theorem dX11_note_4 : decode cX11_note 4 = .ok (.bipush 14, 2) := by decide +kernel
theorem dX11_note_6 : decode cX11_note 6 = .ok (.if_icmp .ne 44, 3) := by decide +kernel
theorem dX11_note_9 : decode cX11_note 9 = .ok (.iconst 0, 1) := by decide +kernel
theorem dX11_note_10 : decode cX11_note 10 = .ok (.istore_n 1, 1) := by decide +kernel
theorem dX11_note_11 : decode cX11_note 11 = .ok (.iload_n 1, 1) := by decide +kernel
theorem dX11_note_12 : decode cX11_note 12 = .ok (.sipush 2275, 3) := by decide +kernel
theorem dX11_note_15 : decode cX11_note 15 = .ok (.if_icmp .ge 25, 3) := by decide +kernel
theorem dX11_note_18 : decode cX11_note 18 = .ok (.aload_n 0, 1) := by decide +kernel
theorem dX11_note_19 : decode cX11_note 19 = .ok (.getfield 22, 3) := by decide +kernel
theorem dX11_note_22 : decode cX11_note 22 = .ok (.iload_n 1, 1) := by decide +kernel
theorem dX11_note_23 : decode cX11_note 23 = .ok (.aload_n 0, 1) := by decide +kernel
theorem dX11_note_24 : decode cX11_note 24 = .ok (.getfield 22, 3) := by decide +kernel
theorem dX11_note_27 : decode cX11_note 27 = .ok (.iload_n 1, 1) := by decide +kernel
theorem dX11_note_28 : decode cX11_note 28 = .ok (.sipush 175, 3) := by decide +kernel
theorem dX11_note_31 : decode cX11_note 31 = .ok (.iadd, 1) := by decide +kernel
theorem dX11_note_32 : decode cX11_note 32 = .ok (.iaload, 1) := by decide +kernel
theorem dX11_note_33 : decode cX11_note 33 = .ok (.iastore, 1) := by decide +kernel
theorem dX11_note_34 : decode cX11_note 34 = .ok (.iinc 1 1, 3) := by decide +kernel
theorem dX11_note_37 : decode cX11_note 37 = .ok (.goto (-26), 3) := by decide +kernel
theorem dX11_note_40 : decode cX11_note 40 = .ok (.aload_n 0, 1) := by decide +kernel
theorem dX11_note_41 : decode cX11_note 41 = .ok (.dup, 1) := by decide +kernel
theorem dX11_note_42 : decode cX11_note 42 = .ok (.getfield 166, 3) := by decide +kernel
theorem dX11_note_45 : decode cX11_note 45 = .ok (.iconst 1, 1) := by decide +kernel
theorem dX11_note_46 : decode cX11_note 46 = .ok (.isub, 1) := by decide +kernel
theorem dX11_note_47 : decode cX11_note 47 = .ok (.putfield 166, 3) := by decide +kernel
theorem dX11_note_50 : decode cX11_note 50 = .ok (.aload_n 0, 1) := by decide +kernel
theorem dX11_note_51 : decode cX11_note 51 = .ok (.getfield 16, 3) := by decide +kernel
theorem dX11_note_54 : decode cX11_note 54 = .ok (.iconst 0, 1) := by decide +kernel
theorem dX11_note_55 : decode cX11_note 55 = .ok (.aload_n 0, 1) := by decide +kernel
theorem dX11_note_56 : decode cX11_note 56 = .ok (.getfield 22, 3) := by decide +kernel
theorem dX11_note_59 : decode cX11_note 59 = .ok (.sipush 175, 3) := by decide +kernel
theorem dX11_note_62 : decode cX11_note 62 = .ok (.aload_n 0, 1) := by decide +kernel
theorem dX11_note_63 : decode cX11_note 63 = .ok (.getfield 166, 3) := by decide +kernel
theorem dX11_note_66 : decode cX11_note 66 = .ok (.imul, 1) := by decide +kernel
theorem dX11_note_67 : decode cX11_note 67 = .ok (.invokestatic 162, 3) := by decide +kernel
theorem dX11_note_70 : decode cX11_note 70 = .ok (.aload_n 0, 1) := by decide +kernel
theorem dX11_note_71 : decode cX11_note 71 = .ok (.dup, 1) := by decide +kernel
theorem dX11_note_72 : decode cX11_note 72 = .ok (.getfield 166, 3) := by decide +kernel
theorem dX11_note_75 : decode cX11_note 75 = .ok (.iconst 1, 1) := by decide +kernel
theorem dX11_note_76 : decode cX11_note 76 = .ok (.iadd, 1) := by decide +kernel
theorem dX11_note_77 : decode cX11_note 77 = .ok (.putfield 166, 3) := by decide +kernel
theorem dX11_note_80 : decode cX11_note 80 = .ok (.return_, 1) := by decide +kernel
theorem dX11_buyTrack_0 : decode cX11_buyTrack 0 = .ok (.aload_n 0, 1) := by decide +kernel
theorem dX11_buyTrack_1 : decode cX11_buyTrack 1 = .ok (.iload_n 1, 1) := by decide +kernel
theorem dX11_buyTrack_2 : decode cX11_buyTrack 2 = .ok (.invokestatic 175, 3) := by decide +kernel
theorem dX11_buyTrack_5 : decode cX11_buyTrack 5 = .ok (.ifCond .eq 14, 3) := by decide +kernel
theorem dX11_buyTrack_8 : decode cX11_buyTrack 8 = .ok (.aload_n 0, 1) := by decide +kernel
theorem dX11_buyTrack_9 : decode cX11_buyTrack 9 = .ok (.getfield 16, 3) := by decide +kernel
theorem dX11_buyTrack_12 : decode cX11_buyTrack 12 = .ok (.iload_n 2, 1) := by decide +kernel
theorem dX11_buyTrack_13 : decode cX11_buyTrack 13 = .ok (.invokestatic 171, 3) := by decide +kernel
theorem dX11_buyTrack_16 : decode cX11_buyTrack 16 = .ok (.ifCond .ne 7, 3) := by decide +kernel
theorem dX11_buyTrack_19 : decode cX11_buyTrack 19 = .ok (.iconst 1, 1) := by decide +kernel
theorem dX11_buyTrack_20 : decode cX11_buyTrack 20 = .ok (.goto 20, 3) := by decide +kernel
theorem dX11_buyTrack_23 : decode cX11_buyTrack 23 = .ok (.aload_n 0, 1) := by decide +kernel
theorem dX11_buyTrack_24 : decode cX11_buyTrack 24 = .ok (.getfield 16, 3) := by decide +kernel
theorem dX11_buyTrack_27 : decode cX11_buyTrack 27 = .ok (.iload_n 1, 1) := by decide +kernel
theorem dX11_buyTrack_28 : decode cX11_buyTrack 28 = .ok (.iload_n 2, 1) := by decide +kernel
theorem dX11_buyTrack_29 : decode cX11_buyTrack 29 = .ok (.invokestatic 189, 3) := by decide +kernel
theorem dX11_buyTrack_32 : decode cX11_buyTrack 32 = .ok (.ifCond .ne 7, 3) := by decide +kernel
theorem dX11_buyTrack_35 : decode cX11_buyTrack 35 = .ok (.iconst 2, 1) := by decide +kernel
theorem dX11_buyTrack_36 : decode cX11_buyTrack 36 = .ok (.goto 4, 3) := by decide +kernel
theorem dX11_buyTrack_39 : decode cX11_buyTrack 39 = .ok (.iconst 0, 1) := by decide +kernel
theorem dX11_buyTrack_40 : decode cX11_buyTrack 40 = .ok (.invokevirtual 134, 3) := by decide +kernel
theorem dX11_buyTrack_43 : decode cX11_buyTrack 43 = .ok (.ifCond .eq 5, 3) := by decide +kernel
theorem dX11_buyTrack_46 : decode cX11_buyTrack 46 = .ok (.iconst 0, 1) := by decide +kernel
theorem dX11_buyTrack_47 : decode cX11_buyTrack 47 = .ok (.ireturn, 1) := by decide +kernel
theorem dX11_buyTrack_48 : decode cX11_buyTrack 48 = .ok (.aload_n 0, 1) := by decide +kernel
theorem dX11_buyTrack_49 : decode cX11_buyTrack 49 = .ok (.invokevirtual 192, 3) := by decide +kernel
theorem dX11_buyTrack_52 : decode cX11_buyTrack 52 = .ok (.aload_n 0, 1) := by decide +kernel
theorem dX11_buyTrack_53 : decode cX11_buyTrack 53 = .ok (.getfield 16, 3) := by decide +kernel
theorem dX11_buyTrack_56 : decode cX11_buyTrack 56 = .ok (.iload_n 1, 1) := by decide +kernel
theorem dX11_buyTrack_57 : decode cX11_buyTrack 57 = .ok (.iload_n 2, 1) := by decide +kernel
theorem dX11_buyTrack_58 : decode cX11_buyTrack 58 = .ok (.invokestatic 195, 3) := by decide +kernel
theorem dX11_buyTrack_61 : decode cX11_buyTrack 61 = .ok (.ireturn, 1) := by decide +kernel
theorem dX11_buyTrain_0 : decode cX11_buyTrain 0 = .ok (.aload_n 0, 1) := by decide +kernel
theorem dX11_buyTrain_1 : decode cX11_buyTrain 1 = .ok (.iload_n 1, 1) := by decide +kernel
theorem dX11_buyTrain_2 : decode cX11_buyTrain 2 = .ok (.invokestatic 175, 3) := by decide +kernel
theorem dX11_buyTrain_5 : decode cX11_buyTrain 5 = .ok (.ifCond .ne 7, 3) := by decide +kernel
theorem dX11_buyTrain_8 : decode cX11_buyTrain 8 = .ok (.iconst 1, 1) := by decide +kernel
theorem dX11_buyTrain_9 : decode cX11_buyTrain 9 = .ok (.goto 36, 3) := by decide +kernel
theorem dX11_buyTrain_12 : decode cX11_buyTrain 12 = .ok (.iload_n 2, 1) := by decide +kernel
theorem dX11_buyTrain_13 : decode cX11_buyTrain 13 = .ok (.i2l, 1) := by decide +kernel
theorem dX11_buyTrain_14 : decode cX11_buyTrain 14 = .ok (.lconst 1, 1) := by decide +kernel
theorem dX11_buyTrain_15 : decode cX11_buyTrain 15 = .ok (.ldc2_w 178, 3) := by decide +kernel
theorem dX11_buyTrain_18 : decode cX11_buyTrain 18 = .ok (.invokestatic 62, 3) := by decide +kernel
theorem dX11_buyTrain_21 : decode cX11_buyTrain 21 = .ok (.ifCond .ne 7, 3) := by decide +kernel
theorem dX11_buyTrain_24 : decode cX11_buyTrain 24 = .ok (.iconst 2, 1) := by decide +kernel
theorem dX11_buyTrain_25 : decode cX11_buyTrain 25 = .ok (.goto 20, 3) := by decide +kernel
theorem dX11_buyTrain_28 : decode cX11_buyTrain 28 = .ok (.aload_n 0, 1) := by decide +kernel
theorem dX11_buyTrain_29 : decode cX11_buyTrain 29 = .ok (.getfield 16, 3) := by decide +kernel
theorem dX11_buyTrain_32 : decode cX11_buyTrain 32 = .ok (.iload_n 1, 1) := by decide +kernel
theorem dX11_buyTrain_33 : decode cX11_buyTrain 33 = .ok (.iload_n 2, 1) := by decide +kernel
theorem dX11_buyTrain_34 : decode cX11_buyTrain 34 = .ok (.invokestatic 198, 3) := by decide +kernel
theorem dX11_buyTrain_37 : decode cX11_buyTrain 37 = .ok (.ifCond .ne 7, 3) := by decide +kernel
theorem dX11_buyTrain_40 : decode cX11_buyTrain 40 = .ok (.iconst 3, 1) := by decide +kernel
theorem dX11_buyTrain_41 : decode cX11_buyTrain 41 = .ok (.goto 4, 3) := by decide +kernel
theorem dX11_buyTrain_44 : decode cX11_buyTrain 44 = .ok (.iconst 0, 1) := by decide +kernel
theorem dX11_buyTrain_45 : decode cX11_buyTrain 45 = .ok (.invokevirtual 134, 3) := by decide +kernel
theorem dX11_buyTrain_48 : decode cX11_buyTrain 48 = .ok (.ifCond .eq 5, 3) := by decide +kernel
theorem dX11_buyTrain_51 : decode cX11_buyTrain 51 = .ok (.iconst 0, 1) := by decide +kernel
theorem dX11_buyTrain_52 : decode cX11_buyTrain 52 = .ok (.ireturn, 1) := by decide +kernel
theorem dX11_buyTrain_53 : decode cX11_buyTrain 53 = .ok (.aload_n 0, 1) := by decide +kernel
theorem dX11_buyTrain_54 : decode cX11_buyTrain 54 = .ok (.invokevirtual 192, 3) := by decide +kernel
theorem dX11_buyTrain_57 : decode cX11_buyTrain 57 = .ok (.aload_n 0, 1) := by decide +kernel
theorem dX11_buyTrain_58 : decode cX11_buyTrain 58 = .ok (.getfield 16, 3) := by decide +kernel
theorem dX11_buyTrain_61 : decode cX11_buyTrain 61 = .ok (.iload_n 1, 1) := by decide +kernel
theorem dX11_buyTrain_62 : decode cX11_buyTrain 62 = .ok (.iload_n 2, 1) := by decide +kernel
theorem dX11_buyTrain_63 : decode cX11_buyTrain 63 = .ok (.invokestatic 201, 3) := by decide +kernel
theorem dX11_buyTrain_66 : decode cX11_buyTrain 66 = .ok (.ireturn, 1) := by decide +kernel
theorem dX11_setRent_0 : decode cX11_setRent 0 = .ok (.aload_n 0, 1) := by decide +kernel
theorem dX11_setRent_1 : decode cX11_setRent 1 = .ok (.iload_n 1, 1) := by decide +kernel
theorem dX11_setRent_2 : decode cX11_setRent 2 = .ok (.invokestatic 175, 3) := by decide +kernel
theorem dX11_setRent_5 : decode cX11_setRent 5 = .ok (.ifCond .ne 7, 3) := by decide +kernel
theorem dX11_setRent_8 : decode cX11_setRent 8 = .ok (.iconst 1, 1) := by decide +kernel
theorem dX11_setRent_9 : decode cX11_setRent 9 = .ok (.goto 20, 3) := by decide +kernel
theorem dX11_setRent_12 : decode cX11_setRent 12 = .ok (.iload_n 2, 1) := by decide +kernel
theorem dX11_setRent_13 : decode cX11_setRent 13 = .ok (.i2l, 1) := by decide +kernel
theorem dX11_setRent_14 : decode cX11_setRent 14 = .ok (.lconst 0, 1) := by decide +kernel
theorem dX11_setRent_15 : decode cX11_setRent 15 = .ok (.ldc2_w 204, 3) := by decide +kernel
theorem dX11_setRent_18 : decode cX11_setRent 18 = .ok (.invokestatic 62, 3) := by decide +kernel
theorem dX11_setRent_21 : decode cX11_setRent 21 = .ok (.ifCond .ne 7, 3) := by decide +kernel
theorem dX11_setRent_24 : decode cX11_setRent 24 = .ok (.iconst 2, 1) := by decide +kernel
theorem dX11_setRent_25 : decode cX11_setRent 25 = .ok (.goto 4, 3) := by decide +kernel
theorem dX11_setRent_28 : decode cX11_setRent 28 = .ok (.iconst 0, 1) := by decide +kernel
theorem dX11_setRent_29 : decode cX11_setRent 29 = .ok (.invokevirtual 134, 3) := by decide +kernel
theorem dX11_setRent_32 : decode cX11_setRent 32 = .ok (.ifCond .eq 5, 3) := by decide +kernel
theorem dX11_setRent_35 : decode cX11_setRent 35 = .ok (.iconst 0, 1) := by decide +kernel
theorem dX11_setRent_36 : decode cX11_setRent 36 = .ok (.ireturn, 1) := by decide +kernel
theorem dX11_setRent_37 : decode cX11_setRent 37 = .ok (.aload_n 0, 1) := by decide +kernel
theorem dX11_setRent_38 : decode cX11_setRent 38 = .ok (.invokevirtual 192, 3) := by decide +kernel
theorem dX11_setRent_41 : decode cX11_setRent 41 = .ok (.aload_n 0, 1) := by decide +kernel
theorem dX11_setRent_42 : decode cX11_setRent 42 = .ok (.getfield 16, 3) := by decide +kernel
theorem dX11_setRent_45 : decode cX11_setRent 45 = .ok (.iload_n 1, 1) := by decide +kernel
theorem dX11_setRent_46 : decode cX11_setRent 46 = .ok (.invokestatic 50, 3) := by decide +kernel
theorem dX11_setRent_49 : decode cX11_setRent 49 = .ok (.iconst 1, 1) := by decide +kernel
theorem dX11_setRent_50 : decode cX11_setRent 50 = .ok (.iadd, 1) := by decide +kernel
theorem dX11_setRent_51 : decode cX11_setRent 51 = .ok (.iaload, 1) := by decide +kernel
theorem dX11_setRent_52 : decode cX11_setRent 52 = .ok (.istore_n 3, 1) := by decide +kernel
theorem dX11_setRent_53 : decode cX11_setRent 53 = .ok (.aload_n 0, 1) := by decide +kernel
theorem dX11_setRent_54 : decode cX11_setRent 54 = .ok (.getfield 16, 3) := by decide +kernel
theorem dX11_setRent_57 : decode cX11_setRent 57 = .ok (.iload_n 1, 1) := by decide +kernel
theorem dX11_setRent_58 : decode cX11_setRent 58 = .ok (.invokestatic 50, 3) := by decide +kernel
theorem dX11_setRent_61 : decode cX11_setRent 61 = .ok (.iconst 1, 1) := by decide +kernel
theorem dX11_setRent_62 : decode cX11_setRent 62 = .ok (.iadd, 1) := by decide +kernel
theorem dX11_setRent_63 : decode cX11_setRent 63 = .ok (.iload_n 2, 1) := by decide +kernel
theorem dX11_setRent_64 : decode cX11_setRent 64 = .ok (.iastore, 1) := by decide +kernel
theorem dX11_setRent_65 : decode cX11_setRent 65 = .ok (.iload_n 3, 1) := by decide +kernel
theorem dX11_setRent_66 : decode cX11_setRent 66 = .ok (.ireturn, 1) := by decide +kernel
theorem dX11_isCity_0 : decode cX11_isCity 0 = .ok (.iload_n 1, 1) := by decide +kernel
theorem dX11_isCity_1 : decode cX11_isCity 1 = .ok (.i2l, 1) := by decide +kernel
theorem dX11_isCity_2 : decode cX11_isCity 2 = .ok (.lconst 0, 1) := by decide +kernel
theorem dX11_isCity_3 : decode cX11_isCity 3 = .ok (.aload_n 0, 1) := by decide +kernel
theorem dX11_isCity_4 : decode cX11_isCity 4 = .ok (.getfield 16, 3) := by decide +kernel
theorem dX11_isCity_7 : decode cX11_isCity 7 = .ok (.iconst 0, 1) := by decide +kernel
theorem dX11_isCity_8 : decode cX11_isCity 8 = .ok (.iaload, 1) := by decide +kernel
theorem dX11_isCity_9 : decode cX11_isCity 9 = .ok (.iconst 1, 1) := by decide +kernel
theorem dX11_isCity_10 : decode cX11_isCity 10 = .ok (.isub, 1) := by decide +kernel
theorem dX11_isCity_11 : decode cX11_isCity 11 = .ok (.i2l, 1) := by decide +kernel
theorem dX11_isCity_12 : decode cX11_isCity 12 = .ok (.invokestatic 62, 3) := by decide +kernel
theorem dX11_isCity_15 : decode cX11_isCity 15 = .ok (.ireturn, 1) := by decide +kernel
theorem dX11_offer_0 : decode cX11_offer 0 = .ok (.iload_n 1, 1) := by decide +kernel
theorem dX11_offer_1 : decode cX11_offer 1 = .ok (.iload_n 2, 1) := by decide +kernel
theorem dX11_offer_2 : decode cX11_offer 2 = .ok (.if_icmp .eq 32, 3) := by decide +kernel
theorem dX11_offer_5 : decode cX11_offer 5 = .ok (.iload_n 3, 1) := by decide +kernel
theorem dX11_offer_6 : decode cX11_offer 6 = .ok (.i2l, 1) := by decide +kernel
theorem dX11_offer_7 : decode cX11_offer 7 = .ok (.lconst 1, 1) := by decide +kernel
theorem dX11_offer_8 : decode cX11_offer 8 = .ok (.ldc2_w 206, 3) := by decide +kernel
theorem dX11_offer_11 : decode cX11_offer 11 = .ok (.invokestatic 62, 3) := by decide +kernel
theorem dX11_offer_14 : decode cX11_offer 14 = .ok (.ifCond .eq 20, 3) := by decide +kernel
theorem dX11_offer_17 : decode cX11_offer 17 = .ok (.iload 4, 2) := by decide +kernel
theorem dX11_offer_19 : decode cX11_offer 19 = .ok (.i2l, 1) := by decide +kernel
theorem dX11_offer_20 : decode cX11_offer 20 = .ok (.lconst 1, 1) := by decide +kernel
theorem dX11_offer_21 : decode cX11_offer 21 = .ok (.ldc2_w 204, 3) := by decide +kernel
theorem dX11_offer_24 : decode cX11_offer 24 = .ok (.invokestatic 62, 3) := by decide +kernel
theorem dX11_offer_27 : decode cX11_offer 27 = .ok (.ifCond .eq 7, 3) := by decide +kernel
theorem dX11_offer_30 : decode cX11_offer 30 = .ok (.iconst 1, 1) := by decide +kernel
theorem dX11_offer_31 : decode cX11_offer 31 = .ok (.goto 4, 3) := by decide +kernel
theorem dX11_offer_34 : decode cX11_offer 34 = .ok (.iconst 0, 1) := by decide +kernel
theorem dX11_offer_35 : decode cX11_offer 35 = .ok (.istore 5, 2) := by decide +kernel
theorem dX11_offer_37 : decode cX11_offer 37 = .ok (.aload_n 0, 1) := by decide +kernel
theorem dX11_offer_38 : decode cX11_offer 38 = .ok (.aload_n 0, 1) := by decide +kernel
theorem dX11_offer_39 : decode cX11_offer 39 = .ok (.iload_n 1, 1) := by decide +kernel
theorem dX11_offer_40 : decode cX11_offer 40 = .ok (.invokevirtual 208, 3) := by decide +kernel
theorem dX11_offer_43 : decode cX11_offer 43 = .ok (.ifCond .eq 11, 3) := by decide +kernel
theorem dX11_offer_46 : decode cX11_offer 46 = .ok (.aload_n 0, 1) := by decide +kernel
theorem dX11_offer_47 : decode cX11_offer 47 = .ok (.iload_n 2, 1) := by decide +kernel
theorem dX11_offer_48 : decode cX11_offer 48 = .ok (.invokevirtual 208, 3) := by decide +kernel
theorem dX11_offer_51 : decode cX11_offer 51 = .ok (.ifCond .ne 7, 3) := by decide +kernel
theorem dX11_offer_54 : decode cX11_offer 54 = .ok (.iconst 1, 1) := by decide +kernel
theorem dX11_offer_55 : decode cX11_offer 55 = .ok (.goto 28, 3) := by decide +kernel
theorem dX11_offer_58 : decode cX11_offer 58 = .ok (.iload 5, 2) := by decide +kernel
theorem dX11_offer_60 : decode cX11_offer 60 = .ok (.ifCond .ne 7, 3) := by decide +kernel
theorem dX11_offer_63 : decode cX11_offer 63 = .ok (.iconst 2, 1) := by decide +kernel
theorem dX11_offer_64 : decode cX11_offer 64 = .ok (.goto 19, 3) := by decide +kernel
theorem dX11_offer_67 : decode cX11_offer 67 = .ok (.aload_n 0, 1) := by decide +kernel
theorem dX11_offer_68 : decode cX11_offer 68 = .ok (.getfield 16, 3) := by decide +kernel
theorem dX11_offer_71 : decode cX11_offer 71 = .ok (.iconst 2, 1) := by decide +kernel
theorem dX11_offer_72 : decode cX11_offer 72 = .ok (.iaload, 1) := by decide +kernel
theorem dX11_offer_73 : decode cX11_offer 73 = .ok (.bipush 8, 2) := by decide +kernel
theorem dX11_offer_75 : decode cX11_offer 75 = .ok (.if_icmp .ne 7, 3) := by decide +kernel
theorem dX11_offer_78 : decode cX11_offer 78 = .ok (.iconst 3, 1) := by decide +kernel
theorem dX11_offer_79 : decode cX11_offer 79 = .ok (.goto 4, 3) := by decide +kernel
theorem dX11_offer_82 : decode cX11_offer 82 = .ok (.iconst 0, 1) := by decide +kernel
theorem dX11_offer_83 : decode cX11_offer 83 = .ok (.invokevirtual 134, 3) := by decide +kernel
theorem dX11_offer_86 : decode cX11_offer 86 = .ok (.ifCond .eq 5, 3) := by decide +kernel
theorem dX11_offer_89 : decode cX11_offer 89 = .ok (.iconst 0, 1) := by decide +kernel
theorem dX11_offer_90 : decode cX11_offer 90 = .ok (.ireturn, 1) := by decide +kernel
theorem dX11_offer_91 : decode cX11_offer 91 = .ok (.aload_n 0, 1) := by decide +kernel
theorem dX11_offer_92 : decode cX11_offer 92 = .ok (.invokevirtual 192, 3) := by decide +kernel
theorem dX11_offer_95 : decode cX11_offer 95 = .ok (.aload_n 0, 1) := by decide +kernel
theorem dX11_offer_96 : decode cX11_offer 96 = .ok (.getfield 16, 3) := by decide +kernel
theorem dX11_offer_99 : decode cX11_offer 99 = .ok (.iload_n 1, 1) := by decide +kernel
theorem dX11_offer_100 : decode cX11_offer 100 = .ok (.iload_n 2, 1) := by decide +kernel
theorem dX11_offer_101 : decode cX11_offer 101 = .ok (.iload_n 3, 1) := by decide +kernel
theorem dX11_offer_102 : decode cX11_offer 102 = .ok (.iload 4, 2) := by decide +kernel
theorem dX11_offer_104 : decode cX11_offer 104 = .ok (.invokestatic 145, 3) := by decide +kernel
theorem dX11_offer_107 : decode cX11_offer 107 = .ok (.aload_n 0, 1) := by decide +kernel
theorem dX11_offer_108 : decode cX11_offer 108 = .ok (.getfield 16, 3) := by decide +kernel
theorem dX11_offer_111 : decode cX11_offer 111 = .ok (.iconst 2, 1) := by decide +kernel
theorem dX11_offer_112 : decode cX11_offer 112 = .ok (.iaload, 1) := by decide +kernel
theorem dX11_offer_113 : decode cX11_offer 113 = .ok (.iconst 1, 1) := by decide +kernel
theorem dX11_offer_114 : decode cX11_offer 114 = .ok (.isub, 1) := by decide +kernel
theorem dX11_offer_115 : decode cX11_offer 115 = .ok (.ireturn, 1) := by decide +kernel
theorem dX11_take_0 : decode cX11_take 0 = .ok (.aload_n 0, 1) := by decide +kernel
theorem dX11_take_1 : decode cX11_take 1 = .ok (.iload_n 1, 1) := by decide +kernel
theorem dX11_take_2 : decode cX11_take 2 = .ok (.invokestatic 175, 3) := by decide +kernel
theorem dX11_take_5 : decode cX11_take 5 = .ok (.ifCond .eq 14, 3) := by decide +kernel
theorem dX11_take_8 : decode cX11_take 8 = .ok (.aload_n 0, 1) := by decide +kernel
theorem dX11_take_9 : decode cX11_take 9 = .ok (.getfield 16, 3) := by decide +kernel
theorem dX11_take_12 : decode cX11_take 12 = .ok (.iload_n 2, 1) := by decide +kernel
theorem dX11_take_13 : decode cX11_take 13 = .ok (.invokestatic 184, 3) := by decide +kernel
theorem dX11_take_16 : decode cX11_take 16 = .ok (.ifCond .ne 7, 3) := by decide +kernel
theorem dX11_take_19 : decode cX11_take 19 = .ok (.iconst 1, 1) := by decide +kernel
theorem dX11_take_20 : decode cX11_take 20 = .ok (.goto 19, 3) := by decide +kernel
theorem dX11_take_23 : decode cX11_take 23 = .ok (.aload_n 0, 1) := by decide +kernel
theorem dX11_take_24 : decode cX11_take 24 = .ok (.getfield 16, 3) := by decide +kernel
theorem dX11_take_27 : decode cX11_take 27 = .ok (.iload_n 2, 1) := by decide +kernel
theorem dX11_take_28 : decode cX11_take 28 = .ok (.invokestatic 211, 3) := by decide +kernel
theorem dX11_take_31 : decode cX11_take 31 = .ok (.ifCond .ne 7, 3) := by decide +kernel
theorem dX11_take_34 : decode cX11_take 34 = .ok (.iconst 2, 1) := by decide +kernel
theorem dX11_take_35 : decode cX11_take 35 = .ok (.goto 4, 3) := by decide +kernel
theorem dX11_take_38 : decode cX11_take 38 = .ok (.iconst 0, 1) := by decide +kernel
theorem dX11_take_39 : decode cX11_take 39 = .ok (.invokevirtual 134, 3) := by decide +kernel
theorem dX11_take_42 : decode cX11_take 42 = .ok (.ifCond .eq 5, 3) := by decide +kernel
theorem dX11_take_45 : decode cX11_take 45 = .ok (.iconst 0, 1) := by decide +kernel
theorem dX11_take_46 : decode cX11_take 46 = .ok (.ireturn, 1) := by decide +kernel
theorem dX11_take_47 : decode cX11_take 47 = .ok (.aload_n 0, 1) := by decide +kernel
theorem dX11_take_48 : decode cX11_take 48 = .ok (.invokevirtual 192, 3) := by decide +kernel
theorem dX11_take_51 : decode cX11_take 51 = .ok (.aload_n 0, 1) := by decide +kernel
theorem dX11_take_52 : decode cX11_take 52 = .ok (.getfield 16, 3) := by decide +kernel
theorem dX11_take_55 : decode cX11_take 55 = .ok (.iload_n 1, 1) := by decide +kernel
theorem dX11_take_56 : decode cX11_take 56 = .ok (.iload_n 2, 1) := by decide +kernel
theorem dX11_take_57 : decode cX11_take 57 = .ok (.invokestatic 214, 3) := by decide +kernel
theorem dX11_take_60 : decode cX11_take 60 = .ok (.ireturn, 1) := by decide +kernel
theorem dX11_isRun_0 : decode cX11_isRun 0 = .ok (.aload_n 0, 1) := by decide +kernel
theorem dX11_isRun_1 : decode cX11_isRun 1 = .ok (.iload_n 1, 1) := by decide +kernel
theorem dX11_isRun_2 : decode cX11_isRun 2 = .ok (.invokestatic 184, 3) := by decide +kernel
theorem dX11_isRun_5 : decode cX11_isRun 5 = .ok (.ifCond .eq 36, 3) := by decide +kernel
theorem dX11_isRun_8 : decode cX11_isRun 8 = .ok (.aload_n 0, 1) := by decide +kernel
theorem dX11_isRun_9 : decode cX11_isRun 9 = .ok (.iload_n 1, 1) := by decide +kernel
theorem dX11_isRun_10 : decode cX11_isRun 10 = .ok (.invokestatic 57, 3) := by decide +kernel
theorem dX11_isRun_13 : decode cX11_isRun 13 = .ok (.iconst 4, 1) := by decide +kernel
theorem dX11_isRun_14 : decode cX11_isRun 14 = .ok (.iadd, 1) := by decide +kernel
theorem dX11_isRun_15 : decode cX11_isRun 15 = .ok (.iaload, 1) := by decide +kernel
theorem dX11_isRun_16 : decode cX11_isRun 16 = .ok (.bipush (-9), 2) := by decide +kernel
theorem dX11_isRun_18 : decode cX11_isRun 18 = .ok (.if_icmp .eq 19, 3) := by decide +kernel
theorem dX11_isRun_21 : decode cX11_isRun 21 = .ok (.aload_n 0, 1) := by decide +kernel
theorem dX11_isRun_22 : decode cX11_isRun 22 = .ok (.aload_n 0, 1) := by decide +kernel
theorem dX11_isRun_23 : decode cX11_isRun 23 = .ok (.iload_n 1, 1) := by decide +kernel
theorem dX11_isRun_24 : decode cX11_isRun 24 = .ok (.invokestatic 57, 3) := by decide +kernel
theorem dX11_isRun_27 : decode cX11_isRun 27 = .ok (.iconst 4, 1) := by decide +kernel
theorem dX11_isRun_28 : decode cX11_isRun 28 = .ok (.iadd, 1) := by decide +kernel
theorem dX11_isRun_29 : decode cX11_isRun 29 = .ok (.iaload, 1) := by decide +kernel
theorem dX11_isRun_30 : decode cX11_isRun 30 = .ok (.iload_n 2, 1) := by decide +kernel
theorem dX11_isRun_31 : decode cX11_isRun 31 = .ok (.invokestatic 180, 3) := by decide +kernel
theorem dX11_isRun_34 : decode cX11_isRun 34 = .ok (.ifCond .eq 7, 3) := by decide +kernel
theorem dX11_isRun_37 : decode cX11_isRun 37 = .ok (.iconst 1, 1) := by decide +kernel
theorem dX11_isRun_38 : decode cX11_isRun 38 = .ok (.goto 4, 3) := by decide +kernel
theorem dX11_isRun_41 : decode cX11_isRun 41 = .ok (.iconst 0, 1) := by decide +kernel
theorem dX11_isRun_42 : decode cX11_isRun 42 = .ok (.ireturn, 1) := by decide +kernel
theorem dX11_run_0 : decode cX11_run 0 = .ok (.aload_n 0, 1) := by decide +kernel
theorem dX11_run_1 : decode cX11_run 1 = .ok (.aload_n 0, 1) := by decide +kernel
theorem dX11_run_2 : decode cX11_run 2 = .ok (.getfield 16, 3) := by decide +kernel
theorem dX11_run_5 : decode cX11_run 5 = .ok (.iload_n 1, 1) := by decide +kernel
theorem dX11_run_6 : decode cX11_run 6 = .ok (.iload_n 2, 1) := by decide +kernel
theorem dX11_run_7 : decode cX11_run 7 = .ok (.invokestatic 217, 3) := by decide +kernel
theorem dX11_run_10 : decode cX11_run 10 = .ok (.ifCond .ne 7, 3) := by decide +kernel
theorem dX11_run_13 : decode cX11_run 13 = .ok (.iconst 1, 1) := by decide +kernel
theorem dX11_run_14 : decode cX11_run 14 = .ok (.goto 21, 3) := by decide +kernel
theorem dX11_run_17 : decode cX11_run 17 = .ok (.aload_n 0, 1) := by decide +kernel
theorem dX11_run_18 : decode cX11_run 18 = .ok (.aload_n 0, 1) := by decide +kernel
theorem dX11_run_19 : decode cX11_run 19 = .ok (.getfield 16, 3) := by decide +kernel
theorem dX11_run_22 : decode cX11_run 22 = .ok (.iload_n 1, 1) := by decide +kernel
theorem dX11_run_23 : decode cX11_run 23 = .ok (.iload_n 2, 1) := by decide +kernel
theorem dX11_run_24 : decode cX11_run 24 = .ok (.invokevirtual 220, 3) := by decide +kernel
theorem dX11_run_27 : decode cX11_run 27 = .ok (.ifCond .eq 7, 3) := by decide +kernel
theorem dX11_run_30 : decode cX11_run 30 = .ok (.iconst 2, 1) := by decide +kernel
theorem dX11_run_31 : decode cX11_run 31 = .ok (.goto 4, 3) := by decide +kernel
theorem dX11_run_34 : decode cX11_run 34 = .ok (.iconst 0, 1) := by decide +kernel
theorem dX11_run_35 : decode cX11_run 35 = .ok (.invokevirtual 134, 3) := by decide +kernel
theorem dX11_run_38 : decode cX11_run 38 = .ok (.ifCond .eq 5, 3) := by decide +kernel
theorem dX11_run_41 : decode cX11_run 41 = .ok (.iconst 0, 1) := by decide +kernel
theorem dX11_run_42 : decode cX11_run 42 = .ok (.ireturn, 1) := by decide +kernel
theorem dX11_run_43 : decode cX11_run 43 = .ok (.aload_n 0, 1) := by decide +kernel
theorem dX11_run_44 : decode cX11_run 44 = .ok (.invokevirtual 192, 3) := by decide +kernel
theorem dX11_run_47 : decode cX11_run 47 = .ok (.aload_n 0, 1) := by decide +kernel
theorem dX11_run_48 : decode cX11_run 48 = .ok (.aload_n 0, 1) := by decide +kernel
theorem dX11_run_49 : decode cX11_run 49 = .ok (.getfield 16, 3) := by decide +kernel
theorem dX11_run_52 : decode cX11_run 52 = .ok (.iload_n 1, 1) := by decide +kernel
theorem dX11_run_53 : decode cX11_run 53 = .ok (.iload_n 2, 1) := by decide +kernel
theorem dX11_run_54 : decode cX11_run 54 = .ok (.invokevirtual 223, 3) := by decide +kernel
theorem dX11_run_57 : decode cX11_run 57 = .ok (.ireturn, 1) := by decide +kernel
theorem dX11_endRound_0 : decode cX11_endRound 0 = .ok (.aload_n 0, 1) := by decide +kernel
theorem dX11_endRound_1 : decode cX11_endRound 1 = .ok (.iconst 0, 1) := by decide +kernel
theorem dX11_endRound_2 : decode cX11_endRound 2 = .ok (.putfield 46, 3) := by decide +kernel
theorem dX11_endRound_5 : decode cX11_endRound 5 = .ok (.aload_n 0, 1) := by decide +kernel
theorem dX11_endRound_6 : decode cX11_endRound 6 = .ok (.invokevirtual 192, 3) := by decide +kernel
theorem dX11_endRound_9 : decode cX11_endRound 9 = .ok (.aload_n 0, 1) := by decide +kernel
theorem dX11_endRound_10 : decode cX11_endRound 10 = .ok (.getfield 16, 3) := by decide +kernel
theorem dX11_endRound_13 : decode cX11_endRound 13 = .ok (.invokestatic 226, 3) := by decide +kernel
theorem dX11_endRound_16 : decode cX11_endRound 16 = .ok (.istore_n 1, 1) := by decide +kernel
theorem dX11_endRound_17 : decode cX11_endRound 17 = .ok (.iload_n 1, 1) := by decide +kernel
theorem dX11_endRound_18 : decode cX11_endRound 18 = .ok (.iconst 1, 1) := by decide +kernel
theorem dX11_endRound_19 : decode cX11_endRound 19 = .ok (.iand, 1) := by decide +kernel
theorem dX11_endRound_20 : decode cX11_endRound 20 = .ok (.iload_n 1, 1) := by decide +kernel
theorem dX11_endRound_21 : decode cX11_endRound 21 = .ok (.iconst 1, 1) := by decide +kernel
theorem dX11_endRound_22 : decode cX11_endRound 22 = .ok (.ishr, 1) := by decide +kernel
theorem dX11_endRound_23 : decode cX11_endRound 23 = .ok (.iconst 1, 1) := by decide +kernel
theorem dX11_endRound_24 : decode cX11_endRound 24 = .ok (.iand, 1) := by decide +kernel
theorem dX11_endRound_25 : decode cX11_endRound 25 = .ok (.iadd, 1) := by decide +kernel
theorem dX11_endRound_26 : decode cX11_endRound 26 = .ok (.iload_n 1, 1) := by decide +kernel
theorem dX11_endRound_27 : decode cX11_endRound 27 = .ok (.iconst 2, 1) := by decide +kernel
theorem dX11_endRound_28 : decode cX11_endRound 28 = .ok (.ishr, 1) := by decide +kernel
theorem dX11_endRound_29 : decode cX11_endRound 29 = .ok (.iconst 1, 1) := by decide +kernel
theorem dX11_endRound_30 : decode cX11_endRound 30 = .ok (.iand, 1) := by decide +kernel
theorem dX11_endRound_31 : decode cX11_endRound 31 = .ok (.iadd, 1) := by decide +kernel
theorem dX11_endRound_32 : decode cX11_endRound 32 = .ok (.iload_n 1, 1) := by decide +kernel
theorem dX11_endRound_33 : decode cX11_endRound 33 = .ok (.iconst 3, 1) := by decide +kernel
theorem dX11_endRound_34 : decode cX11_endRound 34 = .ok (.ishr, 1) := by decide +kernel
theorem dX11_endRound_35 : decode cX11_endRound 35 = .ok (.iconst 1, 1) := by decide +kernel
theorem dX11_endRound_36 : decode cX11_endRound 36 = .ok (.iand, 1) := by decide +kernel
theorem dX11_endRound_37 : decode cX11_endRound 37 = .ok (.iadd, 1) := by decide +kernel
theorem dX11_endRound_38 : decode cX11_endRound 38 = .ok (.ireturn, 1) := by decide +kernel
theorem dX11_undo_0 : decode cX11_undo 0 = .ok (.aload_n 0, 1) := by decide +kernel
theorem dX11_undo_1 : decode cX11_undo 1 = .ok (.aload_n 0, 1) := by decide +kernel
theorem dX11_undo_2 : decode cX11_undo 2 = .ok (.getfield 166, 3) := by decide +kernel
theorem dX11_undo_5 : decode cX11_undo 5 = .ok (.ifCond .ne 7, 3) := by decide +kernel
theorem dX11_undo_8 : decode cX11_undo 8 = .ok (.iconst 1, 1) := by decide +kernel
theorem dX11_undo_9 : decode cX11_undo 9 = .ok (.goto 4, 3) := by decide +kernel
theorem dX11_undo_12 : decode cX11_undo 12 = .ok (.iconst 0, 1) := by decide +kernel
theorem dX11_undo_13 : decode cX11_undo 13 = .ok (.invokevirtual 134, 3) := by decide +kernel
theorem dX11_undo_16 : decode cX11_undo 16 = .ok (.ifCond .eq 5, 3) := by decide +kernel
theorem dX11_undo_19 : decode cX11_undo 19 = .ok (.iconst 0, 1) := by decide +kernel
theorem dX11_undo_20 : decode cX11_undo 20 = .ok (.ireturn, 1) := by decide +kernel
theorem dX11_undo_21 : decode cX11_undo 21 = .ok (.aload_n 0, 1) := by decide +kernel
theorem dX11_undo_22 : decode cX11_undo 22 = .ok (.dup, 1) := by decide +kernel
theorem dX11_undo_23 : decode cX11_undo 23 = .ok (.getfield 166, 3) := by decide +kernel
theorem dX11_undo_26 : decode cX11_undo 26 = .ok (.iconst 1, 1) := by decide +kernel
theorem dX11_undo_27 : decode cX11_undo 27 = .ok (.isub, 1) := by decide +kernel
theorem dX11_undo_28 : decode cX11_undo 28 = .ok (.putfield 166, 3) := by decide +kernel
theorem dX11_undo_31 : decode cX11_undo 31 = .ok (.aload_n 0, 1) := by decide +kernel
theorem dX11_undo_32 : decode cX11_undo 32 = .ok (.getfield 22, 3) := by decide +kernel
theorem dX11_undo_35 : decode cX11_undo 35 = .ok (.sipush 175, 3) := by decide +kernel
theorem dX11_undo_38 : decode cX11_undo 38 = .ok (.aload_n 0, 1) := by decide +kernel
theorem dX11_undo_39 : decode cX11_undo 39 = .ok (.getfield 166, 3) := by decide +kernel
theorem dX11_undo_42 : decode cX11_undo 42 = .ok (.imul, 1) := by decide +kernel
theorem dX11_undo_43 : decode cX11_undo 43 = .ok (.aload_n 0, 1) := by decide +kernel
theorem dX11_undo_44 : decode cX11_undo 44 = .ok (.getfield 16, 3) := by decide +kernel
theorem dX11_undo_47 : decode cX11_undo 47 = .ok (.iconst 0, 1) := by decide +kernel
theorem dX11_undo_48 : decode cX11_undo 48 = .ok (.invokestatic 162, 3) := by decide +kernel
theorem dX11_undo_51 : decode cX11_undo 51 = .ok (.aload_n 0, 1) := by decide +kernel
theorem dX11_undo_52 : decode cX11_undo 52 = .ok (.getfield 166, 3) := by decide +kernel
theorem dX11_undo_55 : decode cX11_undo 55 = .ok (.ireturn, 1) := by decide +kernel
theorem dX11_way_0 : decode cX11_way 0 = .ok (.iload_n 2, 1) := by decide +kernel
theorem dX11_way_1 : decode cX11_way 1 = .ok (.iload_n 3, 1) := by decide +kernel
theorem dX11_way_2 : decode cX11_way 2 = .ok (.if_icmp .eq 33, 3) := by decide +kernel
theorem dX11_way_5 : decode cX11_way 5 = .ok (.iload 4, 2) := by decide +kernel
theorem dX11_way_7 : decode cX11_way 7 = .ok (.i2l, 1) := by decide +kernel
theorem dX11_way_8 : decode cX11_way 8 = .ok (.lconst 1, 1) := by decide +kernel
theorem dX11_way_9 : decode cX11_way 9 = .ok (.ldc2_w 230, 3) := by decide +kernel
theorem dX11_way_12 : decode cX11_way 12 = .ok (.invokestatic 62, 3) := by decide +kernel
theorem dX11_way_15 : decode cX11_way 15 = .ok (.ifCond .eq 20, 3) := by decide +kernel
theorem dX11_way_18 : decode cX11_way 18 = .ok (.iload 5, 2) := by decide +kernel
theorem dX11_way_20 : decode cX11_way 20 = .ok (.i2l, 1) := by decide +kernel
theorem dX11_way_21 : decode cX11_way 21 = .ok (.lconst 0, 1) := by decide +kernel
theorem dX11_way_22 : decode cX11_way 22 = .ok (.ldc2_w 60, 3) := by decide +kernel
theorem dX11_way_25 : decode cX11_way 25 = .ok (.invokestatic 62, 3) := by decide +kernel
theorem dX11_way_28 : decode cX11_way 28 = .ok (.ifCond .eq 7, 3) := by decide +kernel
theorem dX11_way_31 : decode cX11_way 31 = .ok (.iconst 1, 1) := by decide +kernel
theorem dX11_way_32 : decode cX11_way 32 = .ok (.goto 4, 3) := by decide +kernel
theorem dX11_way_35 : decode cX11_way 35 = .ok (.iconst 0, 1) := by decide +kernel
theorem dX11_way_36 : decode cX11_way 36 = .ok (.istore 6, 2) := by decide +kernel
theorem dX11_way_38 : decode cX11_way 38 = .ok (.aload_n 0, 1) := by decide +kernel
theorem dX11_way_39 : decode cX11_way 39 = .ok (.iload_n 1, 1) := by decide +kernel
theorem dX11_way_40 : decode cX11_way 40 = .ok (.invokestatic 175, 3) := by decide +kernel
theorem dX11_way_43 : decode cX11_way 43 = .ok (.ifCond .eq 19, 3) := by decide +kernel
theorem dX11_way_46 : decode cX11_way 46 = .ok (.aload_n 0, 1) := by decide +kernel
theorem dX11_way_47 : decode cX11_way 47 = .ok (.iload_n 2, 1) := by decide +kernel
theorem dX11_way_48 : decode cX11_way 48 = .ok (.invokevirtual 208, 3) := by decide +kernel
theorem dX11_way_51 : decode cX11_way 51 = .ok (.ifCond .eq 11, 3) := by decide +kernel
theorem dX11_way_54 : decode cX11_way 54 = .ok (.aload_n 0, 1) := by decide +kernel
theorem dX11_way_55 : decode cX11_way 55 = .ok (.iload_n 3, 1) := by decide +kernel
theorem dX11_way_56 : decode cX11_way 56 = .ok (.invokevirtual 208, 3) := by decide +kernel
theorem dX11_way_59 : decode cX11_way 59 = .ok (.ifCond .ne 7, 3) := by decide +kernel
theorem dX11_way_62 : decode cX11_way 62 = .ok (.iconst 1, 1) := by decide +kernel
theorem dX11_way_63 : decode cX11_way 63 = .ok (.goto 13, 3) := by decide +kernel
theorem dX11_way_66 : decode cX11_way 66 = .ok (.iload 6, 2) := by decide +kernel
theorem dX11_way_68 : decode cX11_way 68 = .ok (.ifCond .ne 7, 3) := by decide +kernel
theorem dX11_way_71 : decode cX11_way 71 = .ok (.iconst 2, 1) := by decide +kernel
theorem dX11_way_72 : decode cX11_way 72 = .ok (.goto 4, 3) := by decide +kernel
theorem dX11_way_75 : decode cX11_way 75 = .ok (.iconst 0, 1) := by decide +kernel
theorem dX11_way_76 : decode cX11_way 76 = .ok (.invokevirtual 134, 3) := by decide +kernel
theorem dX11_way_79 : decode cX11_way 79 = .ok (.ifCond .eq 5, 3) := by decide +kernel
theorem dX11_way_82 : decode cX11_way 82 = .ok (.iconst 0, 1) := by decide +kernel
theorem dX11_way_83 : decode cX11_way 83 = .ok (.ireturn, 1) := by decide +kernel
theorem dX11_way_84 : decode cX11_way 84 = .ok (.aload_n 0, 1) := by decide +kernel
theorem dX11_way_85 : decode cX11_way 85 = .ok (.aload_n 0, 1) := by decide +kernel
theorem dX11_way_86 : decode cX11_way 86 = .ok (.getfield 16, 3) := by decide +kernel
theorem dX11_way_89 : decode cX11_way 89 = .ok (.iload_n 1, 1) := by decide +kernel
theorem dX11_way_90 : decode cX11_way 90 = .ok (.iload_n 2, 1) := by decide +kernel
theorem dX11_way_91 : decode cX11_way 91 = .ok (.iload_n 3, 1) := by decide +kernel
theorem dX11_way_92 : decode cX11_way 92 = .ok (.iload 4, 2) := by decide +kernel
theorem dX11_way_94 : decode cX11_way 94 = .ok (.invokevirtual 98, 3) := by decide +kernel
theorem dX11_way_97 : decode cX11_way 97 = .ok (.ifCond .ne 6, 3) := by decide +kernel
theorem dX11_way_100 : decode cX11_way 100 = .ok (.bipush (-9), 2) := by decide +kernel
theorem dX11_way_102 : decode cX11_way 102 = .ok (.ireturn, 1) := by decide +kernel
theorem dX11_way_103 : decode cX11_way 103 = .ok (.iload 5, 2) := by decide +kernel
theorem dX11_way_105 : decode cX11_way 105 = .ok (.ifCond .ne 10, 3) := by decide +kernel
theorem dX11_way_108 : decode cX11_way 108 = .ok (.aload_n 0, 1) := by decide +kernel
theorem dX11_way_109 : decode cX11_way 109 = .ok (.getfield 85, 3) := by decide +kernel
theorem dX11_way_112 : decode cX11_way 112 = .ok (.goto 35, 3) := by decide +kernel
theorem dX11_way_115 : decode cX11_way 115 = .ok (.iload 5, 2) := by decide +kernel
theorem dX11_way_117 : decode cX11_way 117 = .ok (.iconst 1, 1) := by decide +kernel
theorem dX11_way_118 : decode cX11_way 118 = .ok (.if_icmp .ne 10, 3) := by decide +kernel
theorem dX11_way_121 : decode cX11_way 121 = .ok (.aload_n 0, 1) := by decide +kernel
theorem dX11_way_122 : decode cX11_way 122 = .ok (.getfield 88, 3) := by decide +kernel
theorem dX11_way_125 : decode cX11_way 125 = .ok (.goto 22, 3) := by decide +kernel
theorem dX11_way_128 : decode cX11_way 128 = .ok (.iload 5, 2) := by decide +kernel
theorem dX11_way_130 : decode cX11_way 130 = .ok (.iconst 2, 1) := by decide +kernel
theorem dX11_way_131 : decode cX11_way 131 = .ok (.if_icmp .ne 10, 3) := by decide +kernel
theorem dX11_way_134 : decode cX11_way 134 = .ok (.aload_n 0, 1) := by decide +kernel
theorem dX11_way_135 : decode cX11_way 135 = .ok (.getfield 91, 3) := by decide +kernel
theorem dX11_way_138 : decode cX11_way 138 = .ok (.goto 9, 3) := by decide +kernel
theorem dX11_way_141 : decode cX11_way 141 = .ok (.aload_n 0, 1) := by decide +kernel
theorem dX11_way_142 : decode cX11_way 142 = .ok (.getfield 35, 3) := by decide +kernel
theorem dX11_way_145 : decode cX11_way 145 = .ok (.iconst 0, 1) := by decide +kernel
theorem dX11_way_146 : decode cX11_way 146 = .ok (.iaload, 1) := by decide +kernel
theorem dX11_way_147 : decode cX11_way 147 = .ok (.ireturn, 1) := by decide +kernel
theorem dX11_whyNot_0 : decode cX11_whyNot 0 = .ok (.aload_n 0, 1) := by decide +kernel
theorem dX11_whyNot_1 : decode cX11_whyNot 1 = .ok (.aload_n 0, 1) := by decide +kernel
theorem dX11_whyNot_2 : decode cX11_whyNot 2 = .ok (.getfield 16, 3) := by decide +kernel
theorem dX11_whyNot_5 : decode cX11_whyNot 5 = .ok (.iload_n 1, 1) := by decide +kernel
theorem dX11_whyNot_6 : decode cX11_whyNot 6 = .ok (.iload_n 2, 1) := by decide +kernel
theorem dX11_whyNot_7 : decode cX11_whyNot 7 = .ok (.invokestatic 217, 3) := by decide +kernel
theorem dX11_whyNot_10 : decode cX11_whyNot 10 = .ok (.ifCond .eq 7, 3) := by decide +kernel
theorem dX11_whyNot_13 : decode cX11_whyNot 13 = .ok (.iconst 0, 1) := by decide +kernel
theorem dX11_whyNot_14 : decode cX11_whyNot 14 = .ok (.goto 4, 3) := by decide +kernel
theorem dX11_whyNot_17 : decode cX11_whyNot 17 = .ok (.iconst 1, 1) := by decide +kernel
theorem dX11_whyNot_18 : decode cX11_whyNot 18 = .ok (.invokevirtual 134, 3) := by decide +kernel
theorem dX11_whyNot_21 : decode cX11_whyNot 21 = .ok (.ifCond .eq 7, 3) := by decide +kernel
theorem dX11_whyNot_24 : decode cX11_whyNot 24 = .ok (.iconst 0, 1) := by decide +kernel
theorem dX11_whyNot_25 : decode cX11_whyNot 25 = .ok (.goto 13, 3) := by decide +kernel
theorem dX11_whyNot_28 : decode cX11_whyNot 28 = .ok (.aload_n 0, 1) := by decide +kernel
theorem dX11_whyNot_29 : decode cX11_whyNot 29 = .ok (.aload_n 0, 1) := by decide +kernel
theorem dX11_whyNot_30 : decode cX11_whyNot 30 = .ok (.getfield 16, 3) := by decide +kernel
theorem dX11_whyNot_33 : decode cX11_whyNot 33 = .ok (.iload_n 1, 1) := by decide +kernel
theorem dX11_whyNot_34 : decode cX11_whyNot 34 = .ok (.iload_n 2, 1) := by decide +kernel
theorem dX11_whyNot_35 : decode cX11_whyNot 35 = .ok (.invokevirtual 220, 3) := by decide +kernel
theorem dX11_whyNot_38 : decode cX11_whyNot 38 = .ok (.ireturn, 1) := by decide +kernel
theorem dX11_levelFor_0 : decode cX11_levelFor 0 = .ok (.aload_n 0, 1) := by decide +kernel
theorem dX11_levelFor_1 : decode cX11_levelFor 1 = .ok (.iload_n 1, 1) := by decide +kernel
theorem dX11_levelFor_2 : decode cX11_levelFor 2 = .ok (.invokestatic 175, 3) := by decide +kernel
theorem dX11_levelFor_5 : decode cX11_levelFor 5 = .ok (.ifCond .eq 18, 3) := by decide +kernel
theorem dX11_levelFor_8 : decode cX11_levelFor 8 = .ok (.aload_n 0, 1) := by decide +kernel
theorem dX11_levelFor_9 : decode cX11_levelFor 9 = .ok (.getfield 16, 3) := by decide +kernel
theorem dX11_levelFor_12 : decode cX11_levelFor 12 = .ok (.iload_n 2, 1) := by decide +kernel
theorem dX11_levelFor_13 : decode cX11_levelFor 13 = .ok (.invokestatic 184, 3) := by decide +kernel
theorem dX11_levelFor_16 : decode cX11_levelFor 16 = .ok (.ifCond .eq 7, 3) := by decide +kernel
theorem dX11_levelFor_19 : decode cX11_levelFor 19 = .ok (.iconst 0, 1) := by decide +kernel
theorem dX11_levelFor_20 : decode cX11_levelFor 20 = .ok (.goto 4, 3) := by decide +kernel
theorem dX11_levelFor_23 : decode cX11_levelFor 23 = .ok (.iconst 1, 1) := by decide +kernel
theorem dX11_levelFor_24 : decode cX11_levelFor 24 = .ok (.invokevirtual 134, 3) := by decide +kernel
theorem dX11_levelFor_27 : decode cX11_levelFor 27 = .ok (.ifCond .eq 5, 3) := by decide +kernel
theorem dX11_levelFor_30 : decode cX11_levelFor 30 = .ok (.iconst 0, 1) := by decide +kernel
theorem dX11_levelFor_31 : decode cX11_levelFor 31 = .ok (.ireturn, 1) := by decide +kernel
theorem dX11_levelFor_32 : decode cX11_levelFor 32 = .ok (.iconst 1, 1) := by decide +kernel
theorem dX11_levelFor_33 : decode cX11_levelFor 33 = .ok (.istore_n 3, 1) := by decide +kernel
theorem dX11_levelFor_34 : decode cX11_levelFor 34 = .ok (.iload_n 3, 1) := by decide +kernel
theorem dX11_levelFor_35 : decode cX11_levelFor 35 = .ok (.bipush 6, 2) := by decide +kernel
theorem dX11_levelFor_37 : decode cX11_levelFor 37 = .ok (.if_icmp .gt 46, 3) := by decide +kernel
theorem dX11_levelFor_40 : decode cX11_levelFor 40 = .ok (.aload_n 0, 1) := by decide +kernel
theorem dX11_levelFor_41 : decode cX11_levelFor 41 = .ok (.aload_n 0, 1) := by decide +kernel
theorem dX11_levelFor_42 : decode cX11_levelFor 42 = .ok (.getfield 16, 3) := by decide +kernel
theorem dX11_levelFor_45 : decode cX11_levelFor 45 = .ok (.iload_n 1, 1) := by decide +kernel
theorem dX11_levelFor_46 : decode cX11_levelFor 46 = .ok (.aload_n 0, 1) := by decide +kernel
theorem dX11_levelFor_47 : decode cX11_levelFor 47 = .ok (.getfield 16, 3) := by decide +kernel
theorem dX11_levelFor_50 : decode cX11_levelFor 50 = .ok (.iload_n 2, 1) := by decide +kernel
theorem dX11_levelFor_51 : decode cX11_levelFor 51 = .ok (.invokestatic 57, 3) := by decide +kernel
theorem dX11_levelFor_54 : decode cX11_levelFor 54 = .ok (.iaload, 1) := by decide +kernel
theorem dX11_levelFor_55 : decode cX11_levelFor 55 = .ok (.aload_n 0, 1) := by decide +kernel
theorem dX11_levelFor_56 : decode cX11_levelFor 56 = .ok (.getfield 16, 3) := by decide +kernel
theorem dX11_levelFor_59 : decode cX11_levelFor 59 = .ok (.iload_n 2, 1) := by decide +kernel
theorem dX11_levelFor_60 : decode cX11_levelFor 60 = .ok (.invokestatic 57, 3) := by decide +kernel
theorem dX11_levelFor_63 : decode cX11_levelFor 63 = .ok (.iconst 1, 1) := by decide +kernel
theorem dX11_levelFor_64 : decode cX11_levelFor 64 = .ok (.iadd, 1) := by decide +kernel
theorem dX11_levelFor_65 : decode cX11_levelFor 65 = .ok (.iaload, 1) := by decide +kernel
theorem dX11_levelFor_66 : decode cX11_levelFor 66 = .ok (.iconst 4, 1) := by decide +kernel
theorem dX11_levelFor_67 : decode cX11_levelFor 67 = .ok (.iload_n 3, 1) := by decide +kernel
theorem dX11_levelFor_68 : decode cX11_levelFor 68 = .ok (.imul, 1) := by decide +kernel
theorem dX11_levelFor_69 : decode cX11_levelFor 69 = .ok (.invokevirtual 98, 3) := by decide +kernel
theorem dX11_levelFor_72 : decode cX11_levelFor 72 = .ok (.ifCond .eq 5, 3) := by decide +kernel
theorem dX11_levelFor_75 : decode cX11_levelFor 75 = .ok (.iload_n 3, 1) := by decide +kernel
theorem dX11_levelFor_76 : decode cX11_levelFor 76 = .ok (.ireturn, 1) := by decide +kernel
theorem dX11_levelFor_77 : decode cX11_levelFor 77 = .ok (.iinc 3 1, 3) := by decide +kernel
theorem dX11_levelFor_80 : decode cX11_levelFor 80 = .ok (.goto (-46), 3) := by decide +kernel
theorem dX11_levelFor_83 : decode cX11_levelFor 83 = .ok (.bipush (-9), 2) := by decide +kernel
theorem dX11_levelFor_85 : decode cX11_levelFor 85 = .ok (.ireturn, 1) := by decide +kernel
theorem dX11_bestContract_0 : decode cX11_bestContract 0 = .ok (.aload_n 0, 1) := by decide +kernel
theorem dX11_bestContract_1 : decode cX11_bestContract 1 = .ok (.iload_n 1, 1) := by decide +kernel
theorem dX11_bestContract_2 : decode cX11_bestContract 2 = .ok (.invokestatic 175, 3) := by decide +kernel
theorem dX11_bestContract_5 : decode cX11_bestContract 5 = .ok (.ifCond .eq 7, 3) := by decide +kernel
theorem dX11_bestContract_8 : decode cX11_bestContract 8 = .ok (.iconst 0, 1) := by decide +kernel
theorem dX11_bestContract_9 : decode cX11_bestContract 9 = .ok (.goto 4, 3) := by decide +kernel
theorem dX11_bestContract_12 : decode cX11_bestContract 12 = .ok (.iconst 1, 1) := by decide +kernel
theorem dX11_bestContract_13 : decode cX11_bestContract 13 = .ok (.invokevirtual 134, 3) := by decide +kernel
theorem dX11_bestContract_16 : decode cX11_bestContract 16 = .ok (.ifCond .eq 5, 3) := by decide +kernel
theorem dX11_bestContract_19 : decode cX11_bestContract 19 = .ok (.iconst 0, 1) := by decide +kernel
theorem dX11_bestContract_20 : decode cX11_bestContract 20 = .ok (.ireturn, 1) := by decide +kernel
theorem dX11_bestContract_21 : decode cX11_bestContract 21 = .ok (.iconst 0, 1) := by decide +kernel
theorem dX11_bestContract_22 : decode cX11_bestContract 22 = .ok (.istore_n 2, 1) := by decide +kernel
theorem dX11_bestContract_23 : decode cX11_bestContract 23 = .ok (.iconst 0, 1) := by decide +kernel
theorem dX11_bestContract_24 : decode cX11_bestContract 24 = .ok (.istore_n 3, 1) := by decide +kernel
theorem dX11_bestContract_25 : decode cX11_bestContract 25 = .ok (.iload_n 3, 1) := by decide +kernel
theorem dX11_bestContract_26 : decode cX11_bestContract 26 = .ok (.aload_n 0, 1) := by decide +kernel
theorem dX11_bestContract_27 : decode cX11_bestContract 27 = .ok (.getfield 16, 3) := by decide +kernel
theorem dX11_bestContract_30 : decode cX11_bestContract 30 = .ok (.iload_n 1, 1) := by decide +kernel
theorem dX11_bestContract_31 : decode cX11_bestContract 31 = .ok (.invokestatic 66, 3) := by decide +kernel
theorem dX11_bestContract_34 : decode cX11_bestContract 34 = .ok (.if_icmp .ge 38, 3) := by decide +kernel
theorem dX11_bestContract_37 : decode cX11_bestContract 37 = .ok (.aload_n 0, 1) := by decide +kernel
theorem dX11_bestContract_38 : decode cX11_bestContract 38 = .ok (.getfield 16, 3) := by decide +kernel
theorem dX11_bestContract_41 : decode cX11_bestContract 41 = .ok (.iload_n 1, 1) := by decide +kernel
theorem dX11_bestContract_42 : decode cX11_bestContract 42 = .ok (.iload_n 3, 1) := by decide +kernel
theorem dX11_bestContract_43 : decode cX11_bestContract 43 = .ok (.invokestatic 94, 3) := by decide +kernel
theorem dX11_bestContract_46 : decode cX11_bestContract 46 = .ok (.iaload, 1) := by decide +kernel
theorem dX11_bestContract_47 : decode cX11_bestContract 47 = .ok (.iload_n 2, 1) := by decide +kernel
theorem dX11_bestContract_48 : decode cX11_bestContract 48 = .ok (.if_icmp .le 16, 3) := by decide +kernel
theorem dX11_bestContract_51 : decode cX11_bestContract 51 = .ok (.aload_n 0, 1) := by decide +kernel
theorem dX11_bestContract_52 : decode cX11_bestContract 52 = .ok (.getfield 16, 3) := by decide +kernel
theorem dX11_bestContract_55 : decode cX11_bestContract 55 = .ok (.iload_n 1, 1) := by decide +kernel
theorem dX11_bestContract_56 : decode cX11_bestContract 56 = .ok (.iload_n 3, 1) := by decide +kernel
theorem dX11_bestContract_57 : decode cX11_bestContract 57 = .ok (.invokestatic 94, 3) := by decide +kernel
theorem dX11_bestContract_60 : decode cX11_bestContract 60 = .ok (.iaload, 1) := by decide +kernel
theorem dX11_bestContract_61 : decode cX11_bestContract 61 = .ok (.goto 4, 3) := by decide +kernel
theorem dX11_bestContract_64 : decode cX11_bestContract 64 = .ok (.iload_n 2, 1) := by decide +kernel
theorem dX11_bestContract_65 : decode cX11_bestContract 65 = .ok (.istore_n 2, 1) := by decide +kernel
theorem dX11_bestContract_66 : decode cX11_bestContract 66 = .ok (.iinc 3 1, 3) := by decide +kernel
theorem dX11_bestContract_69 : decode cX11_bestContract 69 = .ok (.goto (-44), 3) := by decide +kernel
theorem dX11_bestContract_72 : decode cX11_bestContract 72 = .ok (.bipush (-9), 2) := by decide +kernel
theorem dX11_bestContract_74 : decode cX11_bestContract 74 = .ok (.istore_n 3, 1) := by decide +kernel
theorem dX11_bestContract_75 : decode cX11_bestContract 75 = .ok (.iconst 0, 1) := by decide +kernel
theorem dX11_bestContract_76 : decode cX11_bestContract 76 = .ok (.istore 4, 2) := by decide +kernel
theorem dX11_bestContract_78 : decode cX11_bestContract 78 = .ok (.iconst 0, 1) := by decide +kernel
theorem dX11_bestContract_79 : decode cX11_bestContract 79 = .ok (.istore 5, 2) := by decide +kernel
theorem dX11_bestContract_81 : decode cX11_bestContract 81 = .ok (.iload 5, 2) := by decide +kernel
theorem dX11_bestContract_83 : decode cX11_bestContract 83 = .ok (.aload_n 0, 1) := by decide +kernel
theorem dX11_bestContract_84 : decode cX11_bestContract 84 = .ok (.getfield 16, 3) := by decide +kernel
theorem dX11_bestContract_87 : decode cX11_bestContract 87 = .ok (.iconst 2, 1) := by decide +kernel
theorem dX11_bestContract_88 : decode cX11_bestContract 88 = .ok (.iaload, 1) := by decide +kernel
theorem dX11_bestContract_89 : decode cX11_bestContract 89 = .ok (.if_icmp .ge 127, 3) := by decide +kernel
theorem dX11_bestContract_92 : decode cX11_bestContract 92 = .ok (.iload_n 2, 1) := by decide +kernel
theorem dX11_bestContract_93 : decode cX11_bestContract 93 = .ok (.ifCond .le 123, 3) := by decide +kernel
theorem dX11_bestContract_96 : decode cX11_bestContract 96 = .ok (.iload 5, 2) := by decide +kernel
theorem dX11_bestContract_98 : decode cX11_bestContract 98 = .ok (.invokestatic 57, 3) := by decide +kernel
theorem dX11_bestContract_101 : decode cX11_bestContract 101 = .ok (.istore 6, 2) := by decide +kernel
theorem dX11_bestContract_103 : decode cX11_bestContract 103 = .ok (.aload_n 0, 1) := by decide +kernel
theorem dX11_bestContract_104 : decode cX11_bestContract 104 = .ok (.getfield 16, 3) := by decide +kernel
theorem dX11_bestContract_107 : decode cX11_bestContract 107 = .ok (.iload 6, 2) := by decide +kernel
theorem dX11_bestContract_109 : decode cX11_bestContract 109 = .ok (.iconst 4, 1) := by decide +kernel
theorem dX11_bestContract_110 : decode cX11_bestContract 110 = .ok (.iadd, 1) := by decide +kernel
theorem dX11_bestContract_111 : decode cX11_bestContract 111 = .ok (.iaload, 1) := by decide +kernel
theorem dX11_bestContract_112 : decode cX11_bestContract 112 = .ok (.bipush (-9), 2) := by decide +kernel
theorem dX11_bestContract_114 : decode cX11_bestContract 114 = .ok (.if_icmp .ne 96, 3) := by decide +kernel
theorem dX11_bestContract_117 : decode cX11_bestContract 117 = .ok (.aload_n 0, 1) := by decide +kernel
theorem dX11_bestContract_118 : decode cX11_bestContract 118 = .ok (.aload_n 0, 1) := by decide +kernel
theorem dX11_bestContract_119 : decode cX11_bestContract 119 = .ok (.getfield 16, 3) := by decide +kernel
theorem dX11_bestContract_122 : decode cX11_bestContract 122 = .ok (.iload_n 1, 1) := by decide +kernel
theorem dX11_bestContract_123 : decode cX11_bestContract 123 = .ok (.aload_n 0, 1) := by decide +kernel
theorem dX11_bestContract_124 : decode cX11_bestContract 124 = .ok (.getfield 16, 3) := by decide +kernel
theorem dX11_bestContract_127 : decode cX11_bestContract 127 = .ok (.iload 6, 2) := by decide +kernel
theorem dX11_bestContract_129 : decode cX11_bestContract 129 = .ok (.iaload, 1) := by decide +kernel
theorem dX11_bestContract_130 : decode cX11_bestContract 130 = .ok (.aload_n 0, 1) := by decide +kernel
theorem dX11_bestContract_131 : decode cX11_bestContract 131 = .ok (.getfield 16, 3) := by decide +kernel
theorem dX11_bestContract_134 : decode cX11_bestContract 134 = .ok (.iload 6, 2) := by decide +kernel
theorem dX11_bestContract_136 : decode cX11_bestContract 136 = .ok (.iconst 1, 1) := by decide +kernel
theorem dX11_bestContract_137 : decode cX11_bestContract 137 = .ok (.iadd, 1) := by decide +kernel
theorem dX11_bestContract_138 : decode cX11_bestContract 138 = .ok (.iaload, 1) := by decide +kernel
theorem dX11_bestContract_139 : decode cX11_bestContract 139 = .ok (.iconst 4, 1) := by decide +kernel
theorem dX11_bestContract_140 : decode cX11_bestContract 140 = .ok (.iload_n 2, 1) := by decide +kernel
theorem dX11_bestContract_141 : decode cX11_bestContract 141 = .ok (.imul, 1) := by decide +kernel
theorem dX11_bestContract_142 : decode cX11_bestContract 142 = .ok (.invokevirtual 98, 3) := by decide +kernel
theorem dX11_bestContract_145 : decode cX11_bestContract 145 = .ok (.ifCond .eq 65, 3) := by decide +kernel
theorem dX11_bestContract_148 : decode cX11_bestContract 148 = .ok (.aload_n 0, 1) := by decide +kernel
theorem dX11_bestContract_149 : decode cX11_bestContract 149 = .ok (.getfield 16, 3) := by decide +kernel
theorem dX11_bestContract_152 : decode cX11_bestContract 152 = .ok (.iload 6, 2) := by decide +kernel
theorem dX11_bestContract_154 : decode cX11_bestContract 154 = .ok (.iconst 2, 1) := by decide +kernel
theorem dX11_bestContract_155 : decode cX11_bestContract 155 = .ok (.iadd, 1) := by decide +kernel
theorem dX11_bestContract_156 : decode cX11_bestContract 156 = .ok (.iaload, 1) := by decide +kernel
theorem dX11_bestContract_157 : decode cX11_bestContract 157 = .ok (.aload_n 0, 1) := by decide +kernel
theorem dX11_bestContract_158 : decode cX11_bestContract 158 = .ok (.getfield 85, 3) := by decide +kernel
theorem dX11_bestContract_161 : decode cX11_bestContract 161 = .ok (.isub, 1) := by decide +kernel
theorem dX11_bestContract_162 : decode cX11_bestContract 162 = .ok (.istore 7, 2) := by decide +kernel
theorem dX11_bestContract_164 : decode cX11_bestContract 164 = .ok (.iload_n 3, 1) := by decide +kernel
theorem dX11_bestContract_165 : decode cX11_bestContract 165 = .ok (.bipush (-9), 2) := by decide +kernel
theorem dX11_bestContract_167 : decode cX11_bestContract 167 = .ok (.if_icmp .eq 10, 3) := by decide +kernel
theorem dX11_bestContract_170 : decode cX11_bestContract 170 = .ok (.iload 7, 2) := by decide +kernel
theorem dX11_bestContract_172 : decode cX11_bestContract 172 = .ok (.iload 4, 2) := by decide +kernel
theorem dX11_bestContract_174 : decode cX11_bestContract 174 = .ok (.if_icmp .le 7, 3) := by decide +kernel
theorem dX11_bestContract_177 : decode cX11_bestContract 177 = .ok (.iconst 1, 1) := by decide +kernel
theorem dX11_bestContract_178 : decode cX11_bestContract 178 = .ok (.goto 4, 3) := by decide +kernel
theorem dX11_bestContract_181 : decode cX11_bestContract 181 = .ok (.iconst 0, 1) := by decide +kernel
theorem dX11_bestContract_182 : decode cX11_bestContract 182 = .ok (.istore 8, 2) := by decide +kernel
theorem dX11_bestContract_184 : decode cX11_bestContract 184 = .ok (.iload 8, 2) := by decide +kernel
theorem dX11_bestContract_186 : decode cX11_bestContract 186 = .ok (.ifCond .eq 8, 3) := by decide +kernel
theorem dX11_bestContract_189 : decode cX11_bestContract 189 = .ok (.iload 5, 2) := by decide +kernel
theorem dX11_bestContract_191 : decode cX11_bestContract 191 = .ok (.goto 4, 3) := by decide +kernel
theorem dX11_bestContract_194 : decode cX11_bestContract 194 = .ok (.iload_n 3, 1) := by decide +kernel
theorem dX11_bestContract_195 : decode cX11_bestContract 195 = .ok (.istore_n 3, 1) := by decide +kernel
theorem dX11_bestContract_196 : decode cX11_bestContract 196 = .ok (.iload 8, 2) := by decide +kernel
theorem dX11_bestContract_198 : decode cX11_bestContract 198 = .ok (.ifCond .eq 8, 3) := by decide +kernel
theorem dX11_bestContract_201 : decode cX11_bestContract 201 = .ok (.iload 7, 2) := by decide +kernel
theorem dX11_bestContract_203 : decode cX11_bestContract 203 = .ok (.goto 5, 3) := by decide +kernel
theorem dX11_bestContract_206 : decode cX11_bestContract 206 = .ok (.iload 4, 2) := by decide +kernel
theorem dX11_bestContract_208 : decode cX11_bestContract 208 = .ok (.istore 4, 2) := by decide +kernel
theorem dX11_bestContract_210 : decode cX11_bestContract 210 = .ok (.iinc 5 1, 3) := by decide +kernel
theorem dX11_bestContract_213 : decode cX11_bestContract 213 = .ok (.goto (-132), 3) := by decide +kernel
theorem dX11_bestContract_216 : decode cX11_bestContract 216 = .ok (.iload_n 3, 1) := by decide +kernel
theorem dX11_bestContract_217 : decode cX11_bestContract 217 = .ok (.ireturn, 1) := by decide +kernel
theorem dX11_coinsAfter_0 : decode cX11_coinsAfter 0 = .ok (.aload_n 0, 1) := by decide +kernel
theorem dX11_coinsAfter_1 : decode cX11_coinsAfter 1 = .ok (.iload_n 1, 1) := by decide +kernel
theorem dX11_coinsAfter_2 : decode cX11_coinsAfter 2 = .ok (.invokestatic 175, 3) := by decide +kernel
theorem dX11_coinsAfter_5 : decode cX11_coinsAfter 5 = .ok (.ifCond .ne 7, 3) := by decide +kernel
theorem dX11_coinsAfter_8 : decode cX11_coinsAfter 8 = .ok (.iconst 1, 1) := by decide +kernel
theorem dX11_coinsAfter_9 : decode cX11_coinsAfter 9 = .ok (.goto 20, 3) := by decide +kernel
theorem dX11_coinsAfter_12 : decode cX11_coinsAfter 12 = .ok (.iload_n 2, 1) := by decide +kernel
theorem dX11_coinsAfter_13 : decode cX11_coinsAfter 13 = .ok (.i2l, 1) := by decide +kernel
theorem dX11_coinsAfter_14 : decode cX11_coinsAfter 14 = .ok (.lconst 0, 1) := by decide +kernel
theorem dX11_coinsAfter_15 : decode cX11_coinsAfter 15 = .ok (.ldc2_w 232, 3) := by decide +kernel
theorem dX11_coinsAfter_18 : decode cX11_coinsAfter 18 = .ok (.invokestatic 62, 3) := by decide +kernel
theorem dX11_coinsAfter_21 : decode cX11_coinsAfter 21 = .ok (.ifCond .ne 7, 3) := by decide +kernel
theorem dX11_coinsAfter_24 : decode cX11_coinsAfter 24 = .ok (.iconst 2, 1) := by decide +kernel
theorem dX11_coinsAfter_25 : decode cX11_coinsAfter 25 = .ok (.goto 4, 3) := by decide +kernel
theorem dX11_coinsAfter_28 : decode cX11_coinsAfter 28 = .ok (.iconst 0, 1) := by decide +kernel
theorem dX11_coinsAfter_29 : decode cX11_coinsAfter 29 = .ok (.invokevirtual 134, 3) := by decide +kernel
theorem dX11_coinsAfter_32 : decode cX11_coinsAfter 32 = .ok (.ifCond .eq 5, 3) := by decide +kernel
theorem dX11_coinsAfter_35 : decode cX11_coinsAfter 35 = .ok (.iconst 0, 1) := by decide +kernel
theorem dX11_coinsAfter_36 : decode cX11_coinsAfter 36 = .ok (.ireturn, 1) := by decide +kernel
theorem dX11_coinsAfter_37 : decode cX11_coinsAfter 37 = .ok (.aload_n 0, 1) := by decide +kernel
theorem dX11_coinsAfter_38 : decode cX11_coinsAfter 38 = .ok (.getfield 16, 3) := by decide +kernel
theorem dX11_coinsAfter_41 : decode cX11_coinsAfter 41 = .ok (.iconst 0, 1) := by decide +kernel
theorem dX11_coinsAfter_42 : decode cX11_coinsAfter 42 = .ok (.aload_n 0, 1) := by decide +kernel
theorem dX11_coinsAfter_43 : decode cX11_coinsAfter 43 = .ok (.getfield 19, 3) := by decide +kernel
theorem dX11_coinsAfter_46 : decode cX11_coinsAfter 46 = .ok (.iconst 0, 1) := by decide +kernel
theorem dX11_coinsAfter_47 : decode cX11_coinsAfter 47 = .ok (.invokestatic 162, 3) := by decide +kernel
theorem dX11_coinsAfter_50 : decode cX11_coinsAfter 50 = .ok (.iconst 0, 1) := by decide +kernel
theorem dX11_coinsAfter_51 : decode cX11_coinsAfter 51 = .ok (.istore_n 3, 1) := by decide +kernel
theorem dX11_coinsAfter_52 : decode cX11_coinsAfter 52 = .ok (.iload_n 3, 1) := by decide +kernel
theorem dX11_coinsAfter_53 : decode cX11_coinsAfter 53 = .ok (.iload_n 2, 1) := by decide +kernel
theorem dX11_coinsAfter_54 : decode cX11_coinsAfter 54 = .ok (.if_icmp .ge 17, 3) := by decide +kernel
theorem dX11_coinsAfter_57 : decode cX11_coinsAfter 57 = .ok (.aload_n 0, 1) := by decide +kernel
theorem dX11_coinsAfter_58 : decode cX11_coinsAfter 58 = .ok (.getfield 19, 3) := by decide +kernel
theorem dX11_coinsAfter_61 : decode cX11_coinsAfter 61 = .ok (.invokestatic 226, 3) := by decide +kernel
theorem dX11_coinsAfter_64 : decode cX11_coinsAfter 64 = .ok (.pop, 1) := by decide +kernel
theorem dX11_coinsAfter_65 : decode cX11_coinsAfter 65 = .ok (.iinc 3 1, 3) := by decide +kernel
theorem dX11_coinsAfter_68 : decode cX11_coinsAfter 68 = .ok (.goto (-16), 3) := by decide +kernel
theorem dX11_coinsAfter_71 : decode cX11_coinsAfter 71 = .ok (.aload_n 0, 1) := by decide +kernel
theorem dX11_coinsAfter_72 : decode cX11_coinsAfter 72 = .ok (.getfield 19, 3) := by decide +kernel
theorem dX11_coinsAfter_75 : decode cX11_coinsAfter 75 = .ok (.iload_n 1, 1) := by decide +kernel
theorem dX11_coinsAfter_76 : decode cX11_coinsAfter 76 = .ok (.invokestatic 50, 3) := by decide +kernel
theorem dX11_coinsAfter_79 : decode cX11_coinsAfter 79 = .ok (.iaload, 1) := by decide +kernel
theorem dX11_coinsAfter_80 : decode cX11_coinsAfter 80 = .ok (.ireturn, 1) := by decide +kernel
theorem dX11_bankruptAfter_0 : decode cX11_bankruptAfter 0 = .ok (.aload_n 0, 1) := by decide +kernel
theorem dX11_bankruptAfter_1 : decode cX11_bankruptAfter 1 = .ok (.iload_n 1, 1) := by decide +kernel
theorem dX11_bankruptAfter_2 : decode cX11_bankruptAfter 2 = .ok (.invokestatic 175, 3) := by decide +kernel
theorem dX11_bankruptAfter_5 : decode cX11_bankruptAfter 5 = .ok (.ifCond .eq 7, 3) := by decide +kernel
theorem dX11_bankruptAfter_8 : decode cX11_bankruptAfter 8 = .ok (.iconst 0, 1) := by decide +kernel
theorem dX11_bankruptAfter_9 : decode cX11_bankruptAfter 9 = .ok (.goto 4, 3) := by decide +kernel
theorem dX11_bankruptAfter_12 : decode cX11_bankruptAfter 12 = .ok (.iconst 1, 1) := by decide +kernel
theorem dX11_bankruptAfter_13 : decode cX11_bankruptAfter 13 = .ok (.invokevirtual 134, 3) := by decide +kernel
theorem dX11_bankruptAfter_16 : decode cX11_bankruptAfter 16 = .ok (.ifCond .eq 5, 3) := by decide +kernel
theorem dX11_bankruptAfter_19 : decode cX11_bankruptAfter 19 = .ok (.iconst 0, 1) := by decide +kernel
theorem dX11_bankruptAfter_20 : decode cX11_bankruptAfter 20 = .ok (.ireturn, 1) := by decide +kernel
theorem dX11_bankruptAfter_21 : decode cX11_bankruptAfter 21 = .ok (.aload_n 0, 1) := by decide +kernel
theorem dX11_bankruptAfter_22 : decode cX11_bankruptAfter 22 = .ok (.getfield 16, 3) := by decide +kernel
theorem dX11_bankruptAfter_25 : decode cX11_bankruptAfter 25 = .ok (.iconst 0, 1) := by decide +kernel
theorem dX11_bankruptAfter_26 : decode cX11_bankruptAfter 26 = .ok (.aload_n 0, 1) := by decide +kernel
theorem dX11_bankruptAfter_27 : decode cX11_bankruptAfter 27 = .ok (.getfield 19, 3) := by decide +kernel
theorem dX11_bankruptAfter_30 : decode cX11_bankruptAfter 30 = .ok (.iconst 0, 1) := by decide +kernel
theorem dX11_bankruptAfter_31 : decode cX11_bankruptAfter 31 = .ok (.invokestatic 162, 3) := by decide +kernel
theorem dX11_bankruptAfter_34 : decode cX11_bankruptAfter 34 = .ok (.iconst 1, 1) := by decide +kernel
theorem dX11_bankruptAfter_35 : decode cX11_bankruptAfter 35 = .ok (.istore_n 2, 1) := by decide +kernel
theorem dX11_bankruptAfter_36 : decode cX11_bankruptAfter 36 = .ok (.iload_n 2, 1) := by decide +kernel
theorem dX11_bankruptAfter_37 : decode cX11_bankruptAfter 37 = .ok (.bipush 50, 2) := by decide +kernel
theorem dX11_bankruptAfter_39 : decode cX11_bankruptAfter 39 = .ok (.if_icmp .gt 26, 3) := by decide +kernel
theorem dX11_bankruptAfter_42 : decode cX11_bankruptAfter 42 = .ok (.aload_n 0, 1) := by decide +kernel
theorem dX11_bankruptAfter_43 : decode cX11_bankruptAfter 43 = .ok (.getfield 19, 3) := by decide +kernel
theorem dX11_bankruptAfter_46 : decode cX11_bankruptAfter 46 = .ok (.invokestatic 226, 3) := by decide +kernel
theorem dX11_bankruptAfter_49 : decode cX11_bankruptAfter 49 = .ok (.iload_n 1, 1) := by decide +kernel
theorem dX11_bankruptAfter_50 : decode cX11_bankruptAfter 50 = .ok (.ishr, 1) := by decide +kernel
theorem dX11_bankruptAfter_51 : decode cX11_bankruptAfter 51 = .ok (.iconst 1, 1) := by decide +kernel
theorem dX11_bankruptAfter_52 : decode cX11_bankruptAfter 52 = .ok (.iand, 1) := by decide +kernel
theorem dX11_bankruptAfter_53 : decode cX11_bankruptAfter 53 = .ok (.iconst 1, 1) := by decide +kernel
theorem dX11_bankruptAfter_54 : decode cX11_bankruptAfter 54 = .ok (.if_icmp .ne 5, 3) := by decide +kernel
theorem dX11_bankruptAfter_57 : decode cX11_bankruptAfter 57 = .ok (.iload_n 2, 1) := by decide +kernel
theorem dX11_bankruptAfter_58 : decode cX11_bankruptAfter 58 = .ok (.ireturn, 1) := by decide +kernel
theorem dX11_bankruptAfter_59 : decode cX11_bankruptAfter 59 = .ok (.iinc 2 1, 3) := by decide +kernel
theorem dX11_bankruptAfter_62 : decode cX11_bankruptAfter 62 = .ok (.goto (-26), 3) := by decide +kernel
theorem dX11_bankruptAfter_65 : decode cX11_bankruptAfter 65 = .ok (.bipush (-9), 2) := by decide +kernel
theorem dX11_bankruptAfter_67 : decode cX11_bankruptAfter 67 = .ok (.ireturn, 1) := by decide +kernel
theorem dX11_worth_0 : decode cX11_worth 0 = .ok (.aload_n 0, 1) := by decide +kernel
theorem dX11_worth_1 : decode cX11_worth 1 = .ok (.iload_n 1, 1) := by decide +kernel
theorem dX11_worth_2 : decode cX11_worth 2 = .ok (.invokestatic 175, 3) := by decide +kernel
theorem dX11_worth_5 : decode cX11_worth 5 = .ok (.ifCond .eq 7, 3) := by decide +kernel
theorem dX11_worth_8 : decode cX11_worth 8 = .ok (.iconst 0, 1) := by decide +kernel
theorem dX11_worth_9 : decode cX11_worth 9 = .ok (.goto 4, 3) := by decide +kernel
theorem dX11_worth_12 : decode cX11_worth 12 = .ok (.iconst 1, 1) := by decide +kernel
theorem dX11_worth_13 : decode cX11_worth 13 = .ok (.invokevirtual 134, 3) := by decide +kernel
theorem dX11_worth_16 : decode cX11_worth 16 = .ok (.ifCond .eq 7, 3) := by decide +kernel
theorem dX11_worth_19 : decode cX11_worth 19 = .ok (.iconst 0, 1) := by decide +kernel
theorem dX11_worth_20 : decode cX11_worth 20 = .ok (.goto 11, 3) := by decide +kernel
theorem dX11_worth_23 : decode cX11_worth 23 = .ok (.aload_n 0, 1) := by decide +kernel
theorem dX11_worth_24 : decode cX11_worth 24 = .ok (.getfield 16, 3) := by decide +kernel
theorem dX11_worth_27 : decode cX11_worth 27 = .ok (.iload_n 1, 1) := by decide +kernel
theorem dX11_worth_28 : decode cX11_worth 28 = .ok (.invokestatic 234, 3) := by decide +kernel
theorem dX11_worth_31 : decode cX11_worth 31 = .ok (.ireturn, 1) := by decide +kernel
theorem dX11_does_0 : decode cX11_does 0 = .ok (.iload_n 3, 1) := by decide +kernel
theorem dX11_does_1 : decode cX11_does 1 = .ok (.bipush 100, 2) := by decide +kernel
theorem dX11_does_3 : decode cX11_does 3 = .ok (.if_icmp .ge 7, 3) := by decide +kernel
theorem dX11_does_6 : decode cX11_does 6 = .ok (.iconst 1, 1) := by decide +kernel
theorem dX11_does_7 : decode cX11_does 7 = .ok (.goto 4, 3) := by decide +kernel
theorem dX11_does_10 : decode cX11_does 10 = .ok (.iconst 0, 1) := by decide +kernel
theorem dX11_does_11 : decode cX11_does 11 = .ok (.istore 4, 2) := by decide +kernel
theorem dX11_does_13 : decode cX11_does 13 = .ok (.iload_n 2, 1) := by decide +kernel
theorem dX11_does_14 : decode cX11_does 14 = .ok (.invokestatic 175, 3) := by decide +kernel
theorem dX11_does_17 : decode cX11_does 17 = .ok (.istore 5, 2) := by decide +kernel
theorem dX11_does_19 : decode cX11_does 19 = .ok (.iload_n 1, 1) := by decide +kernel
theorem dX11_does_20 : decode cX11_does 20 = .ok (.tableswitch 371 1 9 #[52, 99, 146, 173, 218, 268, 292, 316, 342], 52) := by decide +kernel
theorem dX11_does_72 : decode cX11_does 72 = .ok (.iload 5, 2) := by decide +kernel
theorem dX11_does_74 : decode cX11_does 74 = .ok (.ifCond .eq 31, 3) := by decide +kernel
theorem dX11_does_77 : decode cX11_does 77 = .ok (.iload 4, 2) := by decide +kernel
theorem dX11_does_79 : decode cX11_does 79 = .ok (.ifCond .eq 26, 3) := by decide +kernel
theorem dX11_does_82 : decode cX11_does 82 = .ok (.aload_n 0, 1) := by decide +kernel
theorem dX11_does_83 : decode cX11_does 83 = .ok (.getfield 19, 3) := by decide +kernel
theorem dX11_does_86 : decode cX11_does 86 = .ok (.iload_n 3, 1) := by decide +kernel
theorem dX11_does_87 : decode cX11_does 87 = .ok (.invokestatic 171, 3) := by decide +kernel
theorem dX11_does_90 : decode cX11_does 90 = .ok (.ifCond .eq 15, 3) := by decide +kernel
theorem dX11_does_93 : decode cX11_does 93 = .ok (.aload_n 0, 1) := by decide +kernel
theorem dX11_does_94 : decode cX11_does 94 = .ok (.getfield 19, 3) := by decide +kernel
theorem dX11_does_97 : decode cX11_does 97 = .ok (.iload_n 2, 1) := by decide +kernel
theorem dX11_does_98 : decode cX11_does 98 = .ok (.iload_n 3, 1) := by decide +kernel
theorem dX11_does_99 : decode cX11_does 99 = .ok (.invokestatic 189, 3) := by decide +kernel
theorem dX11_does_102 : decode cX11_does 102 = .ok (.ifCond .ne 5, 3) := by decide +kernel
theorem dX11_does_105 : decode cX11_does 105 = .ok (.iconst 0, 1) := by decide +kernel
theorem dX11_does_106 : decode cX11_does 106 = .ok (.ireturn, 1) := by decide +kernel
theorem dX11_does_107 : decode cX11_does 107 = .ok (.aload_n 0, 1) := by decide +kernel
theorem dX11_does_108 : decode cX11_does 108 = .ok (.getfield 19, 3) := by decide +kernel
theorem dX11_does_111 : decode cX11_does 111 = .ok (.iload_n 2, 1) := by decide +kernel
theorem dX11_does_112 : decode cX11_does 112 = .ok (.iload_n 3, 1) := by decide +kernel
theorem dX11_does_113 : decode cX11_does 113 = .ok (.invokestatic 195, 3) := by decide +kernel
theorem dX11_does_116 : decode cX11_does 116 = .ok (.pop, 1) := by decide +kernel
theorem dX11_does_117 : decode cX11_does 117 = .ok (.iconst 1, 1) := by decide +kernel
theorem dX11_does_118 : decode cX11_does 118 = .ok (.ireturn, 1) := by decide +kernel
theorem dX11_does_119 : decode cX11_does 119 = .ok (.iload 5, 2) := by decide +kernel
theorem dX11_does_121 : decode cX11_does 121 = .ok (.ifCond .eq 43, 3) := by decide +kernel
theorem dX11_does_124 : decode cX11_does 124 = .ok (.iload_n 3, 1) := by decide +kernel
theorem dX11_does_125 : decode cX11_does 125 = .ok (.i2l, 1) := by decide +kernel
theorem dX11_does_126 : decode cX11_does 126 = .ok (.lconst 1, 1) := by decide +kernel
theorem dX11_does_127 : decode cX11_does 127 = .ok (.ldc2_w 178, 3) := by decide +kernel
theorem dX11_does_130 : decode cX11_does 130 = .ok (.invokestatic 62, 3) := by decide +kernel
theorem dX11_does_133 : decode cX11_does 133 = .ok (.ifCond .eq 31, 3) := by decide +kernel
theorem dX11_does_136 : decode cX11_does 136 = .ok (.aload_n 0, 1) := by decide +kernel
theorem dX11_does_137 : decode cX11_does 137 = .ok (.getfield 19, 3) := by decide +kernel
theorem dX11_does_140 : decode cX11_does 140 = .ok (.iload_n 2, 1) := by decide +kernel
theorem dX11_does_141 : decode cX11_does 141 = .ok (.iload_n 3, 1) := by decide +kernel
theorem dX11_does_142 : decode cX11_does 142 = .ok (.invokestatic 198, 3) := by decide +kernel
theorem dX11_does_145 : decode cX11_does 145 = .ok (.ifCond .eq 19, 3) := by decide +kernel
theorem dX11_does_148 : decode cX11_does 148 = .ok (.aload_n 0, 1) := by decide +kernel
theorem dX11_does_149 : decode cX11_does 149 = .ok (.getfield 19, 3) := by decide +kernel
theorem dX11_does_152 : decode cX11_does 152 = .ok (.iload_n 2, 1) := by decide +kernel
theorem dX11_does_153 : decode cX11_does 153 = .ok (.iload_n 3, 1) := by decide +kernel
theorem dX11_does_154 : decode cX11_does 154 = .ok (.invokestatic 201, 3) := by decide +kernel
theorem dX11_does_157 : decode cX11_does 157 = .ok (.ifCond .lt 7, 3) := by decide +kernel
theorem dX11_does_160 : decode cX11_does 160 = .ok (.iconst 1, 1) := by decide +kernel
theorem dX11_does_161 : decode cX11_does 161 = .ok (.goto 4, 3) := by decide +kernel
theorem dX11_does_164 : decode cX11_does 164 = .ok (.iconst 0, 1) := by decide +kernel
theorem dX11_does_165 : decode cX11_does 165 = .ok (.ireturn, 1) := by decide +kernel
theorem dX11_does_166 : decode cX11_does 166 = .ok (.iload 5, 2) := by decide +kernel
theorem dX11_does_168 : decode cX11_does 168 = .ok (.ifCond .eq 9, 3) := by decide +kernel
theorem dX11_does_171 : decode cX11_does 171 = .ok (.iload_n 3, 1) := by decide +kernel
theorem dX11_does_172 : decode cX11_does 172 = .ok (.bipush 9, 2) := by decide +kernel
theorem dX11_does_174 : decode cX11_does 174 = .ok (.if_icmp .le 5, 3) := by decide +kernel
theorem dX11_does_177 : decode cX11_does 177 = .ok (.iconst 0, 1) := by decide +kernel
theorem dX11_does_178 : decode cX11_does 178 = .ok (.ireturn, 1) := by decide +kernel
theorem dX11_does_179 : decode cX11_does 179 = .ok (.aload_n 0, 1) := by decide +kernel
theorem dX11_does_180 : decode cX11_does 180 = .ok (.getfield 19, 3) := by decide +kernel
theorem dX11_does_183 : decode cX11_does 183 = .ok (.iload_n 2, 1) := by decide +kernel
theorem dX11_does_184 : decode cX11_does 184 = .ok (.invokestatic 50, 3) := by decide +kernel
theorem dX11_does_187 : decode cX11_does 187 = .ok (.iconst 1, 1) := by decide +kernel
theorem dX11_does_188 : decode cX11_does 188 = .ok (.iadd, 1) := by decide +kernel
theorem dX11_does_189 : decode cX11_does 189 = .ok (.iload_n 3, 1) := by decide +kernel
theorem dX11_does_190 : decode cX11_does 190 = .ok (.iastore, 1) := by decide +kernel
theorem dX11_does_191 : decode cX11_does 191 = .ok (.iconst 1, 1) := by decide +kernel
theorem dX11_does_192 : decode cX11_does 192 = .ok (.ireturn, 1) := by decide +kernel
theorem dX11_does_193 : decode cX11_does 193 = .ok (.iload 5, 2) := by decide +kernel
theorem dX11_does_195 : decode cX11_does 195 = .ok (.ifCond .eq 41, 3) := by decide +kernel
theorem dX11_does_198 : decode cX11_does 198 = .ok (.aload_n 0, 1) := by decide +kernel
theorem dX11_does_199 : decode cX11_does 199 = .ok (.getfield 19, 3) := by decide +kernel
theorem dX11_does_202 : decode cX11_does 202 = .ok (.iload_n 3, 1) := by decide +kernel
theorem dX11_does_203 : decode cX11_does 203 = .ok (.invokestatic 184, 3) := by decide +kernel
theorem dX11_does_206 : decode cX11_does 206 = .ok (.ifCond .eq 30, 3) := by decide +kernel
theorem dX11_does_209 : decode cX11_does 209 = .ok (.aload_n 0, 1) := by decide +kernel
theorem dX11_does_210 : decode cX11_does 210 = .ok (.getfield 19, 3) := by decide +kernel
theorem dX11_does_213 : decode cX11_does 213 = .ok (.iload_n 3, 1) := by decide +kernel
theorem dX11_does_214 : decode cX11_does 214 = .ok (.invokestatic 211, 3) := by decide +kernel
theorem dX11_does_217 : decode cX11_does 217 = .ok (.ifCond .eq 19, 3) := by decide +kernel
theorem dX11_does_220 : decode cX11_does 220 = .ok (.aload_n 0, 1) := by decide +kernel
theorem dX11_does_221 : decode cX11_does 221 = .ok (.getfield 19, 3) := by decide +kernel
theorem dX11_does_224 : decode cX11_does 224 = .ok (.iload_n 2, 1) := by decide +kernel
theorem dX11_does_225 : decode cX11_does 225 = .ok (.iload_n 3, 1) := by decide +kernel
theorem dX11_does_226 : decode cX11_does 226 = .ok (.invokestatic 214, 3) := by decide +kernel
theorem dX11_does_229 : decode cX11_does 229 = .ok (.ifCond .le 7, 3) := by decide +kernel
theorem dX11_does_232 : decode cX11_does 232 = .ok (.iconst 1, 1) := by decide +kernel
theorem dX11_does_233 : decode cX11_does 233 = .ok (.goto 4, 3) := by decide +kernel
theorem dX11_does_236 : decode cX11_does 236 = .ok (.iconst 0, 1) := by decide +kernel
theorem dX11_does_237 : decode cX11_does 237 = .ok (.ireturn, 1) := by decide +kernel
theorem dX11_does_238 : decode cX11_does 238 = .ok (.iload_n 3, 1) := by decide +kernel
theorem dX11_does_239 : decode cX11_does 239 = .ok (.bipush 10, 2) := by decide +kernel
theorem dX11_does_241 : decode cX11_does 241 = .ok (.if_icmp .ge 45, 3) := by decide +kernel
theorem dX11_does_244 : decode cX11_does 244 = .ok (.aload_n 0, 1) := by decide +kernel
theorem dX11_does_245 : decode cX11_does 245 = .ok (.getfield 19, 3) := by decide +kernel
theorem dX11_does_248 : decode cX11_does 248 = .ok (.iload_n 2, 1) := by decide +kernel
theorem dX11_does_249 : decode cX11_does 249 = .ok (.iload_n 3, 1) := by decide +kernel
theorem dX11_does_250 : decode cX11_does 250 = .ok (.invokestatic 217, 3) := by decide +kernel
theorem dX11_does_253 : decode cX11_does 253 = .ok (.ifCond .eq 33, 3) := by decide +kernel
theorem dX11_does_256 : decode cX11_does 256 = .ok (.aload_n 0, 1) := by decide +kernel
theorem dX11_does_257 : decode cX11_does 257 = .ok (.aload_n 0, 1) := by decide +kernel
theorem dX11_does_258 : decode cX11_does 258 = .ok (.getfield 19, 3) := by decide +kernel
theorem dX11_does_261 : decode cX11_does 261 = .ok (.iload_n 2, 1) := by decide +kernel
theorem dX11_does_262 : decode cX11_does 262 = .ok (.iload_n 3, 1) := by decide +kernel
theorem dX11_does_263 : decode cX11_does 263 = .ok (.invokevirtual 220, 3) := by decide +kernel
theorem dX11_does_266 : decode cX11_does 266 = .ok (.ifCond .ne 20, 3) := by decide +kernel
theorem dX11_does_269 : decode cX11_does 269 = .ok (.aload_n 0, 1) := by decide +kernel
theorem dX11_does_270 : decode cX11_does 270 = .ok (.aload_n 0, 1) := by decide +kernel
theorem dX11_does_271 : decode cX11_does 271 = .ok (.getfield 19, 3) := by decide +kernel
theorem dX11_does_274 : decode cX11_does 274 = .ok (.iload_n 2, 1) := by decide +kernel
theorem dX11_does_275 : decode cX11_does 275 = .ok (.iload_n 3, 1) := by decide +kernel
theorem dX11_does_276 : decode cX11_does 276 = .ok (.invokevirtual 223, 3) := by decide +kernel
theorem dX11_does_279 : decode cX11_does 279 = .ok (.ifCond .lt 7, 3) := by decide +kernel
theorem dX11_does_282 : decode cX11_does 282 = .ok (.iconst 1, 1) := by decide +kernel
theorem dX11_does_283 : decode cX11_does 283 = .ok (.goto 4, 3) := by decide +kernel
theorem dX11_does_286 : decode cX11_does 286 = .ok (.iconst 0, 1) := by decide +kernel
theorem dX11_does_287 : decode cX11_does 287 = .ok (.ireturn, 1) := by decide +kernel
theorem dX11_does_288 : decode cX11_does 288 = .ok (.iload_n 2, 1) := by decide +kernel
theorem dX11_does_289 : decode cX11_does 289 = .ok (.ifCond .ne 21, 3) := by decide +kernel
theorem dX11_does_292 : decode cX11_does 292 = .ok (.iload_n 3, 1) := by decide +kernel
theorem dX11_does_293 : decode cX11_does 293 = .ok (.ifCond .ne 17, 3) := by decide +kernel
theorem dX11_does_296 : decode cX11_does 296 = .ok (.aload_n 0, 1) := by decide +kernel
theorem dX11_does_297 : decode cX11_does 297 = .ok (.getfield 19, 3) := by decide +kernel
theorem dX11_does_300 : decode cX11_does 300 = .ok (.invokestatic 226, 3) := by decide +kernel
theorem dX11_does_303 : decode cX11_does 303 = .ok (.ifCond .lt 7, 3) := by decide +kernel
theorem dX11_does_306 : decode cX11_does 306 = .ok (.iconst 1, 1) := by decide +kernel
theorem dX11_does_307 : decode cX11_does 307 = .ok (.goto 4, 3) := by decide +kernel
theorem dX11_does_310 : decode cX11_does 310 = .ok (.iconst 0, 1) := by decide +kernel
theorem dX11_does_311 : decode cX11_does 311 = .ok (.ireturn, 1) := by decide +kernel
theorem dX11_does_312 : decode cX11_does 312 = .ok (.iload 5, 2) := by decide +kernel
theorem dX11_does_314 : decode cX11_does 314 = .ok (.ifCond .eq 20, 3) := by decide +kernel
theorem dX11_does_317 : decode cX11_does 317 = .ok (.aload_n 0, 1) := by decide +kernel
theorem dX11_does_318 : decode cX11_does 318 = .ok (.getfield 19, 3) := by decide +kernel
theorem dX11_does_321 : decode cX11_does 321 = .ok (.iload_n 2, 1) := by decide +kernel
theorem dX11_does_322 : decode cX11_does 322 = .ok (.invokestatic 50, 3) := by decide +kernel
theorem dX11_does_325 : decode cX11_does 325 = .ok (.iaload, 1) := by decide +kernel
theorem dX11_does_326 : decode cX11_does 326 = .ok (.iload_n 3, 1) := by decide +kernel
theorem dX11_does_327 : decode cX11_does 327 = .ok (.if_icmp .lt 7, 3) := by decide +kernel
theorem dX11_does_330 : decode cX11_does 330 = .ok (.iconst 1, 1) := by decide +kernel
theorem dX11_does_331 : decode cX11_does 331 = .ok (.goto 4, 3) := by decide +kernel
theorem dX11_does_334 : decode cX11_does 334 = .ok (.iconst 0, 1) := by decide +kernel
theorem dX11_does_335 : decode cX11_does 335 = .ok (.ireturn, 1) := by decide +kernel
theorem dX11_does_336 : decode cX11_does 336 = .ok (.iload_n 2, 1) := by decide +kernel
theorem dX11_does_337 : decode cX11_does 337 = .ok (.ifCond .ne 23, 3) := by decide +kernel
theorem dX11_does_340 : decode cX11_does 340 = .ok (.iload_n 3, 1) := by decide +kernel
theorem dX11_does_341 : decode cX11_does 341 = .ok (.bipush 10, 2) := by decide +kernel
theorem dX11_does_343 : decode cX11_does 343 = .ok (.if_icmp .ge 17, 3) := by decide +kernel
theorem dX11_does_346 : decode cX11_does 346 = .ok (.aload_n 0, 1) := by decide +kernel
theorem dX11_does_347 : decode cX11_does 347 = .ok (.getfield 19, 3) := by decide +kernel
theorem dX11_does_350 : decode cX11_does 350 = .ok (.iconst 3, 1) := by decide +kernel
theorem dX11_does_351 : decode cX11_does 351 = .ok (.iaload, 1) := by decide +kernel
theorem dX11_does_352 : decode cX11_does 352 = .ok (.iload_n 3, 1) := by decide +kernel
theorem dX11_does_353 : decode cX11_does 353 = .ok (.if_icmp .ne 7, 3) := by decide +kernel
theorem dX11_does_356 : decode cX11_does 356 = .ok (.iconst 1, 1) := by decide +kernel
theorem dX11_does_357 : decode cX11_does 357 = .ok (.goto 4, 3) := by decide +kernel
theorem dX11_does_360 : decode cX11_does 360 = .ok (.iconst 0, 1) := by decide +kernel
theorem dX11_does_361 : decode cX11_does 361 = .ok (.ireturn, 1) := by decide +kernel
theorem dX11_does_362 : decode cX11_does 362 = .ok (.iload 5, 2) := by decide +kernel
theorem dX11_does_364 : decode cX11_does 364 = .ok (.ifCond .eq 25, 3) := by decide +kernel
theorem dX11_does_367 : decode cX11_does 367 = .ok (.iload_n 3, 1) := by decide +kernel
theorem dX11_does_368 : decode cX11_does 368 = .ok (.bipush 10, 2) := by decide +kernel
theorem dX11_does_370 : decode cX11_does 370 = .ok (.if_icmp .ge 19, 3) := by decide +kernel
theorem dX11_does_373 : decode cX11_does 373 = .ok (.aload_n 0, 1) := by decide +kernel
theorem dX11_does_374 : decode cX11_does 374 = .ok (.getfield 19, 3) := by decide +kernel
theorem dX11_does_377 : decode cX11_does 377 = .ok (.iload_n 2, 1) := by decide +kernel
theorem dX11_does_378 : decode cX11_does 378 = .ok (.invokestatic 66, 3) := by decide +kernel
theorem dX11_does_381 : decode cX11_does 381 = .ok (.iload_n 3, 1) := by decide +kernel
theorem dX11_does_382 : decode cX11_does 382 = .ok (.if_icmp .ne 7, 3) := by decide +kernel
theorem dX11_does_385 : decode cX11_does 385 = .ok (.iconst 1, 1) := by decide +kernel
theorem dX11_does_386 : decode cX11_does 386 = .ok (.goto 4, 3) := by decide +kernel
theorem dX11_does_389 : decode cX11_does 389 = .ok (.iconst 0, 1) := by decide +kernel
theorem dX11_does_390 : decode cX11_does 390 = .ok (.ireturn, 1) := by decide +kernel
theorem dX11_does_391 : decode cX11_does 391 = .ok (.iconst 0, 1) := by decide +kernel
theorem dX11_does_392 : decode cX11_does 392 = .ok (.ireturn, 1) := by decide +kernel
theorem dX11_runScript_0 : decode cX11_runScript 0 = .ok (.iload_n 1, 1) := by decide +kernel
theorem dX11_runScript_1 : decode cX11_runScript 1 = .ok (.iconst 1, 1) := by decide +kernel
theorem dX11_runScript_2 : decode cX11_runScript 2 = .ok (.if_icmp .ne 9, 3) := by decide +kernel
theorem dX11_runScript_5 : decode cX11_runScript 5 = .ok (.ldc2_w 237, 3) := by decide +kernel
theorem dX11_runScript_8 : decode cX11_runScript 8 = .ok (.goto 17, 3) := by decide +kernel
theorem dX11_runScript_11 : decode cX11_runScript 11 = .ok (.iload_n 1, 1) := by decide +kernel
theorem dX11_runScript_12 : decode cX11_runScript 12 = .ok (.iconst 2, 1) := by decide +kernel
theorem dX11_runScript_13 : decode cX11_runScript 13 = .ok (.if_icmp .ne 9, 3) := by decide +kernel
theorem dX11_runScript_16 : decode cX11_runScript 16 = .ok (.ldc2_w 239, 3) := by decide +kernel
theorem dX11_runScript_19 : decode cX11_runScript 19 = .ok (.goto 6, 3) := by decide +kernel
theorem dX11_runScript_22 : decode cX11_runScript 22 = .ok (.ldc2_w 241, 3) := by decide +kernel
theorem dX11_runScript_25 : decode cX11_runScript 25 = .ok (.lstore 4, 2) := by decide +kernel
theorem dX11_runScript_27 : decode cX11_runScript 27 = .ok (.aload_n 0, 1) := by decide +kernel
theorem dX11_runScript_28 : decode cX11_runScript 28 = .ok (.iload_n 1, 1) := by decide +kernel
theorem dX11_runScript_29 : decode cX11_runScript 29 = .ok (.i2l, 1) := by decide +kernel
theorem dX11_runScript_30 : decode cX11_runScript 30 = .ok (.lconst 1, 1) := by decide +kernel
theorem dX11_runScript_31 : decode cX11_runScript 31 = .ok (.ldc2_w 60, 3) := by decide +kernel
theorem dX11_runScript_34 : decode cX11_runScript 34 = .ok (.invokestatic 62, 3) := by decide +kernel
theorem dX11_runScript_37 : decode cX11_runScript 37 = .ok (.ifCond .eq 19, 3) := by decide +kernel
theorem dX11_runScript_40 : decode cX11_runScript 40 = .ok (.lload_n 2, 1) := by decide +kernel
theorem dX11_runScript_41 : decode cX11_runScript 41 = .ok (.lconst 0, 1) := by decide +kernel
theorem dX11_runScript_42 : decode cX11_runScript 42 = .ok (.lload 4, 2) := by decide +kernel
theorem dX11_runScript_44 : decode cX11_runScript 44 = .ok (.lconst 1, 1) := by decide +kernel
theorem dX11_runScript_45 : decode cX11_runScript 45 = .ok (.lsub, 1) := by decide +kernel
theorem dX11_runScript_46 : decode cX11_runScript 46 = .ok (.invokestatic 62, 3) := by decide +kernel
theorem dX11_runScript_49 : decode cX11_runScript 49 = .ok (.ifCond .eq 7, 3) := by decide +kernel
theorem dX11_runScript_52 : decode cX11_runScript 52 = .ok (.iconst 0, 1) := by decide +kernel
theorem dX11_runScript_53 : decode cX11_runScript 53 = .ok (.goto 4, 3) := by decide +kernel
theorem dX11_runScript_56 : decode cX11_runScript 56 = .ok (.iconst 1, 1) := by decide +kernel
theorem dX11_runScript_57 : decode cX11_runScript 57 = .ok (.invokevirtual 134, 3) := by decide +kernel
theorem dX11_runScript_60 : decode cX11_runScript 60 = .ok (.ifCond .eq 5, 3) := by decide +kernel
theorem dX11_runScript_63 : decode cX11_runScript 63 = .ok (.iconst 0, 1) := by decide +kernel
theorem dX11_runScript_64 : decode cX11_runScript 64 = .ok (.ireturn, 1) := by decide +kernel
theorem dX11_runScript_65 : decode cX11_runScript 65 = .ok (.aload_n 0, 1) := by decide +kernel
theorem dX11_runScript_66 : decode cX11_runScript 66 = .ok (.getfield 16, 3) := by decide +kernel
theorem dX11_runScript_69 : decode cX11_runScript 69 = .ok (.iconst 0, 1) := by decide +kernel
theorem dX11_runScript_70 : decode cX11_runScript 70 = .ok (.aload_n 0, 1) := by decide +kernel
theorem dX11_runScript_71 : decode cX11_runScript 71 = .ok (.getfield 19, 3) := by decide +kernel
theorem dX11_runScript_74 : decode cX11_runScript 74 = .ok (.iconst 0, 1) := by decide +kernel
theorem dX11_runScript_75 : decode cX11_runScript 75 = .ok (.invokestatic 162, 3) := by decide +kernel
theorem dX11_runScript_78 : decode cX11_runScript 78 = .ok (.lload_n 2, 1) := by decide +kernel
theorem dX11_runScript_79 : decode cX11_runScript 79 = .ok (.lstore 6, 2) := by decide +kernel
theorem dX11_runScript_81 : decode cX11_runScript 81 = .ok (.iconst 0, 1) := by decide +kernel
theorem dX11_runScript_82 : decode cX11_runScript 82 = .ok (.istore 8, 2) := by decide +kernel
theorem dX11_runScript_84 : decode cX11_runScript 84 = .ok (.iload 8, 2) := by decide +kernel
theorem dX11_runScript_86 : decode cX11_runScript 86 = .ok (.iload_n 1, 1) := by decide +kernel
theorem dX11_runScript_87 : decode cX11_runScript 87 = .ok (.if_icmp .ge 63, 3) := by decide +kernel
theorem dX11_runScript_90 : decode cX11_runScript 90 = .ok (.lload 4, 2) := by decide +kernel
theorem dX11_runScript_92 : decode cX11_runScript 92 = .ok (.ldc2_w 237, 3) := by decide +kernel
theorem dX11_runScript_95 : decode cX11_runScript 95 = .ok (.ldiv, 1) := by decide +kernel
theorem dX11_runScript_96 : decode cX11_runScript 96 = .ok (.lstore 4, 2) := by decide +kernel
theorem dX11_runScript_98 : decode cX11_runScript 98 = .ok (.lload 6, 2) := by decide +kernel
theorem dX11_runScript_100 : decode cX11_runScript 100 = .ok (.lload 4, 2) := by decide +kernel
theorem dX11_runScript_102 : decode cX11_runScript 102 = .ok (.ldiv, 1) := by decide +kernel
theorem dX11_runScript_103 : decode cX11_runScript 103 = .ok (.l2i, 1) := by decide +kernel
theorem dX11_runScript_104 : decode cX11_runScript 104 = .ok (.istore 9, 2) := by decide +kernel
theorem dX11_runScript_106 : decode cX11_runScript 106 = .ok (.lload 6, 2) := by decide +kernel
theorem dX11_runScript_108 : decode cX11_runScript 108 = .ok (.lload 4, 2) := by decide +kernel
theorem dX11_runScript_110 : decode cX11_runScript 110 = .ok (.lrem, 1) := by decide +kernel
theorem dX11_runScript_111 : decode cX11_runScript 111 = .ok (.lstore 6, 2) := by decide +kernel
theorem dX11_runScript_113 : decode cX11_runScript 113 = .ok (.aload_n 0, 1) := by decide +kernel
theorem dX11_runScript_114 : decode cX11_runScript 114 = .ok (.iload 9, 2) := by decide +kernel
theorem dX11_runScript_116 : decode cX11_runScript 116 = .ok (.sipush 10000, 3) := by decide +kernel
theorem dX11_runScript_119 : decode cX11_runScript 119 = .ok (.idiv, 1) := by decide +kernel
theorem dX11_runScript_120 : decode cX11_runScript 120 = .ok (.iload 9, 2) := by decide +kernel
theorem dX11_runScript_122 : decode cX11_runScript 122 = .ok (.sipush 1000, 3) := by decide +kernel
theorem dX11_runScript_125 : decode cX11_runScript 125 = .ok (.idiv, 1) := by decide +kernel
theorem dX11_runScript_126 : decode cX11_runScript 126 = .ok (.bipush 10, 2) := by decide +kernel
theorem dX11_runScript_128 : decode cX11_runScript 128 = .ok (.irem, 1) := by decide +kernel
theorem dX11_runScript_129 : decode cX11_runScript 129 = .ok (.iload 9, 2) := by decide +kernel
theorem dX11_runScript_131 : decode cX11_runScript 131 = .ok (.sipush 1000, 3) := by decide +kernel
theorem dX11_runScript_134 : decode cX11_runScript 134 = .ok (.irem, 1) := by decide +kernel
theorem dX11_runScript_135 : decode cX11_runScript 135 = .ok (.invokevirtual 243, 3) := by decide +kernel
theorem dX11_runScript_138 : decode cX11_runScript 138 = .ok (.ifCond .ne 6, 3) := by decide +kernel
theorem dX11_runScript_141 : decode cX11_runScript 141 = .ok (.iload 8, 2) := by decide +kernel
theorem dX11_runScript_143 : decode cX11_runScript 143 = .ok (.ireturn, 1) := by decide +kernel
theorem dX11_runScript_144 : decode cX11_runScript 144 = .ok (.iinc 8 1, 3) := by decide +kernel
theorem dX11_runScript_147 : decode cX11_runScript 147 = .ok (.goto (-63), 3) := by decide +kernel
theorem dX11_runScript_150 : decode cX11_runScript 150 = .ok (.bipush (-9), 2) := by decide +kernel
theorem dX11_runScript_152 : decode cX11_runScript 152 = .ok (.ireturn, 1) := by decide +kernel
theorem dX11_runAll_0 : decode cX11_runAll 0 = .ok (.iconst 0, 1) := by decide +kernel
theorem dX11_runAll_1 : decode cX11_runAll 1 = .ok (.istore_n 2, 1) := by decide +kernel
theorem dX11_runAll_2 : decode cX11_runAll 2 = .ok (.iload_n 2, 1) := by decide +kernel
theorem dX11_runAll_3 : decode cX11_runAll 3 = .ok (.aload_n 1, 1) := by decide +kernel
theorem dX11_runAll_4 : decode cX11_runAll 4 = .ok (.iconst 2, 1) := by decide +kernel
theorem dX11_runAll_5 : decode cX11_runAll 5 = .ok (.iaload, 1) := by decide +kernel
theorem dX11_runAll_6 : decode cX11_runAll 6 = .ok (.if_icmp .ge 82, 3) := by decide +kernel
theorem dX11_runAll_9 : decode cX11_runAll 9 = .ok (.aload_n 1, 1) := by decide +kernel
theorem dX11_runAll_10 : decode cX11_runAll 10 = .ok (.iload_n 2, 1) := by decide +kernel
theorem dX11_runAll_11 : decode cX11_runAll 11 = .ok (.invokestatic 57, 3) := by decide +kernel
theorem dX11_runAll_14 : decode cX11_runAll 14 = .ok (.iconst 4, 1) := by decide +kernel
theorem dX11_runAll_15 : decode cX11_runAll 15 = .ok (.iadd, 1) := by decide +kernel
theorem dX11_runAll_16 : decode cX11_runAll 16 = .ok (.iaload, 1) := by decide +kernel
theorem dX11_runAll_17 : decode cX11_runAll 17 = .ok (.istore_n 3, 1) := by decide +kernel
theorem dX11_runAll_18 : decode cX11_runAll 18 = .ok (.iload_n 3, 1) := by decide +kernel
theorem dX11_runAll_19 : decode cX11_runAll 19 = .ok (.bipush (-9), 2) := by decide +kernel
theorem dX11_runAll_21 : decode cX11_runAll 21 = .ok (.if_icmp .ne 7, 3) := by decide +kernel
theorem dX11_runAll_24 : decode cX11_runAll 24 = .ok (.iconst 0, 1) := by decide +kernel
theorem dX11_runAll_25 : decode cX11_runAll 25 = .ok (.goto 8, 3) := by decide +kernel
theorem dX11_runAll_28 : decode cX11_runAll 28 = .ok (.aload_n 1, 1) := by decide +kernel
theorem dX11_runAll_29 : decode cX11_runAll 29 = .ok (.iload_n 3, 1) := by decide +kernel
theorem dX11_runAll_30 : decode cX11_runAll 30 = .ok (.invokestatic 66, 3) := by decide +kernel
theorem dX11_runAll_33 : decode cX11_runAll 33 = .ok (.istore 4, 2) := by decide +kernel
theorem dX11_runAll_35 : decode cX11_runAll 35 = .ok (.iconst 0, 1) := by decide +kernel
theorem dX11_runAll_36 : decode cX11_runAll 36 = .ok (.istore 5, 2) := by decide +kernel
theorem dX11_runAll_38 : decode cX11_runAll 38 = .ok (.iconst 0, 1) := by decide +kernel
theorem dX11_runAll_39 : decode cX11_runAll 39 = .ok (.istore 6, 2) := by decide +kernel
theorem dX11_runAll_41 : decode cX11_runAll 41 = .ok (.iload 6, 2) := by decide +kernel
theorem dX11_runAll_43 : decode cX11_runAll 43 = .ok (.iload 4, 2) := by decide +kernel
theorem dX11_runAll_45 : decode cX11_runAll 45 = .ok (.if_icmp .ge 37, 3) := by decide +kernel
theorem dX11_runAll_48 : decode cX11_runAll 48 = .ok (.iload 5, 2) := by decide +kernel
theorem dX11_runAll_50 : decode cX11_runAll 50 = .ok (.ifCond .ne 32, 3) := by decide +kernel
theorem dX11_runAll_53 : decode cX11_runAll 53 = .ok (.aload_n 0, 1) := by decide +kernel
theorem dX11_runAll_54 : decode cX11_runAll 54 = .ok (.aload_n 1, 1) := by decide +kernel
theorem dX11_runAll_55 : decode cX11_runAll 55 = .ok (.iload_n 2, 1) := by decide +kernel
theorem dX11_runAll_56 : decode cX11_runAll 56 = .ok (.iload 6, 2) := by decide +kernel
theorem dX11_runAll_58 : decode cX11_runAll 58 = .ok (.invokevirtual 220, 3) := by decide +kernel
theorem dX11_runAll_61 : decode cX11_runAll 61 = .ok (.ifCond .ne 15, 3) := by decide +kernel
theorem dX11_runAll_64 : decode cX11_runAll 64 = .ok (.aload_n 0, 1) := by decide +kernel
theorem dX11_runAll_65 : decode cX11_runAll 65 = .ok (.aload_n 1, 1) := by decide +kernel
theorem dX11_runAll_66 : decode cX11_runAll 66 = .ok (.iload_n 2, 1) := by decide +kernel
theorem dX11_runAll_67 : decode cX11_runAll 67 = .ok (.iload 6, 2) := by decide +kernel
theorem dX11_runAll_69 : decode cX11_runAll 69 = .ok (.invokevirtual 223, 3) := by decide +kernel
theorem dX11_runAll_72 : decode cX11_runAll 72 = .ok (.pop, 1) := by decide +kernel
theorem dX11_runAll_73 : decode cX11_runAll 73 = .ok (.iconst 1, 1) := by decide +kernel
theorem dX11_runAll_74 : decode cX11_runAll 74 = .ok (.istore 5, 2) := by decide +kernel
theorem dX11_runAll_76 : decode cX11_runAll 76 = .ok (.iinc 6 1, 3) := by decide +kernel
theorem dX11_runAll_79 : decode cX11_runAll 79 = .ok (.goto (-38), 3) := by decide +kernel
theorem dX11_runAll_82 : decode cX11_runAll 82 = .ok (.iinc 2 1, 3) := by decide +kernel
theorem dX11_runAll_85 : decode cX11_runAll 85 = .ok (.goto (-83), 3) := by decide +kernel
theorem dX11_runAll_88 : decode cX11_runAll 88 = .ok (.return_, 1) := by decide +kernel
theorem dX11_simulate_0 : decode cX11_simulate 0 = .ok (.aload_n 0, 1) := by decide +kernel
theorem dX11_simulate_1 : decode cX11_simulate 1 = .ok (.iload_n 3, 1) := by decide +kernel
theorem dX11_simulate_2 : decode cX11_simulate 2 = .ok (.i2l, 1) := by decide +kernel
theorem dX11_simulate_3 : decode cX11_simulate 3 = .ok (.lconst 1, 1) := by decide +kernel
theorem dX11_simulate_4 : decode cX11_simulate 4 = .ok (.ldc2_w 232, 3) := by decide +kernel
theorem dX11_simulate_7 : decode cX11_simulate 7 = .ok (.invokestatic 62, 3) := by decide +kernel
theorem dX11_simulate_10 : decode cX11_simulate 10 = .ok (.ifCond .eq 7, 3) := by decide +kernel
theorem dX11_simulate_13 : decode cX11_simulate 13 = .ok (.iconst 0, 1) := by decide +kernel
theorem dX11_simulate_14 : decode cX11_simulate 14 = .ok (.goto 4, 3) := by decide +kernel
theorem dX11_simulate_17 : decode cX11_simulate 17 = .ok (.iconst 1, 1) := by decide +kernel
theorem dX11_simulate_18 : decode cX11_simulate 18 = .ok (.invokevirtual 134, 3) := by decide +kernel
theorem dX11_simulate_21 : decode cX11_simulate 21 = .ok (.ifCond .eq 5, 3) := by decide +kernel
theorem dX11_simulate_24 : decode cX11_simulate 24 = .ok (.iconst 0, 1) := by decide +kernel
theorem dX11_simulate_25 : decode cX11_simulate 25 = .ok (.ireturn, 1) := by decide +kernel
theorem dX11_simulate_26 : decode cX11_simulate 26 = .ok (.aload_n 0, 1) := by decide +kernel
theorem dX11_simulate_27 : decode cX11_simulate 27 = .ok (.getfield 16, 3) := by decide +kernel
theorem dX11_simulate_30 : decode cX11_simulate 30 = .ok (.iconst 0, 1) := by decide +kernel
theorem dX11_simulate_31 : decode cX11_simulate 31 = .ok (.aload_n 0, 1) := by decide +kernel
theorem dX11_simulate_32 : decode cX11_simulate 32 = .ok (.getfield 19, 3) := by decide +kernel
theorem dX11_simulate_35 : decode cX11_simulate 35 = .ok (.iconst 0, 1) := by decide +kernel
theorem dX11_simulate_36 : decode cX11_simulate 36 = .ok (.invokestatic 162, 3) := by decide +kernel
theorem dX11_simulate_39 : decode cX11_simulate 39 = .ok (.lload_n 1, 1) := by decide +kernel
theorem dX11_simulate_40 : decode cX11_simulate 40 = .ok (.lstore 4, 2) := by decide +kernel
theorem dX11_simulate_42 : decode cX11_simulate 42 = .ok (.iconst 0, 1) := by decide +kernel
theorem dX11_simulate_43 : decode cX11_simulate 43 = .ok (.istore 6, 2) := by decide +kernel
theorem dX11_simulate_45 : decode cX11_simulate 45 = .ok (.iload 6, 2) := by decide +kernel
theorem dX11_simulate_47 : decode cX11_simulate 47 = .ok (.iload_n 3, 1) := by decide +kernel
theorem dX11_simulate_48 : decode cX11_simulate 48 = .ok (.if_icmp .ge 225, 3) := by decide +kernel
theorem dX11_simulate_51 : decode cX11_simulate 51 = .ok (.lload 4, 2) := by decide +kernel
theorem dX11_simulate_53 : decode cX11_simulate 53 = .ok (.ldc2_w 247, 3) := by decide +kernel
theorem dX11_simulate_56 : decode cX11_simulate 56 = .ok (.lmul, 1) := by decide +kernel
theorem dX11_simulate_57 : decode cX11_simulate 57 = .ok (.ldc2_w 249, 3) := by decide +kernel
theorem dX11_simulate_60 : decode cX11_simulate 60 = .ok (.ladd, 1) := by decide +kernel
theorem dX11_simulate_61 : decode cX11_simulate 61 = .ok (.lstore 4, 2) := by decide +kernel
theorem dX11_simulate_63 : decode cX11_simulate 63 = .ok (.lload 4, 2) := by decide +kernel
theorem dX11_simulate_65 : decode cX11_simulate 65 = .ok (.bipush 33, 2) := by decide +kernel
theorem dX11_simulate_67 : decode cX11_simulate 67 = .ok (.lushr, 1) := by decide +kernel
theorem dX11_simulate_68 : decode cX11_simulate 68 = .ok (.l2i, 1) := by decide +kernel
theorem dX11_simulate_69 : decode cX11_simulate 69 = .ok (.istore 7, 2) := by decide +kernel
theorem dX11_simulate_71 : decode cX11_simulate 71 = .ok (.iload 7, 2) := by decide +kernel
theorem dX11_simulate_73 : decode cX11_simulate 73 = .ok (.bipush 8, 2) := by decide +kernel
theorem dX11_simulate_75 : decode cX11_simulate 75 = .ok (.idiv, 1) := by decide +kernel
theorem dX11_simulate_76 : decode cX11_simulate 76 = .ok (.iconst 4, 1) := by decide +kernel
theorem dX11_simulate_77 : decode cX11_simulate 77 = .ok (.irem, 1) := by decide +kernel
theorem dX11_simulate_78 : decode cX11_simulate 78 = .ok (.istore 8, 2) := by decide +kernel
theorem dX11_simulate_80 : decode cX11_simulate 80 = .ok (.iload 7, 2) := by decide +kernel
theorem dX11_simulate_82 : decode cX11_simulate 82 = .ok (.bipush 32, 2) := by decide +kernel
theorem dX11_simulate_84 : decode cX11_simulate 84 = .ok (.idiv, 1) := by decide +kernel
theorem dX11_simulate_85 : decode cX11_simulate 85 = .ok (.istore 9, 2) := by decide +kernel
theorem dX11_simulate_87 : decode cX11_simulate 87 = .ok (.iload 7, 2) := by decide +kernel
theorem dX11_simulate_89 : decode cX11_simulate 89 = .ok (.bipush 8, 2) := by decide +kernel
theorem dX11_simulate_91 : decode cX11_simulate 91 = .ok (.irem, 1) := by decide +kernel
theorem dX11_simulate_92 : decode cX11_simulate 92 = .ok (.ifCond .ne 42, 3) := by decide +kernel
theorem dX11_simulate_95 : decode cX11_simulate 95 = .ok (.aload_n 0, 1) := by decide +kernel
theorem dX11_simulate_96 : decode cX11_simulate 96 = .ok (.getfield 19, 3) := by decide +kernel
theorem dX11_simulate_99 : decode cX11_simulate 99 = .ok (.iload 8, 2) := by decide +kernel
theorem dX11_simulate_101 : decode cX11_simulate 101 = .ok (.iconst 1, 1) := by decide +kernel
theorem dX11_simulate_102 : decode cX11_simulate 102 = .ok (.iload 9, 2) := by decide +kernel
theorem dX11_simulate_104 : decode cX11_simulate 104 = .ok (.bipush 6, 2) := by decide +kernel
theorem dX11_simulate_106 : decode cX11_simulate 106 = .ok (.irem, 1) := by decide +kernel
theorem dX11_simulate_107 : decode cX11_simulate 107 = .ok (.iadd, 1) := by decide +kernel
theorem dX11_simulate_108 : decode cX11_simulate 108 = .ok (.invokestatic 198, 3) := by decide +kernel
theorem dX11_simulate_111 : decode cX11_simulate 111 = .ok (.ifCond .eq 23, 3) := by decide +kernel
theorem dX11_simulate_114 : decode cX11_simulate 114 = .ok (.aload_n 0, 1) := by decide +kernel
theorem dX11_simulate_115 : decode cX11_simulate 115 = .ok (.getfield 19, 3) := by decide +kernel
theorem dX11_simulate_118 : decode cX11_simulate 118 = .ok (.iload 8, 2) := by decide +kernel
theorem dX11_simulate_120 : decode cX11_simulate 120 = .ok (.iconst 1, 1) := by decide +kernel
theorem dX11_simulate_121 : decode cX11_simulate 121 = .ok (.iload 9, 2) := by decide +kernel
theorem dX11_simulate_123 : decode cX11_simulate 123 = .ok (.bipush 6, 2) := by decide +kernel
theorem dX11_simulate_125 : decode cX11_simulate 125 = .ok (.irem, 1) := by decide +kernel
theorem dX11_simulate_126 : decode cX11_simulate 126 = .ok (.iadd, 1) := by decide +kernel
theorem dX11_simulate_127 : decode cX11_simulate 127 = .ok (.invokestatic 201, 3) := by decide +kernel
theorem dX11_simulate_130 : decode cX11_simulate 130 = .ok (.pop, 1) := by decide +kernel
theorem dX11_simulate_131 : decode cX11_simulate 131 = .ok (.goto 120, 3) := by decide +kernel
theorem dX11_simulate_134 : decode cX11_simulate 134 = .ok (.iload 7, 2) := by decide +kernel
theorem dX11_simulate_136 : decode cX11_simulate 136 = .ok (.bipush 8, 2) := by decide +kernel
theorem dX11_simulate_138 : decode cX11_simulate 138 = .ok (.irem, 1) := by decide +kernel
theorem dX11_simulate_139 : decode cX11_simulate 139 = .ok (.iconst 1, 1) := by decide +kernel
theorem dX11_simulate_140 : decode cX11_simulate 140 = .ok (.if_icmp .ne 55, 3) := by decide +kernel
theorem dX11_simulate_143 : decode cX11_simulate 143 = .ok (.aload_n 0, 1) := by decide +kernel
theorem dX11_simulate_144 : decode cX11_simulate 144 = .ok (.getfield 19, 3) := by decide +kernel
theorem dX11_simulate_147 : decode cX11_simulate 147 = .ok (.iconst 1, 1) := by decide +kernel
theorem dX11_simulate_148 : decode cX11_simulate 148 = .ok (.iaload, 1) := by decide +kernel
theorem dX11_simulate_149 : decode cX11_simulate 149 = .ok (.ifCond .le 46, 3) := by decide +kernel
theorem dX11_simulate_152 : decode cX11_simulate 152 = .ok (.aload_n 0, 1) := by decide +kernel
theorem dX11_simulate_153 : decode cX11_simulate 153 = .ok (.getfield 19, 3) := by decide +kernel
theorem dX11_simulate_156 : decode cX11_simulate 156 = .ok (.iload 8, 2) := by decide +kernel
theorem dX11_simulate_158 : decode cX11_simulate 158 = .ok (.iload 9, 2) := by decide +kernel
theorem dX11_simulate_160 : decode cX11_simulate 160 = .ok (.aload_n 0, 1) := by decide +kernel
theorem dX11_simulate_161 : decode cX11_simulate 161 = .ok (.getfield 19, 3) := by decide +kernel
theorem dX11_simulate_164 : decode cX11_simulate 164 = .ok (.iconst 1, 1) := by decide +kernel
theorem dX11_simulate_165 : decode cX11_simulate 165 = .ok (.iaload, 1) := by decide +kernel
theorem dX11_simulate_166 : decode cX11_simulate 166 = .ok (.irem, 1) := by decide +kernel
theorem dX11_simulate_167 : decode cX11_simulate 167 = .ok (.invokestatic 189, 3) := by decide +kernel
theorem dX11_simulate_170 : decode cX11_simulate 170 = .ok (.ifCond .eq 25, 3) := by decide +kernel
theorem dX11_simulate_173 : decode cX11_simulate 173 = .ok (.aload_n 0, 1) := by decide +kernel
theorem dX11_simulate_174 : decode cX11_simulate 174 = .ok (.getfield 19, 3) := by decide +kernel
theorem dX11_simulate_177 : decode cX11_simulate 177 = .ok (.iload 8, 2) := by decide +kernel
theorem dX11_simulate_179 : decode cX11_simulate 179 = .ok (.iload 9, 2) := by decide +kernel
theorem dX11_simulate_181 : decode cX11_simulate 181 = .ok (.aload_n 0, 1) := by decide +kernel
theorem dX11_simulate_182 : decode cX11_simulate 182 = .ok (.getfield 19, 3) := by decide +kernel
theorem dX11_simulate_185 : decode cX11_simulate 185 = .ok (.iconst 1, 1) := by decide +kernel
theorem dX11_simulate_186 : decode cX11_simulate 186 = .ok (.iaload, 1) := by decide +kernel
theorem dX11_simulate_187 : decode cX11_simulate 187 = .ok (.irem, 1) := by decide +kernel
theorem dX11_simulate_188 : decode cX11_simulate 188 = .ok (.invokestatic 195, 3) := by decide +kernel
theorem dX11_simulate_191 : decode cX11_simulate 191 = .ok (.pop, 1) := by decide +kernel
theorem dX11_simulate_192 : decode cX11_simulate 192 = .ok (.goto 59, 3) := by decide +kernel
theorem dX11_simulate_195 : decode cX11_simulate 195 = .ok (.iload 7, 2) := by decide +kernel
theorem dX11_simulate_197 : decode cX11_simulate 197 = .ok (.bipush 8, 2) := by decide +kernel
theorem dX11_simulate_199 : decode cX11_simulate 199 = .ok (.irem, 1) := by decide +kernel
theorem dX11_simulate_200 : decode cX11_simulate 200 = .ok (.iconst 2, 1) := by decide +kernel
theorem dX11_simulate_201 : decode cX11_simulate 201 = .ok (.if_icmp .ne 50, 3) := by decide +kernel
theorem dX11_simulate_204 : decode cX11_simulate 204 = .ok (.aload_n 0, 1) := by decide +kernel
theorem dX11_simulate_205 : decode cX11_simulate 205 = .ok (.getfield 19, 3) := by decide +kernel
theorem dX11_simulate_208 : decode cX11_simulate 208 = .ok (.iconst 2, 1) := by decide +kernel
theorem dX11_simulate_209 : decode cX11_simulate 209 = .ok (.iaload, 1) := by decide +kernel
theorem dX11_simulate_210 : decode cX11_simulate 210 = .ok (.ifCond .le 41, 3) := by decide +kernel
theorem dX11_simulate_213 : decode cX11_simulate 213 = .ok (.aload_n 0, 1) := by decide +kernel
theorem dX11_simulate_214 : decode cX11_simulate 214 = .ok (.getfield 19, 3) := by decide +kernel
theorem dX11_simulate_217 : decode cX11_simulate 217 = .ok (.iload 9, 2) := by decide +kernel
theorem dX11_simulate_219 : decode cX11_simulate 219 = .ok (.aload_n 0, 1) := by decide +kernel
theorem dX11_simulate_220 : decode cX11_simulate 220 = .ok (.getfield 19, 3) := by decide +kernel
theorem dX11_simulate_223 : decode cX11_simulate 223 = .ok (.iconst 2, 1) := by decide +kernel
theorem dX11_simulate_224 : decode cX11_simulate 224 = .ok (.iaload, 1) := by decide +kernel
theorem dX11_simulate_225 : decode cX11_simulate 225 = .ok (.irem, 1) := by decide +kernel
theorem dX11_simulate_226 : decode cX11_simulate 226 = .ok (.invokestatic 211, 3) := by decide +kernel
theorem dX11_simulate_229 : decode cX11_simulate 229 = .ok (.ifCond .eq 22, 3) := by decide +kernel
theorem dX11_simulate_232 : decode cX11_simulate 232 = .ok (.aload_n 0, 1) := by decide +kernel
theorem dX11_simulate_233 : decode cX11_simulate 233 = .ok (.getfield 19, 3) := by decide +kernel
theorem dX11_simulate_236 : decode cX11_simulate 236 = .ok (.iload 8, 2) := by decide +kernel
theorem dX11_simulate_238 : decode cX11_simulate 238 = .ok (.iload 9, 2) := by decide +kernel
theorem dX11_simulate_240 : decode cX11_simulate 240 = .ok (.aload_n 0, 1) := by decide +kernel
theorem dX11_simulate_241 : decode cX11_simulate 241 = .ok (.getfield 19, 3) := by decide +kernel
theorem dX11_simulate_244 : decode cX11_simulate 244 = .ok (.iconst 2, 1) := by decide +kernel
theorem dX11_simulate_245 : decode cX11_simulate 245 = .ok (.iaload, 1) := by decide +kernel
theorem dX11_simulate_246 : decode cX11_simulate 246 = .ok (.irem, 1) := by decide +kernel
theorem dX11_simulate_247 : decode cX11_simulate 247 = .ok (.invokestatic 214, 3) := by decide +kernel
theorem dX11_simulate_250 : decode cX11_simulate 250 = .ok (.pop, 1) := by decide +kernel
theorem dX11_simulate_251 : decode cX11_simulate 251 = .ok (.aload_n 0, 1) := by decide +kernel
theorem dX11_simulate_252 : decode cX11_simulate 252 = .ok (.aload_n 0, 1) := by decide +kernel
theorem dX11_simulate_253 : decode cX11_simulate 253 = .ok (.getfield 19, 3) := by decide +kernel
theorem dX11_simulate_256 : decode cX11_simulate 256 = .ok (.invokevirtual 251, 3) := by decide +kernel
theorem dX11_simulate_259 : decode cX11_simulate 259 = .ok (.aload_n 0, 1) := by decide +kernel
theorem dX11_simulate_260 : decode cX11_simulate 260 = .ok (.getfield 19, 3) := by decide +kernel
theorem dX11_simulate_263 : decode cX11_simulate 263 = .ok (.invokestatic 226, 3) := by decide +kernel
theorem dX11_simulate_266 : decode cX11_simulate 266 = .ok (.pop, 1) := by decide +kernel
theorem dX11_simulate_267 : decode cX11_simulate 267 = .ok (.iinc 6 1, 3) := by decide +kernel
theorem dX11_simulate_270 : decode cX11_simulate 270 = .ok (.goto (-225), 3) := by decide +kernel
theorem dX11_simulate_273 : decode cX11_simulate 273 = .ok (.aload_n 0, 1) := by decide +kernel
theorem dX11_simulate_274 : decode cX11_simulate 274 = .ok (.getfield 19, 3) := by decide +kernel
theorem dX11_simulate_277 : decode cX11_simulate 277 = .ok (.iconst 0, 1) := by decide +kernel
theorem dX11_simulate_278 : decode cX11_simulate 278 = .ok (.invokestatic 234, 3) := by decide +kernel
theorem dX11_simulate_281 : decode cX11_simulate 281 = .ok (.istore 6, 2) := by decide +kernel
theorem dX11_simulate_283 : decode cX11_simulate 283 = .ok (.iconst 1, 1) := by decide +kernel
theorem dX11_simulate_284 : decode cX11_simulate 284 = .ok (.istore 7, 2) := by decide +kernel
theorem dX11_simulate_286 : decode cX11_simulate 286 = .ok (.iload 7, 2) := by decide +kernel
theorem dX11_simulate_288 : decode cX11_simulate 288 = .ok (.iconst 4, 1) := by decide +kernel
theorem dX11_simulate_289 : decode cX11_simulate 289 = .ok (.if_icmp .ge 39, 3) := by decide +kernel
theorem dX11_simulate_292 : decode cX11_simulate 292 = .ok (.aload_n 0, 1) := by decide +kernel
theorem dX11_simulate_293 : decode cX11_simulate 293 = .ok (.getfield 19, 3) := by decide +kernel
theorem dX11_simulate_296 : decode cX11_simulate 296 = .ok (.iload 7, 2) := by decide +kernel
theorem dX11_simulate_298 : decode cX11_simulate 298 = .ok (.invokestatic 234, 3) := by decide +kernel
theorem dX11_simulate_301 : decode cX11_simulate 301 = .ok (.iload 6, 2) := by decide +kernel
theorem dX11_simulate_303 : decode cX11_simulate 303 = .ok (.if_icmp .le 15, 3) := by decide +kernel
theorem dX11_simulate_306 : decode cX11_simulate 306 = .ok (.aload_n 0, 1) := by decide +kernel
theorem dX11_simulate_307 : decode cX11_simulate 307 = .ok (.getfield 19, 3) := by decide +kernel
theorem dX11_simulate_310 : decode cX11_simulate 310 = .ok (.iload 7, 2) := by decide +kernel
theorem dX11_simulate_312 : decode cX11_simulate 312 = .ok (.invokestatic 234, 3) := by decide +kernel
theorem dX11_simulate_315 : decode cX11_simulate 315 = .ok (.goto 5, 3) := by decide +kernel
theorem dX11_simulate_318 : decode cX11_simulate 318 = .ok (.iload 6, 2) := by decide +kernel
theorem dX11_simulate_320 : decode cX11_simulate 320 = .ok (.istore 6, 2) := by decide +kernel
theorem dX11_simulate_322 : decode cX11_simulate 322 = .ok (.iinc 7 1, 3) := by decide +kernel
theorem dX11_simulate_325 : decode cX11_simulate 325 = .ok (.goto (-39), 3) := by decide +kernel
theorem dX11_simulate_328 : decode cX11_simulate 328 = .ok (.iload 6, 2) := by decide +kernel
theorem dX11_simulate_330 : decode cX11_simulate 330 = .ok (.sipush 10000, 3) := by decide +kernel
theorem dX11_simulate_333 : decode cX11_simulate 333 = .ok (.aload_n 0, 1) := by decide +kernel
theorem dX11_simulate_334 : decode cX11_simulate 334 = .ok (.getfield 19, 3) := by decide +kernel
theorem dX11_simulate_337 : decode cX11_simulate 337 = .ok (.iconst 3, 1) := by decide +kernel
theorem dX11_simulate_338 : decode cX11_simulate 338 = .ok (.iaload, 1) := by decide +kernel
theorem dX11_simulate_339 : decode cX11_simulate 339 = .ok (.imul, 1) := by decide +kernel
theorem dX11_simulate_340 : decode cX11_simulate 340 = .ok (.iadd, 1) := by decide +kernel
theorem dX11_simulate_341 : decode cX11_simulate 341 = .ok (.ireturn, 1) := by decide +kernel
theorem dX11_save_0 : decode cX11_save 0 = .ok (.aload_n 0, 1) := by decide +kernel
theorem dX11_save_1 : decode cX11_save 1 = .ok (.iload_n 1, 1) := by decide +kernel
theorem dX11_save_2 : decode cX11_save 2 = .ok (.i2l, 1) := by decide +kernel
theorem dX11_save_3 : decode cX11_save 3 = .ok (.lconst 0, 1) := by decide +kernel
theorem dX11_save_4 : decode cX11_save 4 = .ok (.lconst 1, 1) := by decide +kernel
theorem dX11_save_5 : decode cX11_save 5 = .ok (.invokestatic 62, 3) := by decide +kernel
theorem dX11_save_8 : decode cX11_save 8 = .ok (.ifCond .eq 7, 3) := by decide +kernel
theorem dX11_save_11 : decode cX11_save 11 = .ok (.iconst 0, 1) := by decide +kernel
theorem dX11_save_12 : decode cX11_save 12 = .ok (.goto 4, 3) := by decide +kernel
theorem dX11_save_15 : decode cX11_save 15 = .ok (.iconst 1, 1) := by decide +kernel
theorem dX11_save_16 : decode cX11_save 16 = .ok (.invokevirtual 134, 3) := by decide +kernel
theorem dX11_save_19 : decode cX11_save 19 = .ok (.ifCond .eq 5, 3) := by decide +kernel
theorem dX11_save_22 : decode cX11_save 22 = .ok (.iconst 0, 1) := by decide +kernel
theorem dX11_save_23 : decode cX11_save 23 = .ok (.ireturn, 1) := by decide +kernel
theorem dX11_save_24 : decode cX11_save 24 = .ok (.aload_n 0, 1) := by decide +kernel
theorem dX11_save_25 : decode cX11_save 25 = .ok (.getfield 28, 3) := by decide +kernel
theorem dX11_save_28 : decode cX11_save 28 = .ok (.iload_n 1, 1) := by decide +kernel
theorem dX11_save_29 : decode cX11_save 29 = .ok (.iconst 1, 1) := by decide +kernel
theorem dX11_save_30 : decode cX11_save 30 = .ok (.bastore, 1) := by decide +kernel
theorem dX11_save_31 : decode cX11_save 31 = .ok (.aload_n 0, 1) := by decide +kernel
theorem dX11_save_32 : decode cX11_save 32 = .ok (.getfield 16, 3) := by decide +kernel
theorem dX11_save_35 : decode cX11_save 35 = .ok (.iconst 0, 1) := by decide +kernel
theorem dX11_save_36 : decode cX11_save 36 = .ok (.aload_n 0, 1) := by decide +kernel
theorem dX11_save_37 : decode cX11_save 37 = .ok (.getfield 25, 3) := by decide +kernel
theorem dX11_save_40 : decode cX11_save 40 = .ok (.sipush 175, 3) := by decide +kernel
theorem dX11_save_43 : decode cX11_save 43 = .ok (.iload_n 1, 1) := by decide +kernel
theorem dX11_save_44 : decode cX11_save 44 = .ok (.imul, 1) := by decide +kernel
theorem dX11_save_45 : decode cX11_save 45 = .ok (.invokestatic 162, 3) := by decide +kernel
theorem dX11_save_48 : decode cX11_save 48 = .ok (.aload_n 0, 1) := by decide +kernel
theorem dX11_save_49 : decode cX11_save 49 = .ok (.getfield 16, 3) := by decide +kernel
theorem dX11_save_52 : decode cX11_save 52 = .ok (.iconst 4, 1) := by decide +kernel
theorem dX11_save_53 : decode cX11_save 53 = .ok (.iaload, 1) := by decide +kernel
theorem dX11_save_54 : decode cX11_save 54 = .ok (.ireturn, 1) := by decide +kernel
theorem dX11_restore_0 : decode cX11_restore 0 = .ok (.aload_n 0, 1) := by decide +kernel
theorem dX11_restore_1 : decode cX11_restore 1 = .ok (.iload_n 1, 1) := by decide +kernel
theorem dX11_restore_2 : decode cX11_restore 2 = .ok (.i2l, 1) := by decide +kernel
theorem dX11_restore_3 : decode cX11_restore 3 = .ok (.lconst 0, 1) := by decide +kernel
theorem dX11_restore_4 : decode cX11_restore 4 = .ok (.lconst 1, 1) := by decide +kernel
theorem dX11_restore_5 : decode cX11_restore 5 = .ok (.invokestatic 62, 3) := by decide +kernel
theorem dX11_restore_8 : decode cX11_restore 8 = .ok (.ifCond .ne 7, 3) := by decide +kernel
theorem dX11_restore_11 : decode cX11_restore 11 = .ok (.iconst 1, 1) := by decide +kernel
theorem dX11_restore_12 : decode cX11_restore 12 = .ok (.goto 17, 3) := by decide +kernel
theorem dX11_restore_15 : decode cX11_restore 15 = .ok (.aload_n 0, 1) := by decide +kernel
theorem dX11_restore_16 : decode cX11_restore 16 = .ok (.getfield 28, 3) := by decide +kernel
theorem dX11_restore_19 : decode cX11_restore 19 = .ok (.iload_n 1, 1) := by decide +kernel
theorem dX11_restore_20 : decode cX11_restore 20 = .ok (.baload, 1) := by decide +kernel
theorem dX11_restore_21 : decode cX11_restore 21 = .ok (.ifCond .ne 7, 3) := by decide +kernel
theorem dX11_restore_24 : decode cX11_restore 24 = .ok (.iconst 2, 1) := by decide +kernel
theorem dX11_restore_25 : decode cX11_restore 25 = .ok (.goto 4, 3) := by decide +kernel
theorem dX11_restore_28 : decode cX11_restore 28 = .ok (.iconst 0, 1) := by decide +kernel
theorem dX11_restore_29 : decode cX11_restore 29 = .ok (.invokevirtual 134, 3) := by decide +kernel
theorem dX11_restore_32 : decode cX11_restore 32 = .ok (.ifCond .eq 5, 3) := by decide +kernel
theorem dX11_restore_35 : decode cX11_restore 35 = .ok (.iconst 0, 1) := by decide +kernel
theorem dX11_restore_36 : decode cX11_restore 36 = .ok (.ireturn, 1) := by decide +kernel
theorem dX11_restore_37 : decode cX11_restore 37 = .ok (.aload_n 0, 1) := by decide +kernel
theorem dX11_restore_38 : decode cX11_restore 38 = .ok (.getfield 25, 3) := by decide +kernel
theorem dX11_restore_41 : decode cX11_restore 41 = .ok (.sipush 175, 3) := by decide +kernel
theorem dX11_restore_44 : decode cX11_restore 44 = .ok (.iload_n 1, 1) := by decide +kernel
theorem dX11_restore_45 : decode cX11_restore 45 = .ok (.imul, 1) := by decide +kernel
theorem dX11_restore_46 : decode cX11_restore 46 = .ok (.aload_n 0, 1) := by decide +kernel
theorem dX11_restore_47 : decode cX11_restore 47 = .ok (.getfield 16, 3) := by decide +kernel
theorem dX11_restore_50 : decode cX11_restore 50 = .ok (.iconst 0, 1) := by decide +kernel
theorem dX11_restore_51 : decode cX11_restore 51 = .ok (.invokestatic 162, 3) := by decide +kernel
theorem dX11_restore_54 : decode cX11_restore 54 = .ok (.aload_n 0, 1) := by decide +kernel
theorem dX11_restore_55 : decode cX11_restore 55 = .ok (.iconst 0, 1) := by decide +kernel
theorem dX11_restore_56 : decode cX11_restore 56 = .ok (.putfield 166, 3) := by decide +kernel
theorem dX11_restore_59 : decode cX11_restore 59 = .ok (.aload_n 0, 1) := by decide +kernel
theorem dX11_restore_60 : decode cX11_restore 60 = .ok (.getfield 16, 3) := by decide +kernel
theorem dX11_restore_63 : decode cX11_restore 63 = .ok (.iconst 4, 1) := by decide +kernel
theorem dX11_restore_64 : decode cX11_restore 64 = .ok (.iaload, 1) := by decide +kernel
theorem dX11_restore_65 : decode cX11_restore 65 = .ok (.ireturn, 1) := by decide +kernel
theorem dJ9_max_7cf53_0 : decode cJ9_max_7cf53 0 = .ok (.iload_n 0, 1) := by decide +kernel
theorem dJ9_max_7cf53_1 : decode cJ9_max_7cf53 1 = .ok (.iload_n 1, 1) := by decide +kernel
theorem dJ9_max_7cf53_2 : decode cJ9_max_7cf53 2 = .ok (.if_icmp .lt 7, 3) := by decide +kernel
theorem dJ9_max_7cf53_5 : decode cJ9_max_7cf53 5 = .ok (.iload_n 0, 1) := by decide +kernel
theorem dJ9_max_7cf53_6 : decode cJ9_max_7cf53 6 = .ok (.goto 4, 3) := by decide +kernel
theorem dJ9_max_7cf53_9 : decode cJ9_max_7cf53 9 = .ok (.iload_n 1, 1) := by decide +kernel
theorem dJ9_max_7cf53_10 : decode cJ9_max_7cf53 10 = .ok (.ireturn, 1) := by decide +kernel
theorem dJ9_min_7cf53_0 : decode cJ9_min_7cf53 0 = .ok (.iload_n 0, 1) := by decide +kernel
theorem dJ9_min_7cf53_1 : decode cJ9_min_7cf53 1 = .ok (.iload_n 1, 1) := by decide +kernel
theorem dJ9_min_7cf53_2 : decode cJ9_min_7cf53 2 = .ok (.if_icmp .gt 7, 3) := by decide +kernel
theorem dJ9_min_7cf53_5 : decode cJ9_min_7cf53 5 = .ok (.iload_n 0, 1) := by decide +kernel
theorem dJ9_min_7cf53_6 : decode cJ9_min_7cf53 6 = .ok (.goto 4, 3) := by decide +kernel
theorem dJ9_min_7cf53_9 : decode cJ9_min_7cf53 9 = .ok (.iload_n 1, 1) := by decide +kernel
theorem dJ9_min_7cf53_10 : decode cJ9_min_7cf53 10 = .ok (.ireturn, 1) := by decide +kernel
