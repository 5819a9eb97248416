theorem dX7_mayGive_19 : decode cX7_mayGive 19 = .ok (.getfield 21, 3) := by decide +kernel
theorem dX7_mayGive_22 : decode cX7_mayGive 22 = .ok (.iload_n 2, 1) := by decide +kernel
theorem dX7_mayGive_23 : decode cX7_mayGive 23 = .ok (.invokevirtual 112, 3) := by decide +kernel
theorem dX7_mayGive_26 : decode cX7_mayGive 26 = .ok (.ifCond .eq 7, 3) := by decide +kernel
theorem dX7_mayGive_29 : decode cX7_mayGive 29 = .ok (.iconst 1, 1) := by decide +kernel
theorem dX7_mayGive_30 : decode cX7_mayGive 30 = .ok (.goto 4, 3) := by decide +kernel
theorem dX7_mayGive_33 : decode cX7_mayGive 33 = .ok (.iconst 0, 1) := by decide +kernel
theorem dX7_mayGive_34 : decode cX7_mayGive 34 = .ok (.ireturn, 1) := by decide +kernel
theorem dX7_payMail_0 : decode cX7_payMail 0 = .ok (.aload_n 0, 1) := by decide +kernel
theorem dX7_payMail_1 : decode cX7_payMail 1 = .ok (.getfield 28, 3) := by decide +kernel
theorem dX7_payMail_4 : decode cX7_payMail 4 = .ok (.iconst 4, 1) := by decide +kernel
theorem dX7_payMail_5 : decode cX7_payMail 5 = .ok (.iload_n 1, 1) := by decide +kernel
theorem dX7_payMail_6 : decode cX7_payMail 6 = .ok (.iload_n 2, 1) := by decide +kernel
theorem dX7_payMail_7 : decode cX7_payMail 7 = .ok (.invokevirtual 90, 3) := by decide +kernel
theorem dX7_payMail_10 : decode cX7_payMail 10 = .ok (.aload_n 0, 1) := by decide +kernel
theorem dX7_payMail_11 : decode cX7_payMail 11 = .ok (.dup, 1) := by decide +kernel
theorem dX7_payMail_12 : decode cX7_payMail 12 = .ok (.getfield 49, 3) := by decide +kernel
theorem dX7_payMail_15 : decode cX7_payMail 15 = .ok (.iload_n 2, 1) := by decide +kernel
theorem dX7_payMail_16 : decode cX7_payMail 16 = .ok (.iadd, 1) := by decide +kernel
theorem dX7_payMail_17 : decode cX7_payMail 17 = .ok (.putfield 49, 3) := by decide +kernel
theorem dX7_payMail_20 : decode cX7_payMail 20 = .ok (.return_, 1) := by decide +kernel
theorem dX7_closeRound_0 : decode cX7_closeRound 0 = .ok (.aload_n 0, 1) := by decide +kernel
theorem dX7_closeRound_1 : decode cX7_closeRound 1 = .ok (.invokevirtual 115, 3) := by decide +kernel
theorem dX7_closeRound_4 : decode cX7_closeRound 4 = .ok (.aload_n 0, 1) := by decide +kernel
theorem dX7_closeRound_5 : decode cX7_closeRound 5 = .ok (.invokevirtual 118, 3) := by decide +kernel
theorem dX7_closeRound_8 : decode cX7_closeRound 8 = .ok (.aload_n 0, 1) := by decide +kernel
theorem dX7_closeRound_9 : decode cX7_closeRound 9 = .ok (.invokevirtual 121, 3) := by decide +kernel
theorem dX7_closeRound_12 : decode cX7_closeRound 12 = .ok (.istore_n 1, 1) := by decide +kernel
theorem dX7_closeRound_13 : decode cX7_closeRound 13 = .ok (.aload_n 0, 1) := by decide +kernel
theorem dX7_closeRound_14 : decode cX7_closeRound 14 = .ok (.dup, 1) := by decide +kernel
theorem dX7_closeRound_15 : decode cX7_closeRound 15 = .ok (.getfield 46, 3) := by decide +kernel
theorem dX7_closeRound_18 : decode cX7_closeRound 18 = .ok (.iconst 1, 1) := by decide +kernel
theorem dX7_closeRound_19 : decode cX7_closeRound 19 = .ok (.iadd, 1) := by decide +kernel
theorem dX7_closeRound_20 : decode cX7_closeRound 20 = .ok (.putfield 46, 3) := by decide +kernel
theorem dX7_closeRound_23 : decode cX7_closeRound 23 = .ok (.aload_n 0, 1) := by decide +kernel
theorem dX7_closeRound_24 : decode cX7_closeRound 24 = .ok (.getfield 21, 3) := by decide +kernel
theorem dX7_closeRound_27 : decode cX7_closeRound 27 = .ok (.getfield 125, 3) := by decide +kernel
theorem dX7_closeRound_30 : decode cX7_closeRound 30 = .ok (.iconst 0, 1) := by decide +kernel
theorem dX7_closeRound_31 : decode cX7_closeRound 31 = .ok (.invokestatic 128, 3) := by decide +kernel
theorem dX7_closeRound_34 : decode cX7_closeRound 34 = .ok (.aload_n 0, 1) := by decide +kernel
theorem dX7_closeRound_35 : decode cX7_closeRound 35 = .ok (.getfield 28, 3) := by decide +kernel
theorem dX7_closeRound_38 : decode cX7_closeRound 38 = .ok (.getfield 132, 3) := by decide +kernel
theorem dX7_closeRound_41 : decode cX7_closeRound 41 = .ok (.iconst 0, 1) := by decide +kernel
theorem dX7_closeRound_42 : decode cX7_closeRound 42 = .ok (.invokestatic 128, 3) := by decide +kernel
theorem dX7_closeRound_45 : decode cX7_closeRound 45 = .ok (.iload_n 1, 1) := by decide +kernel
theorem dX7_closeRound_46 : decode cX7_closeRound 46 = .ok (.ireturn, 1) := by decide +kernel
theorem dX7_serveContracts_0 : decode cX7_serveContracts 0 = .ok (.iconst 0, 1) := by decide +kernel
theorem dX7_serveContracts_1 : decode cX7_serveContracts 1 = .ok (.istore_n 1, 1) := by decide +kernel
theorem dX7_serveContracts_2 : decode cX7_serveContracts 2 = .ok (.iload_n 1, 1) := by decide +kernel
theorem dX7_serveContracts_3 : decode cX7_serveContracts 3 = .ok (.aload_n 0, 1) := by decide +kernel
theorem dX7_serveContracts_4 : decode cX7_serveContracts 4 = .ok (.getfield 21, 3) := by decide +kernel
theorem dX7_serveContracts_7 : decode cX7_serveContracts 7 = .ok (.getfield 36, 3) := by decide +kernel
theorem dX7_serveContracts_10 : decode cX7_serveContracts 10 = .ok (.if_icmp .ge 85, 3) := by decide +kernel
theorem dX7_serveContracts_13 : decode cX7_serveContracts 13 = .ok (.aload_n 0, 1) := by decide +kernel
theorem dX7_serveContracts_14 : decode cX7_serveContracts 14 = .ok (.getfield 21, 3) := by decide +kernel
theorem dX7_serveContracts_17 : decode cX7_serveContracts 17 = .ok (.iload_n 1, 1) := by decide +kernel
theorem dX7_serveContracts_18 : decode cX7_serveContracts 18 = .ok (.invokevirtual 112, 3) := by decide +kernel
theorem dX7_serveContracts_21 : decode cX7_serveContracts 21 = .ok (.ifCond .ne 68, 3) := by decide +kernel
theorem dX7_serveContracts_24 : decode cX7_serveContracts 24 = .ok (.aload_n 0, 1) := by decide +kernel
theorem dX7_serveContracts_25 : decode cX7_serveContracts 25 = .ok (.getfield 21, 3) := by decide +kernel
theorem dX7_serveContracts_28 : decode cX7_serveContracts 28 = .ok (.getfield 125, 3) := by decide +kernel
theorem dX7_serveContracts_31 : decode cX7_serveContracts 31 = .ok (.iload_n 1, 1) := by decide +kernel
theorem dX7_serveContracts_32 : decode cX7_serveContracts 32 = .ok (.invokestatic 82, 3) := by decide +kernel
theorem dX7_serveContracts_35 : decode cX7_serveContracts 35 = .ok (.ifCond .ne 30, 3) := by decide +kernel
theorem dX7_serveContracts_38 : decode cX7_serveContracts 38 = .ok (.aload_n 0, 1) := by decide +kernel
theorem dX7_serveContracts_39 : decode cX7_serveContracts 39 = .ok (.getfield 28, 3) := by decide +kernel
theorem dX7_serveContracts_42 : decode cX7_serveContracts 42 = .ok (.aload_n 0, 1) := by decide +kernel
theorem dX7_serveContracts_43 : decode cX7_serveContracts 43 = .ok (.getfield 21, 3) := by decide +kernel
theorem dX7_serveContracts_46 : decode cX7_serveContracts 46 = .ok (.iload_n 1, 1) := by decide +kernel
theorem dX7_serveContracts_47 : decode cX7_serveContracts 47 = .ok (.invokevirtual 133, 3) := by decide +kernel
theorem dX7_serveContracts_50 : decode cX7_serveContracts 50 = .ok (.iconst 4, 1) := by decide +kernel
theorem dX7_serveContracts_51 : decode cX7_serveContracts 51 = .ok (.iconst 5, 1) := by decide +kernel
theorem dX7_serveContracts_52 : decode cX7_serveContracts 52 = .ok (.invokevirtual 90, 3) := by decide +kernel
theorem dX7_serveContracts_55 : decode cX7_serveContracts 55 = .ok (.aload_n 0, 1) := by decide +kernel
theorem dX7_serveContracts_56 : decode cX7_serveContracts 56 = .ok (.dup, 1) := by decide +kernel
theorem dX7_serveContracts_57 : decode cX7_serveContracts 57 = .ok (.getfield 52, 3) := by decide +kernel
theorem dX7_serveContracts_60 : decode cX7_serveContracts 60 = .ok (.iconst 5, 1) := by decide +kernel
theorem dX7_serveContracts_61 : decode cX7_serveContracts 61 = .ok (.iadd, 1) := by decide +kernel
theorem dX7_serveContracts_62 : decode cX7_serveContracts 62 = .ok (.putfield 52, 3) := by decide +kernel
theorem dX7_serveContracts_65 : decode cX7_serveContracts 65 = .ok (.aload_n 0, 1) := by decide +kernel
theorem dX7_serveContracts_66 : decode cX7_serveContracts 66 = .ok (.getfield 21, 3) := by decide +kernel
theorem dX7_serveContracts_69 : decode cX7_serveContracts 69 = .ok (.getfield 136, 3) := by decide +kernel
theorem dX7_serveContracts_72 : decode cX7_serveContracts 72 = .ok (.iload_n 1, 1) := by decide +kernel
theorem dX7_serveContracts_73 : decode cX7_serveContracts 73 = .ok (.aload_n 0, 1) := by decide +kernel
theorem dX7_serveContracts_74 : decode cX7_serveContracts 74 = .ok (.getfield 21, 3) := by decide +kernel
theorem dX7_serveContracts_77 : decode cX7_serveContracts 77 = .ok (.getfield 136, 3) := by decide +kernel
theorem dX7_serveContracts_80 : decode cX7_serveContracts 80 = .ok (.iload_n 1, 1) := by decide +kernel
theorem dX7_serveContracts_81 : decode cX7_serveContracts 81 = .ok (.invokestatic 82, 3) := by decide +kernel
theorem dX7_serveContracts_84 : decode cX7_serveContracts 84 = .ok (.iconst 1, 1) := by decide +kernel
theorem dX7_serveContracts_85 : decode cX7_serveContracts 85 = .ok (.isub, 1) := by decide +kernel
theorem dX7_serveContracts_86 : decode cX7_serveContracts 86 = .ok (.invokestatic 97, 3) := by decide +kernel
theorem dX7_serveContracts_89 : decode cX7_serveContracts 89 = .ok (.iinc 1 1, 3) := by decide +kernel
theorem dX7_serveContracts_92 : decode cX7_serveContracts 92 = .ok (.goto (-90), 3) := by decide +kernel
theorem dX7_serveContracts_95 : decode cX7_serveContracts 95 = .ok (.aload_n 0, 1) := by decide +kernel
theorem dX7_serveContracts_96 : decode cX7_serveContracts 96 = .ok (.getfield 21, 3) := by decide +kernel
theorem dX7_serveContracts_99 : decode cX7_serveContracts 99 = .ok (.invokevirtual 139, 3) := by decide +kernel
theorem dX7_serveContracts_102 : decode cX7_serveContracts 102 = .ok (.return_, 1) := by decide +kernel
theorem dX7_payUpkeep_0 : decode cX7_payUpkeep 0 = .ok (.iconst 0, 1) := by decide +kernel
theorem dX7_payUpkeep_1 : decode cX7_payUpkeep 1 = .ok (.istore_n 1, 1) := by decide +kernel
theorem dX7_payUpkeep_2 : decode cX7_payUpkeep 2 = .ok (.iload_n 1, 1) := by decide +kernel
theorem dX7_payUpkeep_3 : decode cX7_payUpkeep 3 = .ok (.iconst 4, 1) := by decide +kernel
theorem dX7_payUpkeep_4 : decode cX7_payUpkeep 4 = .ok (.if_icmp .ge 35, 3) := by decide +kernel
theorem dX7_payUpkeep_7 : decode cX7_payUpkeep 7 = .ok (.aload_n 0, 1) := by decide +kernel
theorem dX7_payUpkeep_8 : decode cX7_payUpkeep 8 = .ok (.getfield 28, 3) := by decide +kernel
theorem dX7_payUpkeep_11 : decode cX7_payUpkeep 11 = .ok (.iload_n 1, 1) := by decide +kernel
theorem dX7_payUpkeep_12 : decode cX7_payUpkeep 12 = .ok (.iconst 4, 1) := by decide +kernel
theorem dX7_payUpkeep_13 : decode cX7_payUpkeep 13 = .ok (.aload_n 0, 1) := by decide +kernel
theorem dX7_payUpkeep_14 : decode cX7_payUpkeep 14 = .ok (.getfield 12, 3) := by decide +kernel
theorem dX7_payUpkeep_17 : decode cX7_payUpkeep 17 = .ok (.iload_n 1, 1) := by decide +kernel
theorem dX7_payUpkeep_18 : decode cX7_payUpkeep 18 = .ok (.invokevirtual 142, 3) := by decide +kernel
theorem dX7_payUpkeep_21 : decode cX7_payUpkeep 21 = .ok (.aload_n 0, 1) := by decide +kernel
theorem dX7_payUpkeep_22 : decode cX7_payUpkeep 22 = .ok (.getfield 28, 3) := by decide +kernel
theorem dX7_payUpkeep_25 : decode cX7_payUpkeep 25 = .ok (.iload_n 1, 1) := by decide +kernel
theorem dX7_payUpkeep_26 : decode cX7_payUpkeep 26 = .ok (.invokevirtual 145, 3) := by decide +kernel
theorem dX7_payUpkeep_29 : decode cX7_payUpkeep 29 = .ok (.iadd, 1) := by decide +kernel
theorem dX7_payUpkeep_30 : decode cX7_payUpkeep 30 = .ok (.invokevirtual 90, 3) := by decide +kernel
theorem dX7_payUpkeep_33 : decode cX7_payUpkeep 33 = .ok (.iinc 1 1, 3) := by decide +kernel
theorem dX7_payUpkeep_36 : decode cX7_payUpkeep 36 = .ok (.goto (-34), 3) := by decide +kernel
theorem dX7_payUpkeep_39 : decode cX7_payUpkeep 39 = .ok (.return_, 1) := by decide +kernel
theorem dX7_settle_0 : decode cX7_settle 0 = .ok (.iconst 0, 1) := by decide +kernel
theorem dX7_settle_1 : decode cX7_settle 1 = .ok (.istore_n 1, 1) := by decide +kernel
theorem dX7_settle_2 : decode cX7_settle 2 = .ok (.iconst 0, 1) := by decide +kernel
theorem dX7_settle_3 : decode cX7_settle 3 = .ok (.istore_n 2, 1) := by decide +kernel
theorem dX7_settle_4 : decode cX7_settle 4 = .ok (.iload_n 2, 1) := by decide +kernel
theorem dX7_settle_5 : decode cX7_settle 5 = .ok (.iconst 4, 1) := by decide +kernel
theorem dX7_settle_6 : decode cX7_settle 6 = .ok (.if_icmp .ge 50, 3) := by decide +kernel
theorem dX7_settle_9 : decode cX7_settle 9 = .ok (.aload_n 0, 1) := by decide +kernel
theorem dX7_settle_10 : decode cX7_settle 10 = .ok (.getfield 28, 3) := by decide +kernel
theorem dX7_settle_13 : decode cX7_settle 13 = .ok (.getfield 78, 3) := by decide +kernel
theorem dX7_settle_16 : decode cX7_settle 16 = .ok (.iload_n 2, 1) := by decide +kernel
theorem dX7_settle_17 : decode cX7_settle 17 = .ok (.invokestatic 82, 3) := by decide +kernel
theorem dX7_settle_20 : decode cX7_settle 20 = .ok (.ifCond .ge 30, 3) := by decide +kernel
theorem dX7_settle_23 : decode cX7_settle 23 = .ok (.aload_n 0, 1) := by decide +kernel
theorem dX7_settle_24 : decode cX7_settle 24 = .ok (.getfield 28, 3) := by decide +kernel
theorem dX7_settle_27 : decode cX7_settle 27 = .ok (.iload_n 2, 1) := by decide +kernel
theorem dX7_settle_28 : decode cX7_settle 28 = .ok (.invokevirtual 148, 3) := by decide +kernel
theorem dX7_settle_31 : decode cX7_settle 31 = .ok (.aload_n 0, 1) := by decide +kernel
theorem dX7_settle_32 : decode cX7_settle 32 = .ok (.getfield 12, 3) := by decide +kernel
theorem dX7_settle_35 : decode cX7_settle 35 = .ok (.iload_n 2, 1) := by decide +kernel
theorem dX7_settle_36 : decode cX7_settle 36 = .ok (.invokevirtual 152, 3) := by decide +kernel
theorem dX7_settle_39 : decode cX7_settle 39 = .ok (.aload_n 0, 1) := by decide +kernel
theorem dX7_settle_40 : decode cX7_settle 40 = .ok (.getfield 21, 3) := by decide +kernel
theorem dX7_settle_43 : decode cX7_settle 43 = .ok (.iload_n 2, 1) := by decide +kernel
theorem dX7_settle_44 : decode cX7_settle 44 = .ok (.invokevirtual 155, 3) := by decide +kernel
theorem dX7_settle_47 : decode cX7_settle 47 = .ok (.iinc 1 1, 3) := by decide +kernel
theorem dX7_settle_50 : decode cX7_settle 50 = .ok (.iinc 2 1, 3) := by decide +kernel
theorem dX7_settle_53 : decode cX7_settle 53 = .ok (.goto (-49), 3) := by decide +kernel
theorem dX7_settle_56 : decode cX7_settle 56 = .ok (.iload_n 1, 1) := by decide +kernel
theorem dX7_settle_57 : decode cX7_settle 57 = .ok (.ireturn, 1) := by decide +kernel
theorem dX7_worthOf_0 : decode cX7_worthOf 0 = .ok (.aload_n 0, 1) := by decide +kernel
theorem dX7_worthOf_1 : decode cX7_worthOf 1 = .ok (.getfield 28, 3) := by decide +kernel
theorem dX7_worthOf_4 : decode cX7_worthOf 4 = .ok (.getfield 78, 3) := by decide +kernel
theorem dX7_worthOf_7 : decode cX7_worthOf 7 = .ok (.iload_n 1, 1) := by decide +kernel
theorem dX7_worthOf_8 : decode cX7_worthOf 8 = .ok (.invokestatic 82, 3) := by decide +kernel
theorem dX7_worthOf_11 : decode cX7_worthOf 11 = .ok (.iconst 3, 1) := by decide +kernel
theorem dX7_worthOf_12 : decode cX7_worthOf 12 = .ok (.aload_n 0, 1) := by decide +kernel
theorem dX7_worthOf_13 : decode cX7_worthOf 13 = .ok (.getfield 12, 3) := by decide +kernel
theorem dX7_worthOf_16 : decode cX7_worthOf 16 = .ok (.iload_n 1, 1) := by decide +kernel
theorem dX7_worthOf_17 : decode cX7_worthOf 17 = .ok (.invokevirtual 158, 3) := by decide +kernel
theorem dX7_worthOf_20 : decode cX7_worthOf 20 = .ok (.imul, 1) := by decide +kernel
theorem dX7_worthOf_21 : decode cX7_worthOf 21 = .ok (.iadd, 1) := by decide +kernel
theorem dX7_worthOf_22 : decode cX7_worthOf 22 = .ok (.bipush 10, 2) := by decide +kernel
theorem dX7_worthOf_24 : decode cX7_worthOf 24 = .ok (.aload_n 0, 1) := by decide +kernel
theorem dX7_worthOf_25 : decode cX7_worthOf 25 = .ok (.getfield 28, 3) := by decide +kernel
theorem dX7_worthOf_28 : decode cX7_worthOf 28 = .ok (.iload_n 1, 1) := by decide +kernel
theorem dX7_worthOf_29 : decode cX7_worthOf 29 = .ok (.invokevirtual 145, 3) := by decide +kernel
theorem dX7_worthOf_32 : decode cX7_worthOf 32 = .ok (.imul, 1) := by decide +kernel
theorem dX7_worthOf_33 : decode cX7_worthOf 33 = .ok (.iadd, 1) := by decide +kernel
theorem dX7_worthOf_34 : decode cX7_worthOf 34 = .ok (.ireturn, 1) := by decide +kernel
theorem dX7_greatestWorth_0 : decode cX7_greatestWorth 0 = .ok (.aload_n 0, 1) := by decide +kernel
theorem dX7_greatestWorth_1 : decode cX7_greatestWorth 1 = .ok (.iconst 0, 1) := by decide +kernel
theorem dX7_greatestWorth_2 : decode cX7_greatestWorth 2 = .ok (.invokevirtual 161, 3) := by decide +kernel
theorem dX7_greatestWorth_5 : decode cX7_greatestWorth 5 = .ok (.istore_n 1, 1) := by decide +kernel
theorem dX7_greatestWorth_6 : decode cX7_greatestWorth 6 = .ok (.iconst 1, 1) := by decide +kernel
theorem dX7_greatestWorth_7 : decode cX7_greatestWorth 7 = .ok (.istore_n 2, 1) := by decide +kernel
theorem dX7_greatestWorth_8 : decode cX7_greatestWorth 8 = .ok (.iload_n 2, 1) := by decide +kernel
theorem dX7_greatestWorth_9 : decode cX7_greatestWorth 9 = .ok (.iconst 4, 1) := by decide +kernel
theorem dX7_greatestWorth_10 : decode cX7_greatestWorth 10 = .ok (.if_icmp .ge 19, 3) := by decide +kernel
theorem dX7_greatestWorth_13 : decode cX7_greatestWorth 13 = .ok (.iload_n 1, 1) := by decide +kernel
theorem dX7_greatestWorth_14 : decode cX7_greatestWorth 14 = .ok (.aload_n 0, 1) := by decide +kernel
theorem dX7_greatestWorth_15 : decode cX7_greatestWorth 15 = .ok (.iload_n 2, 1) := by decide +kernel
theorem dX7_greatestWorth_16 : decode cX7_greatestWorth 16 = .ok (.invokevirtual 161, 3) := by decide +kernel
theorem dX7_greatestWorth_19 : decode cX7_greatestWorth 19 = .ok (.invokestatic 164, 3) := by decide +kernel
theorem dX7_greatestWorth_22 : decode cX7_greatestWorth 22 = .ok (.istore_n 1, 1) := by decide +kernel
theorem dX7_greatestWorth_23 : decode cX7_greatestWorth 23 = .ok (.iinc 2 1, 3) := by decide +kernel
theorem dX7_greatestWorth_26 : decode cX7_greatestWorth 26 = .ok (.goto (-18), 3) := by decide +kernel
theorem dX7_greatestWorth_29 : decode cX7_greatestWorth 29 = .ok (.iload_n 1, 1) := by decide +kernel
theorem dX7_greatestWorth_30 : decode cX7_greatestWorth 30 = .ok (.ireturn, 1) := by decide +kernel
theorem dX7_dealByChance_0 : decode cX7_dealByChance 0 = .ok (.iload_n 1, 1) := by decide +kernel
theorem dX7_dealByChance_1 : decode cX7_dealByChance 1 = .ok (.bipush 8, 2) := by decide +kernel
theorem dX7_dealByChance_3 : decode cX7_dealByChance 3 = .ok (.idiv, 1) := by decide +kernel
theorem dX7_dealByChance_4 : decode cX7_dealByChance 4 = .ok (.iconst 4, 1) := by decide +kernel
theorem dX7_dealByChance_5 : decode cX7_dealByChance 5 = .ok (.irem, 1) := by decide +kernel
theorem dX7_dealByChance_6 : decode cX7_dealByChance 6 = .ok (.istore_n 2, 1) := by decide +kernel
theorem dX7_dealByChance_7 : decode cX7_dealByChance 7 = .ok (.iload_n 1, 1) := by decide +kernel
theorem dX7_dealByChance_8 : decode cX7_dealByChance 8 = .ok (.bipush 32, 2) := by decide +kernel
theorem dX7_dealByChance_10 : decode cX7_dealByChance 10 = .ok (.idiv, 1) := by decide +kernel
theorem dX7_dealByChance_11 : decode cX7_dealByChance 11 = .ok (.istore_n 3, 1) := by decide +kernel
theorem dX7_dealByChance_12 : decode cX7_dealByChance 12 = .ok (.iload_n 1, 1) := by decide +kernel
theorem dX7_dealByChance_13 : decode cX7_dealByChance 13 = .ok (.bipush 8, 2) := by decide +kernel
theorem dX7_dealByChance_15 : decode cX7_dealByChance 15 = .ok (.irem, 1) := by decide +kernel
theorem dX7_dealByChance_16 : decode cX7_dealByChance 16 = .ok (.tableswitch 109 0 2 #[28, 43, 76], 28) := by decide +kernel
theorem dX7_dealByChance_44 : decode cX7_dealByChance 44 = .ok (.aload_n 0, 1) := by decide +kernel
theorem dX7_dealByChance_45 : decode cX7_dealByChance 45 = .ok (.iload_n 2, 1) := by decide +kernel
theorem dX7_dealByChance_46 : decode cX7_dealByChance 46 = .ok (.iconst 1, 1) := by decide +kernel
theorem dX7_dealByChance_47 : decode cX7_dealByChance 47 = .ok (.iload_n 3, 1) := by decide +kernel
theorem dX7_dealByChance_48 : decode cX7_dealByChance 48 = .ok (.bipush 6, 2) := by decide +kernel
theorem dX7_dealByChance_50 : decode cX7_dealByChance 50 = .ok (.irem, 1) := by decide +kernel
theorem dX7_dealByChance_51 : decode cX7_dealByChance 51 = .ok (.iadd, 1) := by decide +kernel
theorem dX7_dealByChance_52 : decode cX7_dealByChance 52 = .ok (.invokevirtual 170, 3) := by decide +kernel
theorem dX7_dealByChance_55 : decode cX7_dealByChance 55 = .ok (.pop, 1) := by decide +kernel
theorem dX7_dealByChance_56 : decode cX7_dealByChance 56 = .ok (.goto 69, 3) := by decide +kernel
theorem dX7_dealByChance_59 : decode cX7_dealByChance 59 = .ok (.aload_n 0, 1) := by decide +kernel
theorem dX7_dealByChance_60 : decode cX7_dealByChance 60 = .ok (.iload_n 2, 1) := by decide +kernel
theorem dX7_dealByChance_61 : decode cX7_dealByChance 61 = .ok (.aload_n 0, 1) := by decide +kernel
theorem dX7_dealByChance_62 : decode cX7_dealByChance 62 = .ok (.getfield 12, 3) := by decide +kernel
theorem dX7_dealByChance_65 : decode cX7_dealByChance 65 = .ok (.getfield 32, 3) := by decide +kernel
theorem dX7_dealByChance_68 : decode cX7_dealByChance 68 = .ok (.ifCond .le 15, 3) := by decide +kernel
theorem dX7_dealByChance_71 : decode cX7_dealByChance 71 = .ok (.iload_n 3, 1) := by decide +kernel
theorem dX7_dealByChance_72 : decode cX7_dealByChance 72 = .ok (.aload_n 0, 1) := by decide +kernel
theorem dX7_dealByChance_73 : decode cX7_dealByChance 73 = .ok (.getfield 12, 3) := by decide +kernel
theorem dX7_dealByChance_76 : decode cX7_dealByChance 76 = .ok (.getfield 32, 3) := by decide +kernel
theorem dX7_dealByChance_79 : decode cX7_dealByChance 79 = .ok (.irem, 1) := by decide +kernel
theorem dX7_dealByChance_80 : decode cX7_dealByChance 80 = .ok (.goto 5, 3) := by decide +kernel
theorem dX7_dealByChance_83 : decode cX7_dealByChance 83 = .ok (.bipush (-9), 2) := by decide +kernel
theorem dX7_dealByChance_85 : decode cX7_dealByChance 85 = .ok (.invokevirtual 174, 3) := by decide +kernel
theorem dX7_dealByChance_88 : decode cX7_dealByChance 88 = .ok (.pop, 1) := by decide +kernel
theorem dX7_dealByChance_89 : decode cX7_dealByChance 89 = .ok (.goto 36, 3) := by decide +kernel
theorem dX7_dealByChance_92 : decode cX7_dealByChance 92 = .ok (.aload_n 0, 1) := by decide +kernel
theorem dX7_dealByChance_93 : decode cX7_dealByChance 93 = .ok (.iload_n 2, 1) := by decide +kernel
theorem dX7_dealByChance_94 : decode cX7_dealByChance 94 = .ok (.aload_n 0, 1) := by decide +kernel
theorem dX7_dealByChance_95 : decode cX7_dealByChance 95 = .ok (.getfield 21, 3) := by decide +kernel
theorem dX7_dealByChance_98 : decode cX7_dealByChance 98 = .ok (.getfield 36, 3) := by decide +kernel
theorem dX7_dealByChance_101 : decode cX7_dealByChance 101 = .ok (.ifCond .le 15, 3) := by decide +kernel
theorem dX7_dealByChance_104 : decode cX7_dealByChance 104 = .ok (.iload_n 3, 1) := by decide +kernel
theorem dX7_dealByChance_105 : decode cX7_dealByChance 105 = .ok (.aload_n 0, 1) := by decide +kernel
theorem dX7_dealByChance_106 : decode cX7_dealByChance 106 = .ok (.getfield 21, 3) := by decide +kernel
theorem dX7_dealByChance_109 : decode cX7_dealByChance 109 = .ok (.getfield 36, 3) := by decide +kernel
theorem dX7_dealByChance_112 : decode cX7_dealByChance 112 = .ok (.irem, 1) := by decide +kernel
theorem dX7_dealByChance_113 : decode cX7_dealByChance 113 = .ok (.goto 5, 3) := by decide +kernel
theorem dX7_dealByChance_116 : decode cX7_dealByChance 116 = .ok (.bipush (-9), 2) := by decide +kernel
theorem dX7_dealByChance_118 : decode cX7_dealByChance 118 = .ok (.invokevirtual 177, 3) := by decide +kernel
theorem dX7_dealByChance_121 : decode cX7_dealByChance 121 = .ok (.pop, 1) := by decide +kernel
theorem dX7_dealByChance_122 : decode cX7_dealByChance 122 = .ok (.goto 3, 3) := by decide +kernel
theorem dX7_dealByChance_125 : decode cX7_dealByChance 125 = .ok (.return_, 1) := by decide +kernel
theorem dX7_tryTrack_0 : decode cX7_tryTrack 0 = .ok (.aload_n 0, 1) := by decide +kernel
theorem dX7_tryTrack_1 : decode cX7_tryTrack 1 = .ok (.iload_n 1, 1) := by decide +kernel
theorem dX7_tryTrack_2 : decode cX7_tryTrack 2 = .ok (.iload_n 2, 1) := by decide +kernel
theorem dX7_tryTrack_3 : decode cX7_tryTrack 3 = .ok (.invokevirtual 180, 3) := by decide +kernel
theorem dX7_tryTrack_6 : decode cX7_tryTrack 6 = .ok (.istore_n 3, 1) := by decide +kernel
theorem dX7_tryTrack_7 : decode cX7_tryTrack 7 = .ok (.iload_n 3, 1) := by decide +kernel
theorem dX7_tryTrack_8 : decode cX7_tryTrack 8 = .ok (.ifCond .eq 9, 3) := by decide +kernel
theorem dX7_tryTrack_11 : decode cX7_tryTrack 11 = .ok (.aload_n 0, 1) := by decide +kernel
theorem dX7_tryTrack_12 : decode cX7_tryTrack 12 = .ok (.iload_n 1, 1) := by decide +kernel
theorem dX7_tryTrack_13 : decode cX7_tryTrack 13 = .ok (.iload_n 2, 1) := by decide +kernel
theorem dX7_tryTrack_14 : decode cX7_tryTrack 14 = .ok (.invokevirtual 183, 3) := by decide +kernel
theorem dX7_tryTrack_17 : decode cX7_tryTrack 17 = .ok (.iload_n 3, 1) := by decide +kernel
theorem dX7_tryTrack_18 : decode cX7_tryTrack 18 = .ok (.ireturn, 1) := by decide +kernel
theorem dX7_tryTrain_0 : decode cX7_tryTrain 0 = .ok (.aload_n 0, 1) := by decide +kernel
theorem dX7_tryTrain_1 : decode cX7_tryTrain 1 = .ok (.iload_n 1, 1) := by decide +kernel
theorem dX7_tryTrain_2 : decode cX7_tryTrain 2 = .ok (.iload_n 2, 1) := by decide +kernel
theorem dX7_tryTrain_3 : decode cX7_tryTrain 3 = .ok (.invokevirtual 186, 3) := by decide +kernel
theorem dX7_tryTrain_6 : decode cX7_tryTrain 6 = .ok (.istore_n 3, 1) := by decide +kernel
theorem dX7_tryTrain_7 : decode cX7_tryTrain 7 = .ok (.iload_n 3, 1) := by decide +kernel
theorem dX7_tryTrain_8 : decode cX7_tryTrain 8 = .ok (.ifCond .eq 10, 3) := by decide +kernel
theorem dX7_tryTrain_11 : decode cX7_tryTrain 11 = .ok (.aload_n 0, 1) := by decide +kernel
theorem dX7_tryTrain_12 : decode cX7_tryTrain 12 = .ok (.iload_n 1, 1) := by decide +kernel
theorem dX7_tryTrain_13 : decode cX7_tryTrain 13 = .ok (.iload_n 2, 1) := by decide +kernel
theorem dX7_tryTrain_14 : decode cX7_tryTrain 14 = .ok (.invokevirtual 189, 3) := by decide +kernel
theorem dX7_tryTrain_17 : decode cX7_tryTrain 17 = .ok (.pop, 1) := by decide +kernel
theorem dX7_tryTrain_18 : decode cX7_tryTrain 18 = .ok (.iload_n 3, 1) := by decide +kernel
theorem dX7_tryTrain_19 : decode cX7_tryTrain 19 = .ok (.ireturn, 1) := by decide +kernel
theorem dX7_tryContract_0 : decode cX7_tryContract 0 = .ok (.aload_n 0, 1) := by decide +kernel
theorem dX7_tryContract_1 : decode cX7_tryContract 1 = .ok (.iload_n 1, 1) := by decide +kernel
theorem dX7_tryContract_2 : decode cX7_tryContract 2 = .ok (.iload_n 2, 1) := by decide +kernel
theorem dX7_tryContract_3 : decode cX7_tryContract 3 = .ok (.invokevirtual 192, 3) := by decide +kernel
theorem dX7_tryContract_6 : decode cX7_tryContract 6 = .ok (.istore_n 3, 1) := by decide +kernel
theorem dX7_tryContract_7 : decode cX7_tryContract 7 = .ok (.iload_n 3, 1) := by decide +kernel
theorem dX7_tryContract_8 : decode cX7_tryContract 8 = .ok (.ifCond .eq 12, 3) := by decide +kernel
theorem dX7_tryContract_11 : decode cX7_tryContract 11 = .ok (.aload_n 0, 1) := by decide +kernel
theorem dX7_tryContract_12 : decode cX7_tryContract 12 = .ok (.getfield 21, 3) := by decide +kernel
theorem dX7_tryContract_15 : decode cX7_tryContract 15 = .ok (.iload_n 2, 1) := by decide +kernel
theorem dX7_tryContract_16 : decode cX7_tryContract 16 = .ok (.iload_n 1, 1) := by decide +kernel
theorem dX7_tryContract_17 : decode cX7_tryContract 17 = .ok (.invokevirtual 195, 3) := by decide +kernel
theorem dX7_tryContract_20 : decode cX7_tryContract 20 = .ok (.iload_n 3, 1) := by decide +kernel
theorem dX7_tryContract_21 : decode cX7_tryContract 21 = .ok (.ireturn, 1) := by decide +kernel
theorem dX8_init_0 : decode cX8_init 0 = .ok (.aload_n 0, 1) := by decide +kernel
theorem dX8_init_1 : decode cX8_init 1 = .ok (.invokespecial 3, 3) := by decide +kernel
theorem dX8_init_4 : decode cX8_init 4 = .ok (.aload_n 0, 1) := by decide +kernel
theorem dX8_init_5 : decode cX8_init 5 = .ok (.bipush 16, 2) := by decide +kernel
theorem dX8_init_7 : decode cX8_init 7 = .ok (.newarray .int, 2) := by decide +kernel
theorem dX8_init_9 : decode cX8_init 9 = .ok (.putfield 9, 3) := by decide +kernel
theorem dX8_init_12 : decode cX8_init 12 = .ok (.aload_n 0, 1) := by decide +kernel
theorem dX8_init_13 : decode cX8_init 13 = .ok (.bipush 16, 2) := by decide +kernel
theorem dX8_init_15 : decode cX8_init 15 = .ok (.newarray .int, 2) := by decide +kernel
theorem dX8_init_17 : decode cX8_init 17 = .ok (.putfield 15, 3) := by decide +kernel
theorem dX8_init_20 : decode cX8_init 20 = .ok (.aload_n 0, 1) := by decide +kernel
theorem dX8_init_21 : decode cX8_init 21 = .ok (.bipush 16, 2) := by decide +kernel
theorem dX8_init_23 : decode cX8_init 23 = .ok (.newarray .int, 2) := by decide +kernel
theorem dX8_init_25 : decode cX8_init 25 = .ok (.putfield 18, 3) := by decide +kernel
theorem dX8_init_28 : decode cX8_init 28 = .ok (.aload_n 0, 1) := by decide +kernel
theorem dX8_init_29 : decode cX8_init 29 = .ok (.bipush 16, 2) := by decide +kernel
theorem dX8_init_31 : decode cX8_init 31 = .ok (.newarray .int, 2) := by decide +kernel
theorem dX8_init_33 : decode cX8_init 33 = .ok (.putfield 21, 3) := by decide +kernel
theorem dX8_init_36 : decode cX8_init 36 = .ok (.return_, 1) := by decide +kernel
theorem dX8_has_0 : decode cX8_has 0 = .ok (.iload_n 1, 1) := by decide +kernel
theorem dX8_has_1 : decode cX8_has 1 = .ok (.ifCond .lt 15, 3) := by decide +kernel
theorem dX8_has_4 : decode cX8_has 4 = .ok (.iload_n 1, 1) := by decide +kernel
theorem dX8_has_5 : decode cX8_has 5 = .ok (.aload_n 0, 1) := by decide +kernel
theorem dX8_has_6 : decode cX8_has 6 = .ok (.getfield 24, 3) := by decide +kernel
theorem dX8_has_9 : decode cX8_has 9 = .ok (.if_icmp .ge 7, 3) := by decide +kernel
theorem dX8_has_12 : decode cX8_has 12 = .ok (.iconst 1, 1) := by decide +kernel
theorem dX8_has_13 : decode cX8_has 13 = .ok (.goto 4, 3) := by decide +kernel
theorem dX8_has_16 : decode cX8_has 16 = .ok (.iconst 0, 1) := by decide +kernel
theorem dX8_has_17 : decode cX8_has 17 = .ok (.ireturn, 1) := by decide +kernel
theorem dX8_areFull_0 : decode cX8_areFull 0 = .ok (.aload_n 0, 1) := by decide +kernel
theorem dX8_areFull_1 : decode cX8_areFull 1 = .ok (.getfield 24, 3) := by decide +kernel
theorem dX8_areFull_4 : decode cX8_areFull 4 = .ok (.bipush 16, 2) := by decide +kernel
theorem dX8_areFull_6 : decode cX8_areFull 6 = .ok (.if_icmp .lt 7, 3) := by decide +kernel
theorem dX8_areFull_9 : decode cX8_areFull 9 = .ok (.iconst 1, 1) := by decide +kernel
theorem dX8_areFull_10 : decode cX8_areFull 10 = .ok (.goto 4, 3) := by decide +kernel
theorem dX8_areFull_13 : decode cX8_areFull 13 = .ok (.iconst 0, 1) := by decide +kernel
theorem dX8_areFull_14 : decode cX8_areFull 14 = .ok (.ireturn, 1) := by decide +kernel
theorem dX8_isOfBank_0 : decode cX8_isOfBank 0 = .ok (.aload_n 0, 1) := by decide +kernel
theorem dX8_isOfBank_1 : decode cX8_isOfBank 1 = .ok (.getfield 21, 3) := by decide +kernel
theorem dX8_isOfBank_4 : decode cX8_isOfBank 4 = .ok (.iload_n 1, 1) := by decide +kernel
theorem dX8_isOfBank_5 : decode cX8_isOfBank 5 = .ok (.invokestatic 28, 3) := by decide +kernel
theorem dX8_isOfBank_8 : decode cX8_isOfBank 8 = .ok (.iconst 4, 1) := by decide +kernel
theorem dX8_isOfBank_9 : decode cX8_isOfBank 9 = .ok (.if_icmp .ne 7, 3) := by decide +kernel
theorem dX8_isOfBank_12 : decode cX8_isOfBank 12 = .ok (.iconst 1, 1) := by decide +kernel
theorem dX8_isOfBank_13 : decode cX8_isOfBank 13 = .ok (.goto 4, 3) := by decide +kernel
theorem dX8_isOfBank_16 : decode cX8_isOfBank 16 = .ok (.iconst 0, 1) := by decide +kernel
theorem dX8_isOfBank_17 : decode cX8_isOfBank 17 = .ok (.ireturn, 1) := by decide +kernel
theorem dX8_add_0 : decode cX8_add 0 = .ok (.aload_n 0, 1) := by decide +kernel
theorem dX8_add_1 : decode cX8_add 1 = .ok (.invokevirtual 32, 3) := by decide +kernel
theorem dX8_add_4 : decode cX8_add 4 = .ok (.ifCond .ne 61, 3) := by decide +kernel
theorem dX8_add_7 : decode cX8_add 7 = .ok (.aload_n 0, 1) := by decide +kernel
theorem dX8_add_8 : decode cX8_add 8 = .ok (.getfield 9, 3) := by decide +kernel
theorem dX8_add_11 : decode cX8_add 11 = .ok (.aload_n 0, 1) := by decide +kernel
theorem dX8_add_12 : decode cX8_add 12 = .ok (.getfield 24, 3) := by decide +kernel
theorem dX8_add_15 : decode cX8_add 15 = .ok (.iload_n 1, 1) := by decide +kernel
theorem dX8_add_16 : decode cX8_add 16 = .ok (.invokestatic 36, 3) := by decide +kernel
theorem dX8_add_19 : decode cX8_add 19 = .ok (.aload_n 0, 1) := by decide +kernel
theorem dX8_add_20 : decode cX8_add 20 = .ok (.getfield 15, 3) := by decide +kernel
theorem dX8_add_23 : decode cX8_add 23 = .ok (.aload_n 0, 1) := by decide +kernel
theorem dX8_add_24 : decode cX8_add 24 = .ok (.getfield 24, 3) := by decide +kernel
theorem dX8_add_27 : decode cX8_add 27 = .ok (.iload_n 2, 1) := by decide +kernel
theorem dX8_add_28 : decode cX8_add 28 = .ok (.invokestatic 36, 3) := by decide +kernel
theorem dX8_add_31 : decode cX8_add 31 = .ok (.aload_n 0, 1) := by decide +kernel
theorem dX8_add_32 : decode cX8_add 32 = .ok (.getfield 18, 3) := by decide +kernel
theorem dX8_add_35 : decode cX8_add 35 = .ok (.aload_n 0, 1) := by decide +kernel
theorem dX8_add_36 : decode cX8_add 36 = .ok (.getfield 24, 3) := by decide +kernel
theorem dX8_add_39 : decode cX8_add 39 = .ok (.iload_n 3, 1) := by decide +kernel
theorem dX8_add_40 : decode cX8_add 40 = .ok (.invokestatic 36, 3) := by decide +kernel
theorem dX8_add_43 : decode cX8_add 43 = .ok (.aload_n 0, 1) := by decide +kernel
theorem dX8_add_44 : decode cX8_add 44 = .ok (.getfield 21, 3) := by decide +kernel
theorem dX8_add_47 : decode cX8_add 47 = .ok (.aload_n 0, 1) := by decide +kernel
theorem dX8_add_48 : decode cX8_add 48 = .ok (.getfield 24, 3) := by decide +kernel
theorem dX8_add_51 : decode cX8_add 51 = .ok (.iconst 4, 1) := by decide +kernel
theorem dX8_add_52 : decode cX8_add 52 = .ok (.invokestatic 36, 3) := by decide +kernel
theorem dX8_add_55 : decode cX8_add 55 = .ok (.aload_n 0, 1) := by decide +kernel
theorem dX8_add_56 : decode cX8_add 56 = .ok (.dup, 1) := by decide +kernel
theorem dX8_add_57 : decode cX8_add 57 = .ok (.getfield 24, 3) := by decide +kernel
theorem dX8_add_60 : decode cX8_add 60 = .ok (.iconst 1, 1) := by decide +kernel
theorem dX8_add_61 : decode cX8_add 61 = .ok (.iadd, 1) := by decide +kernel
theorem dX8_add_62 : decode cX8_add 62 = .ok (.putfield 24, 3) := by decide +kernel
theorem dX8_add_65 : decode cX8_add 65 = .ok (.return_, 1) := by decide +kernel
theorem dX8_priceOf_0 : decode cX8_priceOf 0 = .ok (.iconst 3, 1) := by decide +kernel
theorem dX8_priceOf_1 : decode cX8_priceOf 1 = .ok (.aload_n 0, 1) := by decide +kernel
theorem dX8_priceOf_2 : decode cX8_priceOf 2 = .ok (.getfield 18, 3) := by decide +kernel
theorem dX8_priceOf_5 : decode cX8_priceOf 5 = .ok (.iload_n 1, 1) := by decide +kernel
theorem dX8_priceOf_6 : decode cX8_priceOf 6 = .ok (.invokestatic 28, 3) := by decide +kernel
theorem dX8_priceOf_9 : decode cX8_priceOf 9 = .ok (.imul, 1) := by decide +kernel
theorem dX8_priceOf_10 : decode cX8_priceOf 10 = .ok (.ireturn, 1) := by decide +kernel
theorem dX8_countOf_0 : decode cX8_countOf 0 = .ok (.iconst 0, 1) := by decide +kernel
theorem dX8_countOf_1 : decode cX8_countOf 1 = .ok (.istore_n 2, 1) := by decide +kernel
theorem dX8_countOf_2 : decode cX8_countOf 2 = .ok (.iconst 0, 1) := by decide +kernel
theorem dX8_countOf_3 : decode cX8_countOf 3 = .ok (.istore_n 3, 1) := by decide +kernel
theorem dX8_countOf_4 : decode cX8_countOf 4 = .ok (.iload_n 3, 1) := by decide +kernel
theorem dX8_countOf_5 : decode cX8_countOf 5 = .ok (.aload_n 0, 1) := by decide +kernel
theorem dX8_countOf_6 : decode cX8_countOf 6 = .ok (.getfield 24, 3) := by decide +kernel
theorem dX8_countOf_9 : decode cX8_countOf 9 = .ok (.if_icmp .ge 29, 3) := by decide +kernel
theorem dX8_countOf_12 : decode cX8_countOf 12 = .ok (.iload_n 2, 1) := by decide +kernel
theorem dX8_countOf_13 : decode cX8_countOf 13 = .ok (.aload_n 0, 1) := by decide +kernel
theorem dX8_countOf_14 : decode cX8_countOf 14 = .ok (.getfield 21, 3) := by decide +kernel
theorem dX8_countOf_17 : decode cX8_countOf 17 = .ok (.iload_n 3, 1) := by decide +kernel
theorem dX8_countOf_18 : decode cX8_countOf 18 = .ok (.invokestatic 28, 3) := by decide +kernel
theorem dX8_countOf_21 : decode cX8_countOf 21 = .ok (.iload_n 1, 1) := by decide +kernel
theorem dX8_countOf_22 : decode cX8_countOf 22 = .ok (.if_icmp .ne 7, 3) := by decide +kernel
theorem dX8_countOf_25 : decode cX8_countOf 25 = .ok (.iconst 1, 1) := by decide +kernel
theorem dX8_countOf_26 : decode cX8_countOf 26 = .ok (.goto 4, 3) := by decide +kernel
theorem dX8_countOf_29 : decode cX8_countOf 29 = .ok (.iconst 0, 1) := by decide +kernel
theorem dX8_countOf_30 : decode cX8_countOf 30 = .ok (.iadd, 1) := by decide +kernel
theorem dX8_countOf_31 : decode cX8_countOf 31 = .ok (.istore_n 2, 1) := by decide +kernel
theorem dX8_countOf_32 : decode cX8_countOf 32 = .ok (.iinc 3 1, 3) := by decide +kernel
theorem dX8_countOf_35 : decode cX8_countOf 35 = .ok (.goto (-31), 3) := by decide +kernel
theorem dX8_countOf_38 : decode cX8_countOf 38 = .ok (.iload_n 2, 1) := by decide +kernel
theorem dX8_countOf_39 : decode cX8_countOf 39 = .ok (.ireturn, 1) := by decide +kernel
theorem dX8_lengthsOf_0 : decode cX8_lengthsOf 0 = .ok (.iconst 0, 1) := by decide +kernel
theorem dX8_lengthsOf_1 : decode cX8_lengthsOf 1 = .ok (.istore_n 2, 1) := by decide +kernel
theorem dX8_lengthsOf_2 : decode cX8_lengthsOf 2 = .ok (.iconst 0, 1) := by decide +kernel
theorem dX8_lengthsOf_3 : decode cX8_lengthsOf 3 = .ok (.istore_n 3, 1) := by decide +kernel
theorem dX8_lengthsOf_4 : decode cX8_lengthsOf 4 = .ok (.iload_n 3, 1) := by decide +kernel
theorem dX8_lengthsOf_5 : decode cX8_lengthsOf 5 = .ok (.aload_n 0, 1) := by decide +kernel
theorem dX8_lengthsOf_6 : decode cX8_lengthsOf 6 = .ok (.getfield 24, 3) := by decide +kernel
theorem dX8_lengthsOf_9 : decode cX8_lengthsOf 9 = .ok (.if_icmp .ge 36, 3) := by decide +kernel
theorem dX8_lengthsOf_12 : decode cX8_lengthsOf 12 = .ok (.iload_n 2, 1) := by decide +kernel
theorem dX8_lengthsOf_13 : decode cX8_lengthsOf 13 = .ok (.aload_n 0, 1) := by decide +kernel
theorem dX8_lengthsOf_14 : decode cX8_lengthsOf 14 = .ok (.getfield 21, 3) := by decide +kernel
theorem dX8_lengthsOf_17 : decode cX8_lengthsOf 17 = .ok (.iload_n 3, 1) := by decide +kernel
theorem dX8_lengthsOf_18 : decode cX8_lengthsOf 18 = .ok (.invokestatic 28, 3) := by decide +kernel
theorem dX8_lengthsOf_21 : decode cX8_lengthsOf 21 = .ok (.iload_n 1, 1) := by decide +kernel
theorem dX8_lengthsOf_22 : decode cX8_lengthsOf 22 = .ok (.if_icmp .ne 14, 3) := by decide +kernel
theorem dX8_lengthsOf_25 : decode cX8_lengthsOf 25 = .ok (.aload_n 0, 1) := by decide +kernel
theorem dX8_lengthsOf_26 : decode cX8_lengthsOf 26 = .ok (.getfield 18, 3) := by decide +kernel
theorem dX8_lengthsOf_29 : decode cX8_lengthsOf 29 = .ok (.iload_n 3, 1) := by decide +kernel
theorem dX8_lengthsOf_30 : decode cX8_lengthsOf 30 = .ok (.invokestatic 28, 3) := by decide +kernel
theorem dX8_lengthsOf_33 : decode cX8_lengthsOf 33 = .ok (.goto 4, 3) := by decide +kernel
theorem dX8_lengthsOf_36 : decode cX8_lengthsOf 36 = .ok (.iconst 0, 1) := by decide +kernel
theorem dX8_lengthsOf_37 : decode cX8_lengthsOf 37 = .ok (.iadd, 1) := by decide +kernel
theorem dX8_lengthsOf_38 : decode cX8_lengthsOf 38 = .ok (.istore_n 2, 1) := by decide +kernel
theorem dX8_lengthsOf_39 : decode cX8_lengthsOf 39 = .ok (.iinc 3 1, 3) := by decide +kernel
theorem dX8_lengthsOf_42 : decode cX8_lengthsOf 42 = .ok (.goto (-38), 3) := by decide +kernel
theorem dX8_lengthsOf_45 : decode cX8_lengthsOf 45 = .ok (.iload_n 2, 1) := by decide +kernel
theorem dX8_lengthsOf_46 : decode cX8_lengthsOf 46 = .ok (.ireturn, 1) := by decide +kernel
theorem dX8_farEnd_0 : decode cX8_farEnd 0 = .ok (.aload_n 0, 1) := by decide +kernel
theorem dX8_farEnd_1 : decode cX8_farEnd 1 = .ok (.getfield 9, 3) := by decide +kernel
theorem dX8_farEnd_4 : decode cX8_farEnd 4 = .ok (.iload_n 1, 1) := by decide +kernel
theorem dX8_farEnd_5 : decode cX8_farEnd 5 = .ok (.invokestatic 28, 3) := by decide +kernel
theorem dX8_farEnd_8 : decode cX8_farEnd 8 = .ok (.iload_n 2, 1) := by decide +kernel
theorem dX8_farEnd_9 : decode cX8_farEnd 9 = .ok (.if_icmp .ne 12, 3) := by decide +kernel
theorem dX8_farEnd_12 : decode cX8_farEnd 12 = .ok (.aload_n 0, 1) := by decide +kernel
theorem dX8_farEnd_13 : decode cX8_farEnd 13 = .ok (.getfield 15, 3) := by decide +kernel
theorem dX8_farEnd_16 : decode cX8_farEnd 16 = .ok (.iload_n 1, 1) := by decide +kernel
theorem dX8_farEnd_17 : decode cX8_farEnd 17 = .ok (.invokestatic 28, 3) := by decide +kernel
theorem dX8_farEnd_20 : decode cX8_farEnd 20 = .ok (.ireturn, 1) := by decide +kernel
theorem dX8_farEnd_21 : decode cX8_farEnd 21 = .ok (.aload_n 0, 1) := by decide +kernel
theorem dX8_farEnd_22 : decode cX8_farEnd 22 = .ok (.getfield 15, 3) := by decide +kernel
theorem dX8_farEnd_25 : decode cX8_farEnd 25 = .ok (.iload_n 1, 1) := by decide +kernel
theorem dX8_farEnd_26 : decode cX8_farEnd 26 = .ok (.invokestatic 28, 3) := by decide +kernel
theorem dX8_farEnd_29 : decode cX8_farEnd 29 = .ok (.iload_n 2, 1) := by decide +kernel
theorem dX8_farEnd_30 : decode cX8_farEnd 30 = .ok (.if_icmp .ne 14, 3) := by decide +kernel
theorem dX8_farEnd_33 : decode cX8_farEnd 33 = .ok (.aload_n 0, 1) := by decide +kernel
theorem dX8_farEnd_34 : decode cX8_farEnd 34 = .ok (.getfield 9, 3) := by decide +kernel
theorem dX8_farEnd_37 : decode cX8_farEnd 37 = .ok (.iload_n 1, 1) := by decide +kernel
theorem dX8_farEnd_38 : decode cX8_farEnd 38 = .ok (.invokestatic 28, 3) := by decide +kernel
theorem dX8_farEnd_41 : decode cX8_farEnd 41 = .ok (.goto 5, 3) := by decide +kernel
theorem dX8_farEnd_44 : decode cX8_farEnd 44 = .ok (.bipush (-9), 2) := by decide +kernel
theorem dX8_farEnd_46 : decode cX8_farEnd 46 = .ok (.ireturn, 1) := by decide +kernel
theorem dX8_returnToBank_0 : decode cX8_returnToBank 0 = .ok (.iconst 0, 1) := by decide +kernel
theorem dX8_returnToBank_1 : decode cX8_returnToBank 1 = .ok (.istore_n 2, 1) := by decide +kernel
theorem dX8_returnToBank_2 : decode cX8_returnToBank 2 = .ok (.iload_n 2, 1) := by decide +kernel
theorem dX8_returnToBank_3 : decode cX8_returnToBank 3 = .ok (.aload_n 0, 1) := by decide +kernel
theorem dX8_returnToBank_4 : decode cX8_returnToBank 4 = .ok (.getfield 24, 3) := by decide +kernel
theorem dX8_returnToBank_7 : decode cX8_returnToBank 7 = .ok (.if_icmp .ge 30, 3) := by decide +kernel
theorem dX8_returnToBank_10 : decode cX8_returnToBank 10 = .ok (.aload_n 0, 1) := by decide +kernel
theorem dX8_returnToBank_11 : decode cX8_returnToBank 11 = .ok (.getfield 21, 3) := by decide +kernel
theorem dX8_returnToBank_14 : decode cX8_returnToBank 14 = .ok (.iload_n 2, 1) := by decide +kernel
theorem dX8_returnToBank_15 : decode cX8_returnToBank 15 = .ok (.invokestatic 28, 3) := by decide +kernel
theorem dX8_returnToBank_18 : decode cX8_returnToBank 18 = .ok (.iload_n 1, 1) := by decide +kernel
theorem dX8_returnToBank_19 : decode cX8_returnToBank 19 = .ok (.if_icmp .ne 12, 3) := by decide +kernel
theorem dX8_returnToBank_22 : decode cX8_returnToBank 22 = .ok (.aload_n 0, 1) := by decide +kernel
theorem dX8_returnToBank_23 : decode cX8_returnToBank 23 = .ok (.getfield 21, 3) := by decide +kernel
theorem dX8_returnToBank_26 : decode cX8_returnToBank 26 = .ok (.iload_n 2, 1) := by decide +kernel
theorem dX8_returnToBank_27 : decode cX8_returnToBank 27 = .ok (.iconst 4, 1) := by decide +kernel
theorem dX8_returnToBank_28 : decode cX8_returnToBank 28 = .ok (.invokestatic 36, 3) := by decide +kernel
theorem dX8_returnToBank_31 : decode cX8_returnToBank 31 = .ok (.iinc 2 1, 3) := by decide +kernel
theorem dX8_returnToBank_34 : decode cX8_returnToBank 34 = .ok (.goto (-32), 3) := by decide +kernel
theorem dX8_returnToBank_37 : decode cX8_returnToBank 37 = .ok (.return_, 1) := by decide +kernel
theorem dX8_copyFrom_0 : decode cX8_copyFrom 0 = .ok (.aload_n 1, 1) := by decide +kernel
theorem dX8_copyFrom_1 : decode cX8_copyFrom 1 = .ok (.getfield 9, 3) := by decide +kernel
theorem dX8_copyFrom_4 : decode cX8_copyFrom 4 = .ok (.aload_n 0, 1) := by decide +kernel
theorem dX8_copyFrom_5 : decode cX8_copyFrom 5 = .ok (.getfield 9, 3) := by decide +kernel
theorem dX8_copyFrom_8 : decode cX8_copyFrom 8 = .ok (.invokestatic 40, 3) := by decide +kernel
theorem dX8_copyFrom_11 : decode cX8_copyFrom 11 = .ok (.aload_n 1, 1) := by decide +kernel
theorem dX8_copyFrom_12 : decode cX8_copyFrom 12 = .ok (.getfield 15, 3) := by decide +kernel
theorem dX8_copyFrom_15 : decode cX8_copyFrom 15 = .ok (.aload_n 0, 1) := by decide +kernel
theorem dX8_copyFrom_16 : decode cX8_copyFrom 16 = .ok (.getfield 15, 3) := by decide +kernel
theorem dX8_copyFrom_19 : decode cX8_copyFrom 19 = .ok (.invokestatic 40, 3) := by decide +kernel
theorem dX8_copyFrom_22 : decode cX8_copyFrom 22 = .ok (.aload_n 1, 1) := by decide +kernel
theorem dX8_copyFrom_23 : decode cX8_copyFrom 23 = .ok (.getfield 18, 3) := by decide +kernel
theorem dX8_copyFrom_26 : decode cX8_copyFrom 26 = .ok (.aload_n 0, 1) := by decide +kernel
theorem dX8_copyFrom_27 : decode cX8_copyFrom 27 = .ok (.getfield 18, 3) := by decide +kernel
theorem dX8_copyFrom_30 : decode cX8_copyFrom 30 = .ok (.invokestatic 40, 3) := by decide +kernel
theorem dX8_copyFrom_33 : decode cX8_copyFrom 33 = .ok (.aload_n 1, 1) := by decide +kernel
theorem dX8_copyFrom_34 : decode cX8_copyFrom 34 = .ok (.getfield 21, 3) := by decide +kernel
theorem dX8_copyFrom_37 : decode cX8_copyFrom 37 = .ok (.aload_n 0, 1) := by decide +kernel
theorem dX8_copyFrom_38 : decode cX8_copyFrom 38 = .ok (.getfield 21, 3) := by decide +kernel
theorem dX8_copyFrom_41 : decode cX8_copyFrom 41 = .ok (.invokestatic 40, 3) := by decide +kernel
theorem dX8_copyFrom_44 : decode cX8_copyFrom 44 = .ok (.aload_n 0, 1) := by decide +kernel
theorem dX8_copyFrom_45 : decode cX8_copyFrom 45 = .ok (.aload_n 1, 1) := by decide +kernel
theorem dX8_copyFrom_46 : decode cX8_copyFrom 46 = .ok (.getfield 24, 3) := by decide +kernel
theorem dX8_copyFrom_49 : decode cX8_copyFrom 49 = .ok (.putfield 24, 3) := by decide +kernel
theorem dX8_copyFrom_52 : decode cX8_copyFrom 52 = .ok (.return_, 1) := by decide +kernel
theorem dX9_init_0 : decode cX9_init 0 = .ok (.aload_n 0, 1) := by decide +kernel
theorem dX9_init_1 : decode cX9_init 1 = .ok (.invokespecial 3, 3) := by decide +kernel
theorem dX9_init_4 : decode cX9_init 4 = .ok (.aload_n 0, 1) := by decide +kernel
theorem dX9_init_5 : decode cX9_init 5 = .ok (.sipush 225, 3) := by decide +kernel
theorem dX9_init_8 : decode cX9_init 8 = .ok (.newarray .int, 2) := by decide +kernel
theorem dX9_init_10 : decode cX9_init 10 = .ok (.putfield 9, 3) := by decide +kernel
theorem dX9_init_13 : decode cX9_init 13 = .ok (.aload_n 0, 1) := by decide +kernel
theorem dX9_init_14 : decode cX9_init 14 = .ok (.sipush 225, 3) := by decide +kernel
theorem dX9_init_17 : decode cX9_init 17 = .ok (.newarray .int, 2) := by decide +kernel
theorem dX9_init_19 : decode cX9_init 19 = .ok (.putfield 15, 3) := by decide +kernel
theorem dX9_init_22 : decode cX9_init 22 = .ok (.aload_n 0, 1) := by decide +kernel
theorem dX9_init_23 : decode cX9_init 23 = .ok (.bipush 16, 2) := by decide +kernel
theorem dX9_init_25 : decode cX9_init 25 = .ok (.newarray .int, 2) := by decide +kernel
theorem dX9_init_27 : decode cX9_init 27 = .ok (.putfield 18, 3) := by decide +kernel
theorem dX9_init_30 : decode cX9_init 30 = .ok (.aload_n 0, 1) := by decide +kernel
theorem dX9_init_31 : decode cX9_init 31 = .ok (.bipush 24, 2) := by decide +kernel
theorem dX9_init_33 : decode cX9_init 33 = .ok (.newarray .int, 2) := by decide +kernel
theorem dX9_init_35 : decode cX9_init 35 = .ok (.putfield 21, 3) := by decide +kernel
theorem dX9_init_38 : decode cX9_init 38 = .ok (.return_, 1) := by decide +kernel
theorem dX9_find_0 : decode cX9_find 0 = .ok (.aload_n 0, 1) := by decide +kernel
theorem dX9_find_1 : decode cX9_find 1 = .ok (.aload_n 1, 1) := by decide +kernel
theorem dX9_find_2 : decode cX9_find 2 = .ok (.iload_n 2, 1) := by decide +kernel
theorem dX9_find_3 : decode cX9_find 3 = .ok (.invokevirtual 24, 3) := by decide +kernel
theorem dX9_find_6 : decode cX9_find 6 = .ok (.aload_n 0, 1) := by decide +kernel
theorem dX9_find_7 : decode cX9_find 7 = .ok (.aload_n 1, 1) := by decide +kernel
theorem dX9_find_8 : decode cX9_find 8 = .ok (.getfield 28, 3) := by decide +kernel
theorem dX9_find_11 : decode cX9_find 11 = .ok (.iload 4, 2) := by decide +kernel
theorem dX9_find_13 : decode cX9_find 13 = .ok (.iload 5, 2) := by decide +kernel
theorem dX9_find_15 : decode cX9_find 15 = .ok (.invokevirtual 34, 3) := by decide +kernel
theorem dX9_find_18 : decode cX9_find 18 = .ok (.aload_n 0, 1) := by decide +kernel
theorem dX9_find_19 : decode cX9_find 19 = .ok (.iload_n 3, 1) := by decide +kernel
theorem dX9_find_20 : decode cX9_find 20 = .ok (.iload 5, 2) := by decide +kernel
theorem dX9_find_22 : decode cX9_find 22 = .ok (.invokevirtual 38, 3) := by decide +kernel
theorem dX9_find_25 : decode cX9_find 25 = .ok (.aload_n 0, 1) := by decide +kernel
theorem dX9_find_26 : decode cX9_find 26 = .ok (.aload_n 1, 1) := by decide +kernel
theorem dX9_find_27 : decode cX9_find 27 = .ok (.getfield 28, 3) := by decide +kernel
theorem dX9_find_30 : decode cX9_find 30 = .ok (.iload_n 3, 1) := by decide +kernel
theorem dX9_find_31 : decode cX9_find 31 = .ok (.invokevirtual 42, 3) := by decide +kernel
theorem dX9_find_34 : decode cX9_find 34 = .ok (.aload_n 0, 1) := by decide +kernel
theorem dX9_find_35 : decode cX9_find 35 = .ok (.getfield 46, 3) := by decide +kernel
theorem dX9_find_38 : decode cX9_find 38 = .ok (.ldc 50, 2) := by decide +kernel
theorem dX9_find_40 : decode cX9_find 40 = .ok (.if_icmp .ge 7, 3) := by decide +kernel
theorem dX9_find_43 : decode cX9_find 43 = .ok (.iconst 1, 1) := by decide +kernel
theorem dX9_find_44 : decode cX9_find 44 = .ok (.goto 4, 3) := by decide +kernel
theorem dX9_find_47 : decode cX9_find 47 = .ok (.iconst 0, 1) := by decide +kernel
theorem dX9_find_48 : decode cX9_find 48 = .ok (.ireturn, 1) := by decide +kernel
theorem dX9_setPrices_0 : decode cX9_setPrices 0 = .ok (.aload_n 1, 1) := by decide +kernel
theorem dX9_setPrices_1 : decode cX9_setPrices 1 = .ok (.getfield 28, 3) := by decide +kernel
theorem dX9_setPrices_4 : decode cX9_setPrices 4 = .ok (.astore_n 3, 1) := by decide +kernel
theorem dX9_setPrices_5 : decode cX9_setPrices 5 = .ok (.iconst 0, 1) := by decide +kernel
theorem dX9_setPrices_6 : decode cX9_setPrices 6 = .ok (.istore 4, 2) := by decide +kernel
theorem dX9_setPrices_8 : decode cX9_setPrices 8 = .ok (.iload 4, 2) := by decide +kernel
theorem dX9_setPrices_10 : decode cX9_setPrices 10 = .ok (.aload_n 3, 1) := by decide +kernel
theorem dX9_setPrices_11 : decode cX9_setPrices 11 = .ok (.getfield 51, 3) := by decide +kernel
theorem dX9_setPrices_14 : decode cX9_setPrices 14 = .ok (.if_icmp .ge 45, 3) := by decide +kernel
theorem dX9_setPrices_17 : decode cX9_setPrices 17 = .ok (.aload_n 0, 1) := by decide +kernel
theorem dX9_setPrices_18 : decode cX9_setPrices 18 = .ok (.getfield 18, 3) := by decide +kernel
theorem dX9_setPrices_21 : decode cX9_setPrices 21 = .ok (.iload 4, 2) := by decide +kernel
theorem dX9_setPrices_23 : decode cX9_setPrices 23 = .ok (.aload_n 3, 1) := by decide +kernel
theorem dX9_setPrices_24 : decode cX9_setPrices 24 = .ok (.getfield 56, 3) := by decide +kernel
theorem dX9_setPrices_27 : decode cX9_setPrices 27 = .ok (.iload 4, 2) := by decide +kernel
theorem dX9_setPrices_29 : decode cX9_setPrices 29 = .ok (.invokestatic 59, 3) := by decide +kernel
theorem dX9_setPrices_32 : decode cX9_setPrices 32 = .ok (.aload_n 1, 1) := by decide +kernel
theorem dX9_setPrices_33 : decode cX9_setPrices 33 = .ok (.getfield 63, 3) := by decide +kernel
theorem dX9_setPrices_36 : decode cX9_setPrices 36 = .ok (.iload_n 2, 1) := by decide +kernel
theorem dX9_setPrices_37 : decode cX9_setPrices 37 = .ok (.aload_n 3, 1) := by decide +kernel
theorem dX9_setPrices_38 : decode cX9_setPrices 38 = .ok (.getfield 67, 3) := by decide +kernel
theorem dX9_setPrices_41 : decode cX9_setPrices 41 = .ok (.iload 4, 2) := by decide +kernel
theorem dX9_setPrices_43 : decode cX9_setPrices 43 = .ok (.invokestatic 59, 3) := by decide +kernel
theorem dX9_setPrices_46 : decode cX9_setPrices 46 = .ok (.invokevirtual 70, 3) := by decide +kernel
theorem dX9_setPrices_49 : decode cX9_setPrices 49 = .ok (.imul, 1) := by decide +kernel
theorem dX9_setPrices_50 : decode cX9_setPrices 50 = .ok (.invokestatic 76, 3) := by decide +kernel
theorem dX9_setPrices_53 : decode cX9_setPrices 53 = .ok (.iinc 4 1, 3) := by decide +kernel
theorem dX9_setPrices_56 : decode cX9_setPrices 56 = .ok (.goto (-48), 3) := by decide +kernel
theorem dX9_setPrices_59 : decode cX9_setPrices 59 = .ok (.return_, 1) := by decide +kernel
theorem dX9_measure_0 : decode cX9_measure 0 = .ok (.aload_n 0, 1) := by decide +kernel
theorem dX9_measure_1 : decode cX9_measure 1 = .ok (.getfield 9, 3) := by decide +kernel
theorem dX9_measure_4 : decode cX9_measure 4 = .ok (.ldc 50, 2) := by decide +kernel
theorem dX9_measure_6 : decode cX9_measure 6 = .ok (.invokestatic 80, 3) := by decide +kernel
theorem dX9_measure_9 : decode cX9_measure 9 = .ok (.aload_n 0, 1) := by decide +kernel
theorem dX9_measure_10 : decode cX9_measure 10 = .ok (.getfield 9, 3) := by decide +kernel
theorem dX9_measure_13 : decode cX9_measure 13 = .ok (.iconst 0, 1) := by decide +kernel
theorem dX9_measure_14 : decode cX9_measure 14 = .ok (.iload_n 2, 1) := by decide +kernel
theorem dX9_measure_15 : decode cX9_measure 15 = .ok (.invokestatic 84, 3) := by decide +kernel
theorem dX9_measure_18 : decode cX9_measure 18 = .ok (.iconst 0, 1) := by decide +kernel
theorem dX9_measure_19 : decode cX9_measure 19 = .ok (.invokestatic 76, 3) := by decide +kernel
theorem dX9_measure_22 : decode cX9_measure 22 = .ok (.iconst 1, 1) := by decide +kernel
theorem dX9_measure_23 : decode cX9_measure 23 = .ok (.istore 4, 2) := by decide +kernel
theorem dX9_measure_25 : decode cX9_measure 25 = .ok (.iload 4, 2) := by decide +kernel
theorem dX9_measure_27 : decode cX9_measure 27 = .ok (.iload_n 3, 1) := by decide +kernel
theorem dX9_measure_28 : decode cX9_measure 28 = .ok (.if_icmp .gt 109, 3) := by decide +kernel
theorem dX9_measure_31 : decode cX9_measure 31 = .ok (.iconst 0, 1) := by decide +kernel
theorem dX9_measure_32 : decode cX9_measure 32 = .ok (.istore 5, 2) := by decide +kernel
theorem dX9_measure_34 : decode cX9_measure 34 = .ok (.iload 5, 2) := by decide +kernel
theorem dX9_measure_36 : decode cX9_measure 36 = .ok (.aload_n 1, 1) := by decide +kernel
theorem dX9_measure_37 : decode cX9_measure 37 = .ok (.getfield 51, 3) := by decide +kernel
theorem dX9_measure_40 : decode cX9_measure 40 = .ok (.if_icmp .ge 91, 3) := by decide +kernel
theorem dX9_measure_43 : decode cX9_measure 43 = .ok (.iload 4, 2) := by decide +kernel
theorem dX9_measure_45 : decode cX9_measure 45 = .ok (.aload_n 1, 1) := by decide +kernel
theorem dX9_measure_46 : decode cX9_measure 46 = .ok (.getfield 56, 3) := by decide +kernel
theorem dX9_measure_49 : decode cX9_measure 49 = .ok (.iload 5, 2) := by decide +kernel
theorem dX9_measure_51 : decode cX9_measure 51 = .ok (.invokestatic 59, 3) := by decide +kernel
theorem dX9_measure_54 : decode cX9_measure 54 = .ok (.isub, 1) := by decide +kernel
theorem dX9_measure_55 : decode cX9_measure 55 = .ok (.istore 6, 2) := by decide +kernel
theorem dX9_measure_57 : decode cX9_measure 57 = .ok (.aload_n 0, 1) := by decide +kernel
theorem dX9_measure_58 : decode cX9_measure 58 = .ok (.iload 5, 2) := by decide +kernel
theorem dX9_measure_60 : decode cX9_measure 60 = .ok (.iload 4, 2) := by decide +kernel
theorem dX9_measure_62 : decode cX9_measure 62 = .ok (.aload_n 1, 1) := by decide +kernel
theorem dX9_measure_63 : decode cX9_measure 63 = .ok (.getfield 87, 3) := by decide +kernel
theorem dX9_measure_66 : decode cX9_measure 66 = .ok (.iload 5, 2) := by decide +kernel
theorem dX9_measure_68 : decode cX9_measure 68 = .ok (.invokestatic 59, 3) := by decide +kernel
theorem dX9_measure_71 : decode cX9_measure 71 = .ok (.invokestatic 84, 3) := by decide +kernel
theorem dX9_measure_74 : decode cX9_measure 74 = .ok (.iload 6, 2) := by decide +kernel
theorem dX9_measure_76 : decode cX9_measure 76 = .ok (.aload_n 1, 1) := by decide +kernel
theorem dX9_measure_77 : decode cX9_measure 77 = .ok (.getfield 90, 3) := by decide +kernel
theorem dX9_measure_80 : decode cX9_measure 80 = .ok (.iload 5, 2) := by decide +kernel
theorem dX9_measure_82 : decode cX9_measure 82 = .ok (.invokestatic 59, 3) := by decide +kernel
theorem dX9_measure_85 : decode cX9_measure 85 = .ok (.invokestatic 84, 3) := by decide +kernel
theorem dX9_measure_88 : decode cX9_measure 88 = .ok (.invokevirtual 93, 3) := by decide +kernel
theorem dX9_measure_91 : decode cX9_measure 91 = .ok (.aload_n 0, 1) := by decide +kernel
theorem dX9_measure_92 : decode cX9_measure 92 = .ok (.iload 5, 2) := by decide +kernel
theorem dX9_measure_94 : decode cX9_measure 94 = .ok (.iload 4, 2) := by decide +kernel
theorem dX9_measure_96 : decode cX9_measure 96 = .ok (.aload_n 1, 1) := by decide +kernel
theorem dX9_measure_97 : decode cX9_measure 97 = .ok (.getfield 90, 3) := by decide +kernel
theorem dX9_measure_100 : decode cX9_measure 100 = .ok (.iload 5, 2) := by decide +kernel
theorem dX9_measure_102 : decode cX9_measure 102 = .ok (.invokestatic 59, 3) := by decide +kernel
theorem dX9_measure_105 : decode cX9_measure 105 = .ok (.invokestatic 84, 3) := by decide +kernel
theorem dX9_measure_108 : decode cX9_measure 108 = .ok (.iload 6, 2) := by decide +kernel
theorem dX9_measure_110 : decode cX9_measure 110 = .ok (.aload_n 1, 1) := by decide +kernel
theorem dX9_measure_111 : decode cX9_measure 111 = .ok (.getfield 87, 3) := by decide +kernel
theorem dX9_measure_114 : decode cX9_measure 114 = .ok (.iload 5, 2) := by decide +kernel
theorem dX9_measure_116 : decode cX9_measure 116 = .ok (.invokestatic 59, 3) := by decide +kernel
theorem dX9_measure_119 : decode cX9_measure 119 = .ok (.invokestatic 84, 3) := by decide +kernel
theorem dX9_measure_122 : decode cX9_measure 122 = .ok (.invokevirtual 93, 3) := by decide +kernel
theorem dX9_measure_125 : decode cX9_measure 125 = .ok (.iinc 5 1, 3) := by decide +kernel
theorem dX9_measure_128 : decode cX9_measure 128 = .ok (.goto (-94), 3) := by decide +kernel
theorem dX9_measure_131 : decode cX9_measure 131 = .ok (.iinc 4 1, 3) := by decide +kernel
theorem dX9_measure_134 : decode cX9_measure 134 = .ok (.goto (-109), 3) := by decide +kernel
theorem dX9_measure_137 : decode cX9_measure 137 = .ok (.return_, 1) := by decide +kernel
theorem dX9_beginWith_0 : decode cX9_beginWith 0 = .ok (.aload_n 0, 1) := by decide +kernel
theorem dX9_beginWith_1 : decode cX9_beginWith 1 = .ok (.iload_n 3, 1) := by decide +kernel
theorem dX9_beginWith_2 : decode cX9_beginWith 2 = .ok (.invokevirtual 97, 3) := by decide +kernel
theorem dX9_beginWith_5 : decode cX9_beginWith 5 = .ok (.aload_n 0, 1) := by decide +kernel
theorem dX9_beginWith_6 : decode cX9_beginWith 6 = .ok (.getfield 18, 3) := by decide +kernel
theorem dX9_beginWith_9 : decode cX9_beginWith 9 = .ok (.iload_n 1, 1) := by decide +kernel
theorem dX9_beginWith_10 : decode cX9_beginWith 10 = .ok (.invokestatic 59, 3) := by decide +kernel
theorem dX9_beginWith_13 : decode cX9_beginWith 13 = .ok (.iadd, 1) := by decide +kernel
theorem dX9_beginWith_14 : decode cX9_beginWith 14 = .ok (.istore 4, 2) := by decide +kernel
theorem dX9_beginWith_16 : decode cX9_beginWith 16 = .ok (.iload 4, 2) := by decide +kernel
theorem dX9_beginWith_18 : decode cX9_beginWith 18 = .ok (.aload_n 0, 1) := by decide +kernel
theorem dX9_beginWith_19 : decode cX9_beginWith 19 = .ok (.iload_n 2, 1) := by decide +kernel
theorem dX9_beginWith_20 : decode cX9_beginWith 20 = .ok (.invokevirtual 97, 3) := by decide +kernel
theorem dX9_beginWith_23 : decode cX9_beginWith 23 = .ok (.if_icmp .ge 22, 3) := by decide +kernel
theorem dX9_beginWith_26 : decode cX9_beginWith 26 = .ok (.aload_n 0, 1) := by decide +kernel
theorem dX9_beginWith_27 : decode cX9_beginWith 27 = .ok (.getfield 9, 3) := by decide +kernel
theorem dX9_beginWith_30 : decode cX9_beginWith 30 = .ok (.iload_n 2, 1) := by decide +kernel
theorem dX9_beginWith_31 : decode cX9_beginWith 31 = .ok (.iload 4, 2) := by decide +kernel
theorem dX9_beginWith_33 : decode cX9_beginWith 33 = .ok (.invokestatic 76, 3) := by decide +kernel
theorem dX9_beginWith_36 : decode cX9_beginWith 36 = .ok (.aload_n 0, 1) := by decide +kernel
theorem dX9_beginWith_37 : decode cX9_beginWith 37 = .ok (.getfield 15, 3) := by decide +kernel
theorem dX9_beginWith_40 : decode cX9_beginWith 40 = .ok (.iload_n 2, 1) := by decide +kernel
theorem dX9_beginWith_41 : decode cX9_beginWith 41 = .ok (.iload_n 1, 1) := by decide +kernel
theorem dX9_beginWith_42 : decode cX9_beginWith 42 = .ok (.invokestatic 76, 3) := by decide +kernel
theorem dX9_beginWith_45 : decode cX9_beginWith 45 = .ok (.return_, 1) := by decide +kernel
theorem dX9_leastAt_0 : decode cX9_leastAt 0 = .ok (.iload_n 1, 1) := by decide +kernel
theorem dX9_leastAt_1 : decode cX9_leastAt 1 = .ok (.ifCond .lt 21, 3) := by decide +kernel
theorem dX9_leastAt_4 : decode cX9_leastAt 4 = .ok (.iload_n 1, 1) := by decide +kernel
theorem dX9_leastAt_5 : decode cX9_leastAt 5 = .ok (.aload_n 0, 1) := by decide +kernel
theorem dX9_leastAt_6 : decode cX9_leastAt 6 = .ok (.getfield 9, 3) := by decide +kernel
theorem dX9_leastAt_9 : decode cX9_leastAt 9 = .ok (.arraylength, 1) := by decide +kernel
theorem dX9_leastAt_10 : decode cX9_leastAt 10 = .ok (.if_icmp .ge 12, 3) := by decide +kernel
theorem dX9_leastAt_13 : decode cX9_leastAt 13 = .ok (.aload_n 0, 1) := by decide +kernel
theorem dX9_leastAt_14 : decode cX9_leastAt 14 = .ok (.getfield 9, 3) := by decide +kernel
theorem dX9_leastAt_17 : decode cX9_leastAt 17 = .ok (.iload_n 1, 1) := by decide +kernel
theorem dX9_leastAt_18 : decode cX9_leastAt 18 = .ok (.iaload, 1) := by decide +kernel
theorem dX9_leastAt_19 : decode cX9_leastAt 19 = .ok (.goto 5, 3) := by decide +kernel
theorem dX9_leastAt_22 : decode cX9_leastAt 22 = .ok (.ldc 50, 2) := by decide +kernel
theorem dX9_leastAt_24 : decode cX9_leastAt 24 = .ok (.ireturn, 1) := by decide +kernel
theorem dX9_chooseLength_0 : decode cX9_chooseLength 0 = .ok (.aload_n 0, 1) := by decide +kernel
theorem dX9_chooseLength_1 : decode cX9_chooseLength 1 = .ok (.ldc 50, 2) := by decide +kernel
theorem dX9_chooseLength_3 : decode cX9_chooseLength 3 = .ok (.putfield 46, 3) := by decide +kernel
theorem dX9_chooseLength_6 : decode cX9_chooseLength 6 = .ok (.aload_n 0, 1) := by decide +kernel
theorem dX9_chooseLength_7 : decode cX9_chooseLength 7 = .ok (.iconst 0, 1) := by decide +kernel
theorem dX9_chooseLength_8 : decode cX9_chooseLength 8 = .ok (.putfield 101, 3) := by decide +kernel
theorem dX9_chooseLength_11 : decode cX9_chooseLength 11 = .ok (.iconst 1, 1) := by decide +kernel
theorem dX9_chooseLength_12 : decode cX9_chooseLength 12 = .ok (.istore_n 3, 1) := by decide +kernel
theorem dX9_chooseLength_13 : decode cX9_chooseLength 13 = .ok (.iload_n 3, 1) := by decide +kernel
theorem dX9_chooseLength_14 : decode cX9_chooseLength 14 = .ok (.iload_n 2, 1) := by decide +kernel
theorem dX9_chooseLength_15 : decode cX9_chooseLength 15 = .ok (.if_icmp .gt 43, 3) := by decide +kernel
theorem dX9_chooseLength_18 : decode cX9_chooseLength 18 = .ok (.aload_n 0, 1) := by decide +kernel
theorem dX9_chooseLength_19 : decode cX9_chooseLength 19 = .ok (.iload_n 3, 1) := by decide +kernel
theorem dX9_chooseLength_20 : decode cX9_chooseLength 20 = .ok (.iload_n 1, 1) := by decide +kernel
theorem dX9_chooseLength_21 : decode cX9_chooseLength 21 = .ok (.invokestatic 84, 3) := by decide +kernel
theorem dX9_chooseLength_24 : decode cX9_chooseLength 24 = .ok (.invokevirtual 97, 3) := by decide +kernel
theorem dX9_chooseLength_27 : decode cX9_chooseLength 27 = .ok (.aload_n 0, 1) := by decide +kernel
theorem dX9_chooseLength_28 : decode cX9_chooseLength 28 = .ok (.getfield 46, 3) := by decide +kernel
theorem dX9_chooseLength_31 : decode cX9_chooseLength 31 = .ok (.if_icmp .ge 21, 3) := by decide +kernel
theorem dX9_chooseLength_34 : decode cX9_chooseLength 34 = .ok (.aload_n 0, 1) := by decide +kernel
theorem dX9_chooseLength_35 : decode cX9_chooseLength 35 = .ok (.aload_n 0, 1) := by decide +kernel
theorem dX9_chooseLength_36 : decode cX9_chooseLength 36 = .ok (.iload_n 3, 1) := by decide +kernel
theorem dX9_chooseLength_37 : decode cX9_chooseLength 37 = .ok (.iload_n 1, 1) := by decide +kernel
theorem dX9_chooseLength_38 : decode cX9_chooseLength 38 = .ok (.invokestatic 84, 3) := by decide +kernel
theorem dX9_chooseLength_41 : decode cX9_chooseLength 41 = .ok (.invokevirtual 97, 3) := by decide +kernel
theorem dX9_chooseLength_44 : decode cX9_chooseLength 44 = .ok (.putfield 46, 3) := by decide +kernel
theorem dX9_chooseLength_47 : decode cX9_chooseLength 47 = .ok (.aload_n 0, 1) := by decide +kernel
theorem dX9_chooseLength_48 : decode cX9_chooseLength 48 = .ok (.iload_n 3, 1) := by decide +kernel
theorem dX9_chooseLength_49 : decode cX9_chooseLength 49 = .ok (.putfield 101, 3) := by decide +kernel
theorem dX9_chooseLength_52 : decode cX9_chooseLength 52 = .ok (.iinc 3 1, 3) := by decide +kernel
theorem dX9_chooseLength_55 : decode cX9_chooseLength 55 = .ok (.goto (-42), 3) := by decide +kernel
theorem dX9_chooseLength_58 : decode cX9_chooseLength 58 = .ok (.return_, 1) := by decide +kernel
theorem dX9_follow_0 : decode cX9_follow 0 = .ok (.iload_n 2, 1) := by decide +kernel
theorem dX9_follow_1 : decode cX9_follow 1 = .ok (.istore_n 3, 1) := by decide +kernel
theorem dX9_follow_2 : decode cX9_follow 2 = .ok (.aload_n 0, 1) := by decide +kernel
theorem dX9_follow_3 : decode cX9_follow 3 = .ok (.getfield 101, 3) := by decide +kernel
theorem dX9_follow_6 : decode cX9_follow 6 = .ok (.istore 4, 2) := by decide +kernel
theorem dX9_follow_8 : decode cX9_follow 8 = .ok (.aload_n 0, 1) := by decide +kernel
theorem dX9_follow_9 : decode cX9_follow 9 = .ok (.iconst 0, 1) := by decide +kernel
theorem dX9_follow_10 : decode cX9_follow 10 = .ok (.putfield 103, 3) := by decide +kernel
theorem dX9_follow_13 : decode cX9_follow 13 = .ok (.iload 4, 2) := by decide +kernel
theorem dX9_follow_15 : decode cX9_follow 15 = .ok (.ifCond .le 75, 3) := by decide +kernel
theorem dX9_follow_18 : decode cX9_follow 18 = .ok (.aload_n 0, 1) := by decide +kernel
theorem dX9_follow_19 : decode cX9_follow 19 = .ok (.getfield 103, 3) := by decide +kernel
theorem dX9_follow_22 : decode cX9_follow 22 = .ok (.bipush 24, 2) := by decide +kernel
theorem dX9_follow_24 : decode cX9_follow 24 = .ok (.if_icmp .ge 66, 3) := by decide +kernel
theorem dX9_follow_27 : decode cX9_follow 27 = .ok (.aload_n 0, 1) := by decide +kernel
theorem dX9_follow_28 : decode cX9_follow 28 = .ok (.getfield 15, 3) := by decide +kernel
theorem dX9_follow_31 : decode cX9_follow 31 = .ok (.iload 4, 2) := by decide +kernel
theorem dX9_follow_33 : decode cX9_follow 33 = .ok (.iload_n 3, 1) := by decide +kernel
theorem dX9_follow_34 : decode cX9_follow 34 = .ok (.invokestatic 84, 3) := by decide +kernel
theorem dX9_follow_37 : decode cX9_follow 37 = .ok (.invokestatic 59, 3) := by decide +kernel
theorem dX9_follow_40 : decode cX9_follow 40 = .ok (.istore 5, 2) := by decide +kernel
theorem dX9_follow_42 : decode cX9_follow 42 = .ok (.aload_n 0, 1) := by decide +kernel
theorem dX9_follow_43 : decode cX9_follow 43 = .ok (.getfield 21, 3) := by decide +kernel
theorem dX9_follow_46 : decode cX9_follow 46 = .ok (.aload_n 0, 1) := by decide +kernel
theorem dX9_follow_47 : decode cX9_follow 47 = .ok (.getfield 103, 3) := by decide +kernel
theorem dX9_follow_50 : decode cX9_follow 50 = .ok (.iload 5, 2) := by decide +kernel
theorem dX9_follow_52 : decode cX9_follow 52 = .ok (.invokestatic 76, 3) := by decide +kernel
theorem dX9_follow_55 : decode cX9_follow 55 = .ok (.aload_n 0, 1) := by decide +kernel
theorem dX9_follow_56 : decode cX9_follow 56 = .ok (.dup, 1) := by decide +kernel
theorem dX9_follow_57 : decode cX9_follow 57 = .ok (.getfield 103, 3) := by decide +kernel
theorem dX9_follow_60 : decode cX9_follow 60 = .ok (.iconst 1, 1) := by decide +kernel
theorem dX9_follow_61 : decode cX9_follow 61 = .ok (.iadd, 1) := by decide +kernel
theorem dX9_follow_62 : decode cX9_follow 62 = .ok (.putfield 103, 3) := by decide +kernel
theorem dX9_follow_65 : decode cX9_follow 65 = .ok (.aload_n 1, 1) := by decide +kernel
theorem dX9_follow_66 : decode cX9_follow 66 = .ok (.iload 5, 2) := by decide +kernel
theorem dX9_follow_68 : decode cX9_follow 68 = .ok (.iload_n 3, 1) := by decide +kernel
theorem dX9_follow_69 : decode cX9_follow 69 = .ok (.invokevirtual 104, 3) := by decide +kernel
theorem dX9_follow_72 : decode cX9_follow 72 = .ok (.istore_n 3, 1) := by decide +kernel
theorem dX9_follow_73 : decode cX9_follow 73 = .ok (.iload 4, 2) := by decide +kernel
theorem dX9_follow_75 : decode cX9_follow 75 = .ok (.aload_n 1, 1) := by decide +kernel
theorem dX9_follow_76 : decode cX9_follow 76 = .ok (.getfield 56, 3) := by decide +kernel
theorem dX9_follow_79 : decode cX9_follow 79 = .ok (.iload 5, 2) := by decide +kernel
theorem dX9_follow_81 : decode cX9_follow 81 = .ok (.invokestatic 59, 3) := by decide +kernel
theorem dX9_follow_84 : decode cX9_follow 84 = .ok (.isub, 1) := by decide +kernel
theorem dX9_follow_85 : decode cX9_follow 85 = .ok (.istore 4, 2) := by decide +kernel
theorem dX9_follow_87 : decode cX9_follow 87 = .ok (.goto (-74), 3) := by decide +kernel
theorem dX9_follow_90 : decode cX9_follow 90 = .ok (.return_, 1) := by decide +kernel
theorem dX9_place_0 : decode cX9_place 0 = .ok (.iload_n 0, 1) := by decide +kernel
theorem dX9_place_1 : decode cX9_place 1 = .ok (.bipush 9, 2) := by decide +kernel
theorem dX9_place_3 : decode cX9_place 3 = .ok (.imul, 1) := by decide +kernel
theorem dX9_place_4 : decode cX9_place 4 = .ok (.iload_n 1, 1) := by decide +kernel
theorem dX9_place_5 : decode cX9_place 5 = .ok (.iadd, 1) := by decide +kernel
theorem dX9_place_6 : decode cX9_place 6 = .ok (.ireturn, 1) := by decide +kernel
theorem dX10_init_0 : decode cX10_init 0 = .ok (.aload_n 0, 1) := by decide +kernel
theorem dX10_init_1 : decode cX10_init 1 = .ok (.invokespecial 3, 3) := by decide +kernel
theorem dX10_init_4 : decode cX10_init 4 = .ok (.aload_n 0, 1) := by decide +kernel
theorem dX10_init_5 : decode cX10_init 5 = .ok (.new 9, 3) := by decide +kernel
theorem dX10_init_8 : decode cX10_init 8 = .ok (.dup, 1) := by decide +kernel
theorem dX10_init_9 : decode cX10_init 9 = .ok (.invokespecial 11, 3) := by decide +kernel
theorem dX10_init_12 : decode cX10_init 12 = .ok (.putfield 12, 3) := by decide +kernel
theorem dX10_init_15 : decode cX10_init 15 = .ok (.aload_n 0, 1) := by decide +kernel
theorem dX10_init_16 : decode cX10_init 16 = .ok (.new 16, 3) := by decide +kernel
theorem dX10_init_19 : decode cX10_init 19 = .ok (.dup, 1) := by decide +kernel
theorem dX10_init_20 : decode cX10_init 20 = .ok (.invokespecial 18, 3) := by decide +kernel
theorem dX10_init_23 : decode cX10_init 23 = .ok (.putfield 19, 3) := by decide +kernel
theorem dX10_init_26 : decode cX10_init 26 = .ok (.aload_n 0, 1) := by decide +kernel
theorem dX10_init_27 : decode cX10_init 27 = .ok (.new 16, 3) := by decide +kernel
theorem dX10_init_30 : decode cX10_init 30 = .ok (.dup, 1) := by decide +kernel
theorem dX10_init_31 : decode cX10_init 31 = .ok (.invokespecial 18, 3) := by decide +kernel
theorem dX10_init_34 : decode cX10_init 34 = .ok (.putfield 23, 3) := by decide +kernel
theorem dX10_init_37 : decode cX10_init 37 = .ok (.aload_n 0, 1) := by decide +kernel
theorem dX10_init_38 : decode cX10_init 38 = .ok (.new 26, 3) := by decide +kernel
theorem dX10_init_41 : decode cX10_init 41 = .ok (.dup, 1) := by decide +kernel
theorem dX10_init_42 : decode cX10_init 42 = .ok (.invokespecial 28, 3) := by decide +kernel
theorem dX10_init_45 : decode cX10_init 45 = .ok (.putfield 29, 3) := by decide +kernel
theorem dX10_init_48 : decode cX10_init 48 = .ok (.aload_n 0, 1) := by decide +kernel
theorem dX10_init_49 : decode cX10_init 49 = .ok (.new 33, 3) := by decide +kernel
theorem dX10_init_52 : decode cX10_init 52 = .ok (.dup, 1) := by decide +kernel
theorem dX10_init_53 : decode cX10_init 53 = .ok (.invokespecial 35, 3) := by decide +kernel
theorem dX10_init_56 : decode cX10_init 56 = .ok (.putfield 36, 3) := by decide +kernel
theorem dX10_init_59 : decode cX10_init 59 = .ok (.aload_n 0, 1) := by decide +kernel
theorem dX10_init_60 : decode cX10_init 60 = .ok (.new 40, 3) := by decide +kernel
theorem dX10_init_63 : decode cX10_init 63 = .ok (.dup, 1) := by decide +kernel
theorem dX10_init_64 : decode cX10_init 64 = .ok (.invokespecial 42, 3) := by decide +kernel
theorem dX10_init_67 : decode cX10_init 67 = .ok (.putfield 43, 3) := by decide +kernel
theorem dX10_init_70 : decode cX10_init 70 = .ok (.aload_n 0, 1) := by decide +kernel
theorem dX10_init_71 : decode cX10_init 71 = .ok (.getfield 19, 3) := by decide +kernel
theorem dX10_init_74 : decode cX10_init 74 = .ok (.iconst 3, 1) := by decide +kernel
theorem dX10_init_75 : decode cX10_init 75 = .ok (.invokevirtual 47, 3) := by decide +kernel
theorem dX10_init_78 : decode cX10_init 78 = .ok (.aload_n 0, 1) := by decide +kernel
theorem dX10_init_79 : decode cX10_init 79 = .ok (.getfield 19, 3) := by decide +kernel
theorem dX10_init_82 : decode cX10_init 82 = .ok (.getfield 51, 3) := by decide +kernel
theorem dX10_init_85 : decode cX10_init 85 = .ok (.iconst 0, 1) := by decide +kernel
theorem dX10_init_86 : decode cX10_init 86 = .ok (.iconst 1, 1) := by decide +kernel
theorem dX10_init_87 : decode cX10_init 87 = .ok (.iconst 2, 1) := by decide +kernel
theorem dX10_init_88 : decode cX10_init 88 = .ok (.invokevirtual 55, 3) := by decide +kernel
theorem dX10_init_91 : decode cX10_init 91 = .ok (.aload_n 0, 1) := by decide +kernel
theorem dX10_init_92 : decode cX10_init 92 = .ok (.getfield 19, 3) := by decide +kernel
theorem dX10_init_95 : decode cX10_init 95 = .ok (.getfield 51, 3) := by decide +kernel
theorem dX10_init_98 : decode cX10_init 98 = .ok (.iconst 1, 1) := by decide +kernel
theorem dX10_init_99 : decode cX10_init 99 = .ok (.iconst 2, 1) := by decide +kernel
theorem dX10_init_100 : decode cX10_init 100 = .ok (.iconst 2, 1) := by decide +kernel
theorem dX10_init_101 : decode cX10_init 101 = .ok (.invokevirtual 55, 3) := by decide +kernel
theorem dX10_init_104 : decode cX10_init 104 = .ok (.return_, 1) := by decide +kernel
theorem dX10_append_0 : decode cX10_append 0 = .ok (.iload_n 1, 1) := by decide +kernel
theorem dX10_append_1 : decode cX10_append 1 = .ok (.iconst 0, 1) := by decide +kernel
theorem dX10_append_2 : decode cX10_append 2 = .ok (.sipush 255, 3) := by decide +kernel
theorem dX10_append_5 : decode cX10_append 5 = .ok (.invokestatic 61, 3) := by decide +kernel
theorem dX10_append_8 : decode cX10_append 8 = .ok (.aload_n 0, 1) := by decide +kernel
theorem dX10_append_9 : decode cX10_append 9 = .ok (.getfield 12, 3) := by decide +kernel
theorem dX10_append_12 : decode cX10_append 12 = .ok (.invokevirtual 64, 3) := by decide +kernel
theorem dX10_append_15 : decode cX10_append 15 = .ok (.ifCond .eq 13, 3) := by decide +kernel
theorem dX10_append_18 : decode cX10_append 18 = .ok (.new 68, 3) := by decide +kernel
theorem dX10_append_21 : decode cX10_append 21 = .ok (.dup, 1) := by decide +kernel
theorem dX10_append_22 : decode cX10_append 22 = .ok (.ldc 70, 2) := by decide +kernel
theorem dX10_append_24 : decode cX10_append 24 = .ok (.invokespecial 72, 3) := by decide +kernel
theorem dX10_append_27 : decode cX10_append 27 = .ok (.athrow, 1) := by decide +kernel
theorem dX10_append_28 : decode cX10_append 28 = .ok (.aload_n 0, 1) := by decide +kernel
theorem dX10_append_29 : decode cX10_append 29 = .ok (.getfield 12, 3) := by decide +kernel
theorem dX10_append_32 : decode cX10_append 32 = .ok (.iload_n 1, 1) := by decide +kernel
theorem dX10_append_33 : decode cX10_append 33 = .ok (.invokevirtual 75, 3) := by decide +kernel
theorem dX10_append_36 : decode cX10_append 36 = .ok (.ireturn, 1) := by decide +kernel
theorem dX10_clearText_0 : decode cX10_clearText 0 = .ok (.aload_n 0, 1) := by decide +kernel
theorem dX10_clearText_1 : decode cX10_clearText 1 = .ok (.getfield 12, 3) := by decide +kernel
theorem dX10_clearText_4 : decode cX10_clearText 4 = .ok (.invokevirtual 78, 3) := by decide +kernel
theorem dX10_clearText_7 : decode cX10_clearText 7 = .ok (.ireturn, 1) := by decide +kernel
theorem dX10_errorPosition_0 : decode cX10_errorPosition 0 = .ok (.aload_n 0, 1) := by decide +kernel
theorem dX10_errorPosition_1 : decode cX10_errorPosition 1 = .ok (.getfield 12, 3) := by decide +kernel
theorem dX10_errorPosition_4 : decode cX10_errorPosition 4 = .ok (.aload_n 0, 1) := by decide +kernel
theorem dX10_errorPosition_5 : decode cX10_errorPosition 5 = .ok (.getfield 23, 3) := by decide +kernel
theorem dX10_errorPosition_8 : decode cX10_errorPosition 8 = .ok (.invokevirtual 82, 3) := by decide +kernel
theorem dX10_errorPosition_11 : decode cX10_errorPosition 11 = .ok (.ireturn, 1) := by decide +kernel
theorem dX10_load_0 : decode cX10_load 0 = .ok (.aload_n 0, 1) := by decide +kernel
theorem dX10_load_1 : decode cX10_load 1 = .ok (.getfield 12, 3) := by decide +kernel
theorem dX10_load_4 : decode cX10_load 4 = .ok (.aload_n 0, 1) := by decide +kernel
theorem dX10_load_5 : decode cX10_load 5 = .ok (.getfield 23, 3) := by decide +kernel
theorem dX10_load_8 : decode cX10_load 8 = .ok (.invokevirtual 82, 3) := by decide +kernel
theorem dX10_load_11 : decode cX10_load 11 = .ok (.bipush (-9), 2) := by decide +kernel
theorem dX10_load_13 : decode cX10_load 13 = .ok (.if_icmp .eq 13, 3) := by decide +kernel
theorem dX10_load_16 : decode cX10_load 16 = .ok (.new 68, 3) := by decide +kernel
theorem dX10_load_19 : decode cX10_load 19 = .ok (.dup, 1) := by decide +kernel
theorem dX10_load_20 : decode cX10_load 20 = .ok (.ldc 86, 2) := by decide +kernel
theorem dX10_load_22 : decode cX10_load 22 = .ok (.invokespecial 72, 3) := by decide +kernel
theorem dX10_load_25 : decode cX10_load 25 = .ok (.athrow, 1) := by decide +kernel
theorem dX10_load_26 : decode cX10_load 26 = .ok (.aload_n 0, 1) := by decide +kernel
theorem dX10_load_27 : decode cX10_load 27 = .ok (.getfield 19, 3) := by decide +kernel
theorem dX10_load_30 : decode cX10_load 30 = .ok (.aload_n 0, 1) := by decide +kernel
theorem dX10_load_31 : decode cX10_load 31 = .ok (.getfield 23, 3) := by decide +kernel
theorem dX10_load_34 : decode cX10_load 34 = .ok (.invokevirtual 88, 3) := by decide +kernel
theorem dX10_load_37 : decode cX10_load 37 = .ok (.aload_n 0, 1) := by decide +kernel
theorem dX10_load_38 : decode cX10_load 38 = .ok (.getfield 29, 3) := by decide +kernel
theorem dX10_load_41 : decode cX10_load 41 = .ok (.invokevirtual 92, 3) := by decide +kernel
theorem dX10_load_44 : decode cX10_load 44 = .ok (.aload_n 0, 1) := by decide +kernel
theorem dX10_load_45 : decode cX10_load 45 = .ok (.getfield 36, 3) := by decide +kernel
theorem dX10_load_48 : decode cX10_load 48 = .ok (.invokevirtual 95, 3) := by decide +kernel
theorem dX10_load_51 : decode cX10_load 51 = .ok (.aload_n 0, 1) := by decide +kernel
theorem dX10_load_52 : decode cX10_load 52 = .ok (.getfield 19, 3) := by decide +kernel
theorem dX10_load_55 : decode cX10_load 55 = .ok (.getfield 51, 3) := by decide +kernel
theorem dX10_load_58 : decode cX10_load 58 = .ok (.getfield 97, 3) := by decide +kernel
theorem dX10_load_61 : decode cX10_load 61 = .ok (.ireturn, 1) := by decide +kernel
theorem dX10_about_0 : decode cX10_about 0 = .ok (.iload_n 1, 1) := by decide +kernel
theorem dX10_about_1 : decode cX10_about 1 = .ok (.tableswitch 172 0 10 #[59, 67, 78, 89, 97, 105, 120, 134, 142, 150, 164], 59) := by decide +kernel
theorem dX10_about_60 : decode cX10_about 60 = .ok (.aload_n 0, 1) := by decide +kernel
theorem dX10_about_61 : decode cX10_about 61 = .ok (.getfield 19, 3) := by decide +kernel
theorem dX10_about_64 : decode cX10_about 64 = .ok (.getfield 101, 3) := by decide +kernel
theorem dX10_about_67 : decode cX10_about 67 = .ok (.ireturn, 1) := by decide +kernel
theorem dX10_about_68 : decode cX10_about 68 = .ok (.aload_n 0, 1) := by decide +kernel
theorem dX10_about_69 : decode cX10_about 69 = .ok (.getfield 19, 3) := by decide +kernel
theorem dX10_about_72 : decode cX10_about 72 = .ok (.getfield 51, 3) := by decide +kernel
theorem dX10_about_75 : decode cX10_about 75 = .ok (.getfield 97, 3) := by decide +kernel
theorem dX10_about_78 : decode cX10_about 78 = .ok (.ireturn, 1) := by decide +kernel
theorem dX10_about_79 : decode cX10_about 79 = .ok (.aload_n 0, 1) := by decide +kernel
theorem dX10_about_80 : decode cX10_about 80 = .ok (.getfield 19, 3) := by decide +kernel
theorem dX10_about_83 : decode cX10_about 83 = .ok (.getfield 104, 3) := by decide +kernel
theorem dX10_about_86 : decode cX10_about 86 = .ok (.getfield 108, 3) := by decide +kernel
theorem dX10_about_89 : decode cX10_about 89 = .ok (.ireturn, 1) := by decide +kernel
theorem dX10_about_90 : decode cX10_about 90 = .ok (.aload_n 0, 1) := by decide +kernel
theorem dX10_about_91 : decode cX10_about 91 = .ok (.getfield 19, 3) := by decide +kernel
theorem dX10_about_94 : decode cX10_about 94 = .ok (.getfield 111, 3) := by decide +kernel
theorem dX10_about_97 : decode cX10_about 97 = .ok (.ireturn, 1) := by decide +kernel
theorem dX10_about_98 : decode cX10_about 98 = .ok (.aload_n 0, 1) := by decide +kernel
theorem dX10_about_99 : decode cX10_about 99 = .ok (.getfield 19, 3) := by decide +kernel
theorem dX10_about_102 : decode cX10_about 102 = .ok (.getfield 114, 3) := by decide +kernel
theorem dX10_about_105 : decode cX10_about 105 = .ok (.ireturn, 1) := by decide +kernel
theorem dX10_about_106 : decode cX10_about 106 = .ok (.aload_n 0, 1) := by decide +kernel
theorem dX10_about_107 : decode cX10_about 107 = .ok (.getfield 19, 3) := by decide +kernel
theorem dX10_about_110 : decode cX10_about 110 = .ok (.getfield 117, 3) := by decide +kernel
theorem dX10_about_113 : decode cX10_about 113 = .ok (.getfield 121, 3) := by decide +kernel
theorem dX10_about_116 : decode cX10_about 116 = .ok (.iconst 4, 1) := by decide +kernel
theorem dX10_about_117 : decode cX10_about 117 = .ok (.invokestatic 127, 3) := by decide +kernel
theorem dX10_about_120 : decode cX10_about 120 = .ok (.ireturn, 1) := by decide +kernel
theorem dX10_about_121 : decode cX10_about 121 = .ok (.aload_n 0, 1) := by decide +kernel
theorem dX10_about_122 : decode cX10_about 122 = .ok (.getfield 19, 3) := by decide +kernel
theorem dX10_about_125 : decode cX10_about 125 = .ok (.getfield 117, 3) := by decide +kernel
theorem dX10_about_128 : decode cX10_about 128 = .ok (.getfield 131, 3) := by decide +kernel
theorem dX10_about_131 : decode cX10_about 131 = .ok (.invokestatic 134, 3) := by decide +kernel
theorem dX10_about_134 : decode cX10_about 134 = .ok (.ireturn, 1) := by decide +kernel
theorem dX10_about_135 : decode cX10_about 135 = .ok (.aload_n 0, 1) := by decide +kernel
theorem dX10_about_136 : decode cX10_about 136 = .ok (.getfield 19, 3) := by decide +kernel
theorem dX10_about_139 : decode cX10_about 139 = .ok (.getfield 138, 3) := by decide +kernel
theorem dX10_about_142 : decode cX10_about 142 = .ok (.ireturn, 1) := by decide +kernel
theorem dX10_about_143 : decode cX10_about 143 = .ok (.aload_n 0, 1) := by decide +kernel
theorem dX10_about_144 : decode cX10_about 144 = .ok (.getfield 19, 3) := by decide +kernel
theorem dX10_about_147 : decode cX10_about 147 = .ok (.getfield 141, 3) := by decide +kernel
theorem dX10_about_150 : decode cX10_about 150 = .ok (.ireturn, 1) := by decide +kernel
theorem dX10_about_151 : decode cX10_about 151 = .ok (.aload_n 0, 1) := by decide +kernel
theorem dX10_about_152 : decode cX10_about 152 = .ok (.getfield 19, 3) := by decide +kernel
theorem dX10_about_155 : decode cX10_about 155 = .ok (.getfield 117, 3) := by decide +kernel
theorem dX10_about_158 : decode cX10_about 158 = .ok (.getfield 144, 3) := by decide +kernel
theorem dX10_about_161 : decode cX10_about 161 = .ok (.invokestatic 134, 3) := by decide +kernel
theorem dX10_about_164 : decode cX10_about 164 = .ok (.ireturn, 1) := by decide +kernel
theorem dX10_about_165 : decode cX10_about 165 = .ok (.aload_n 0, 1) := by decide +kernel
theorem dX10_about_166 : decode cX10_about 166 = .ok (.getfield 19, 3) := by decide +kernel
theorem dX10_about_169 : decode cX10_about 169 = .ok (.getfield 147, 3) := by decide +kernel
theorem dX10_about_172 : decode cX10_about 172 = .ok (.ireturn, 1) := by decide +kernel
theorem dX10_about_173 : decode cX10_about 173 = .ok (.new 150, 3) := by decide +kernel
theorem dX10_about_176 : decode cX10_about 176 = .ok (.dup, 1) := by decide +kernel
theorem dX10_about_177 : decode cX10_about 177 = .ok (.ldc 152, 2) := by decide +kernel
theorem dX10_about_179 : decode cX10_about 179 = .ok (.invokespecial 154, 3) := by decide +kernel
theorem dX10_about_182 : decode cX10_about 182 = .ok (.athrow, 1) := by decide +kernel
theorem dX10_track_0 : decode cX10_track 0 = .ok (.aload_n 0, 1) := by decide +kernel
theorem dX10_track_1 : decode cX10_track 1 = .ok (.iload_n 1, 1) := by decide +kernel
theorem dX10_track_2 : decode cX10_track 2 = .ok (.invokevirtual 155, 3) := by decide +kernel
theorem dX10_track_5 : decode cX10_track 5 = .ok (.aload_n 0, 1) := by decide +kernel
theorem dX10_track_6 : decode cX10_track 6 = .ok (.getfield 19, 3) := by decide +kernel
theorem dX10_track_9 : decode cX10_track 9 = .ok (.getfield 51, 3) := by decide +kernel
theorem dX10_track_12 : decode cX10_track 12 = .ok (.astore_n 3, 1) := by decide +kernel
theorem dX10_track_13 : decode cX10_track 13 = .ok (.iload_n 2, 1) := by decide +kernel
theorem dX10_track_14 : decode cX10_track 14 = .ok (.tableswitch 79 0 3 #[30, 39, 48, 57], 30) := by decide +kernel
theorem dX10_track_44 : decode cX10_track 44 = .ok (.aload_n 3, 1) := by decide +kernel
theorem dX10_track_45 : decode cX10_track 45 = .ok (.getfield 158, 3) := by decide +kernel
theorem dX10_track_48 : decode cX10_track 48 = .ok (.iload_n 1, 1) := by decide +kernel
theorem dX10_track_49 : decode cX10_track 49 = .ok (.invokestatic 127, 3) := by decide +kernel
theorem dX10_track_52 : decode cX10_track 52 = .ok (.ireturn, 1) := by decide +kernel
theorem dX10_track_53 : decode cX10_track 53 = .ok (.aload_n 3, 1) := by decide +kernel
theorem dX10_track_54 : decode cX10_track 54 = .ok (.getfield 161, 3) := by decide +kernel
theorem dX10_track_57 : decode cX10_track 57 = .ok (.iload_n 1, 1) := by decide +kernel
theorem dX10_track_58 : decode cX10_track 58 = .ok (.invokestatic 127, 3) := by decide +kernel
theorem dX10_track_61 : decode cX10_track 61 = .ok (.ireturn, 1) := by decide +kernel
theorem dX10_track_62 : decode cX10_track 62 = .ok (.aload_n 3, 1) := by decide +kernel
theorem dX10_track_63 : decode cX10_track 63 = .ok (.getfield 164, 3) := by decide +kernel
theorem dX10_track_66 : decode cX10_track 66 = .ok (.iload_n 1, 1) := by decide +kernel
theorem dX10_track_67 : decode cX10_track 67 = .ok (.invokestatic 127, 3) := by decide +kernel
theorem dX10_track_70 : decode cX10_track 70 = .ok (.ireturn, 1) := by decide +kernel
theorem dX10_track_71 : decode cX10_track 71 = .ok (.aload_n 3, 1) := by decide +kernel
theorem dX10_track_72 : decode cX10_track 72 = .ok (.iload_n 1, 1) := by decide +kernel
theorem dX10_track_73 : decode cX10_track 73 = .ok (.invokevirtual 167, 3) := by decide +kernel
theorem dX10_track_76 : decode cX10_track 76 = .ok (.ifCond .eq 8, 3) := by decide +kernel
theorem dX10_track_79 : decode cX10_track 79 = .ok (.bipush (-9), 2) := by decide +kernel
theorem dX10_track_81 : decode cX10_track 81 = .ok (.goto 11, 3) := by decide +kernel
theorem dX10_track_84 : decode cX10_track 84 = .ok (.aload_n 3, 1) := by decide +kernel
theorem dX10_track_85 : decode cX10_track 85 = .ok (.getfield 171, 3) := by decide +kernel
theorem dX10_track_88 : decode cX10_track 88 = .ok (.iload_n 1, 1) := by decide +kernel
theorem dX10_track_89 : decode cX10_track 89 = .ok (.invokestatic 127, 3) := by decide +kernel
theorem dX10_track_92 : decode cX10_track 92 = .ok (.ireturn, 1) := by decide +kernel
theorem dX10_track_93 : decode cX10_track 93 = .ok (.new 150, 3) := by decide +kernel
theorem dX10_track_96 : decode cX10_track 96 = .ok (.dup, 1) := by decide +kernel
theorem dX10_track_97 : decode cX10_track 97 = .ok (.ldc 152, 2) := by decide +kernel
theorem dX10_track_99 : decode cX10_track 99 = .ok (.invokespecial 154, 3) := by decide +kernel
theorem dX10_track_102 : decode cX10_track 102 = .ok (.athrow, 1) := by decide +kernel
theorem dX10_company_0 : decode cX10_company 0 = .ok (.iload_n 1, 1) := by decide +kernel
theorem dX10_company_1 : decode cX10_company 1 = .ok (.invokestatic 174, 3) := by decide +kernel
theorem dX10_company_4 : decode cX10_company 4 = .ok (.aload_n 0, 1) := by decide +kernel
theorem dX10_company_5 : decode cX10_company 5 = .ok (.getfield 19, 3) := by decide +kernel
theorem dX10_company_8 : decode cX10_company 8 = .ok (.getfield 117, 3) := by decide +kernel
theorem dX10_company_11 : decode cX10_company 11 = .ok (.astore_n 3, 1) := by decide +kernel
theorem dX10_company_12 : decode cX10_company 12 = .ok (.iload_n 2, 1) := by decide +kernel
theorem dX10_company_13 : decode cX10_company 13 = .ok (.tableswitch 112 0 6 #[43, 52, 61, 70, 82, 94, 103], 43) := by decide +kernel
theorem dX10_company_56 : decode cX10_company 56 = .ok (.aload_n 3, 1) := by decide +kernel
theorem dX10_company_57 : decode cX10_company 57 = .ok (.getfield 121, 3) := by decide +kernel
theorem dX10_company_60 : decode cX10_company 60 = .ok (.iload_n 1, 1) := by decide +kernel
theorem dX10_company_61 : decode cX10_company 61 = .ok (.invokestatic 127, 3) := by decide +kernel
theorem dX10_company_64 : decode cX10_company 64 = .ok (.ireturn, 1) := by decide +kernel
theorem dX10_company_65 : decode cX10_company 65 = .ok (.aload_n 3, 1) := by decide +kernel
theorem dX10_company_66 : decode cX10_company 66 = .ok (.getfield 177, 3) := by decide +kernel
theorem dX10_company_69 : decode cX10_company 69 = .ok (.iload_n 1, 1) := by decide +kernel
theorem dX10_company_70 : decode cX10_company 70 = .ok (.invokestatic 127, 3) := by decide +kernel
theorem dX10_company_73 : decode cX10_company 73 = .ok (.ireturn, 1) := by decide +kernel
theorem dX10_company_74 : decode cX10_company 74 = .ok (.aload_n 3, 1) := by decide +kernel
theorem dX10_company_75 : decode cX10_company 75 = .ok (.getfield 180, 3) := by decide +kernel
theorem dX10_company_78 : decode cX10_company 78 = .ok (.iload_n 1, 1) := by decide +kernel
theorem dX10_company_79 : decode cX10_company 79 = .ok (.invokestatic 127, 3) := by decide +kernel
theorem dX10_company_82 : decode cX10_company 82 = .ok (.ireturn, 1) := by decide +kernel
theorem dX10_company_83 : decode cX10_company 83 = .ok (.aload_n 0, 1) := by decide +kernel
theorem dX10_company_84 : decode cX10_company 84 = .ok (.getfield 19, 3) := by decide +kernel
theorem dX10_company_87 : decode cX10_company 87 = .ok (.getfield 51, 3) := by decide +kernel
theorem dX10_company_90 : decode cX10_company 90 = .ok (.iload_n 1, 1) := by decide +kernel
theorem dX10_company_91 : decode cX10_company 91 = .ok (.invokevirtual 183, 3) := by decide +kernel
theorem dX10_company_94 : decode cX10_company 94 = .ok (.ireturn, 1) := by decide +kernel
theorem dX10_company_95 : decode cX10_company 95 = .ok (.aload_n 0, 1) := by decide +kernel
theorem dX10_company_96 : decode cX10_company 96 = .ok (.getfield 19, 3) := by decide +kernel
theorem dX10_company_99 : decode cX10_company 99 = .ok (.getfield 104, 3) := by decide +kernel
theorem dX10_company_102 : decode cX10_company 102 = .ok (.iload_n 1, 1) := by decide +kernel
theorem dX10_company_103 : decode cX10_company 103 = .ok (.invokevirtual 186, 3) := by decide +kernel
theorem dX10_company_106 : decode cX10_company 106 = .ok (.ireturn, 1) := by decide +kernel
theorem dX10_company_107 : decode cX10_company 107 = .ok (.aload_n 3, 1) := by decide +kernel
theorem dX10_company_108 : decode cX10_company 108 = .ok (.getfield 131, 3) := by decide +kernel
theorem dX10_company_111 : decode cX10_company 111 = .ok (.iload_n 1, 1) := by decide +kernel
theorem dX10_company_112 : decode cX10_company 112 = .ok (.invokestatic 127, 3) := by decide +kernel
theorem dX10_company_115 : decode cX10_company 115 = .ok (.ireturn, 1) := by decide +kernel
theorem dX10_company_116 : decode cX10_company 116 = .ok (.aload_n 3, 1) := by decide +kernel
theorem dX10_company_117 : decode cX10_company 117 = .ok (.getfield 144, 3) := by decide +kernel
theorem dX10_company_120 : decode cX10_company 120 = .ok (.iload_n 1, 1) := by decide +kernel
theorem dX10_company_121 : decode cX10_company 121 = .ok (.invokestatic 127, 3) := by decide +kernel
theorem dX10_company_124 : decode cX10_company 124 = .ok (.ireturn, 1) := by decide +kernel
theorem dX10_company_125 : decode cX10_company 125 = .ok (.new 150, 3) := by decide +kernel
theorem dX10_company_128 : decode cX10_company 128 = .ok (.dup, 1) := by decide +kernel
theorem dX10_company_129 : decode cX10_company 129 = .ok (.ldc 152, 2) := by decide +kernel
theorem dX10_company_131 : decode cX10_company 131 = .ok (.invokespecial 154, 3) := by decide +kernel
theorem dX10_company_134 : decode cX10_company 134 = .ok (.athrow, 1) := by decide +kernel
theorem dX10_train_0 : decode cX10_train 0 = .ok (.iload_n 1, 1) := by decide +kernel
theorem dX10_train_1 : decode cX10_train 1 = .ok (.invokestatic 174, 3) := by decide +kernel
theorem dX10_train_4 : decode cX10_train 4 = .ok (.aload_n 0, 1) := by decide +kernel
theorem dX10_train_5 : decode cX10_train 5 = .ok (.iload_n 1, 1) := by decide +kernel
theorem dX10_train_6 : decode cX10_train 6 = .ok (.iload_n 2, 1) := by decide +kernel
theorem dX10_train_7 : decode cX10_train 7 = .ok (.invokevirtual 187, 3) := by decide +kernel
theorem dX10_train_10 : decode cX10_train 10 = .ok (.iload_n 3, 1) := by decide +kernel
theorem dX10_train_11 : decode cX10_train 11 = .ok (.lookupswitch 59 #[(0, 25), (1, 38)], 25) := by decide +kernel
theorem dX10_train_36 : decode cX10_train 36 = .ok (.aload_n 0, 1) := by decide +kernel
theorem dX10_train_37 : decode cX10_train 37 = .ok (.getfield 19, 3) := by decide +kernel
theorem dX10_train_40 : decode cX10_train 40 = .ok (.getfield 117, 3) := by decide +kernel
theorem dX10_train_43 : decode cX10_train 43 = .ok (.iload_n 1, 1) := by decide +kernel
theorem dX10_train_44 : decode cX10_train 44 = .ok (.iload_n 2, 1) := by decide +kernel
theorem dX10_train_45 : decode cX10_train 45 = .ok (.invokevirtual 191, 3) := by decide +kernel
theorem dX10_train_48 : decode cX10_train 48 = .ok (.ireturn, 1) := by decide +kernel
theorem dX10_train_49 : decode cX10_train 49 = .ok (.aload_n 0, 1) := by decide +kernel
theorem dX10_train_50 : decode cX10_train 50 = .ok (.getfield 19, 3) := by decide +kernel
theorem dX10_train_53 : decode cX10_train 53 = .ok (.getfield 117, 3) := by decide +kernel
theorem dX10_train_56 : decode cX10_train 56 = .ok (.iload_n 1, 1) := by decide +kernel
theorem dX10_train_57 : decode cX10_train 57 = .ok (.iload_n 2, 1) := by decide +kernel
theorem dX10_train_58 : decode cX10_train 58 = .ok (.invokevirtual 195, 3) := by decide +kernel
theorem dX10_train_61 : decode cX10_train 61 = .ok (.ifCond .eq 7, 3) := by decide +kernel
theorem dX10_train_64 : decode cX10_train 64 = .ok (.iconst 1, 1) := by decide +kernel
theorem dX10_train_65 : decode cX10_train 65 = .ok (.goto 4, 3) := by decide +kernel
theorem dX10_train_68 : decode cX10_train 68 = .ok (.iconst 0, 1) := by decide +kernel
theorem dX10_train_69 : decode cX10_train 69 = .ok (.ireturn, 1) := by decide +kernel
theorem dX10_train_70 : decode cX10_train 70 = .ok (.new 150, 3) := by decide +kernel
theorem dX10_train_73 : decode cX10_train 73 = .ok (.dup, 1) := by decide +kernel
theorem dX10_train_74 : decode cX10_train 74 = .ok (.ldc 152, 2) := by decide +kernel
theorem dX10_train_76 : decode cX10_train 76 = .ok (.invokespecial 154, 3) := by decide +kernel
theorem dX10_train_79 : decode cX10_train 79 = .ok (.athrow, 1) := by decide +kernel
theorem dX10_contract_0 : decode cX10_contract 0 = .ok (.aload_n 0, 1) := by decide +kernel
theorem dX10_contract_1 : decode cX10_contract 1 = .ok (.iload_n 1, 1) := by decide +kernel
theorem dX10_contract_2 : decode cX10_contract 2 = .ok (.invokevirtual 199, 3) := by decide +kernel
theorem dX10_contract_5 : decode cX10_contract 5 = .ok (.aload_n 0, 1) := by decide +kernel
theorem dX10_contract_6 : decode cX10_contract 6 = .ok (.getfield 19, 3) := by decide +kernel
theorem dX10_contract_9 : decode cX10_contract 9 = .ok (.getfield 104, 3) := by decide +kernel
theorem dX10_contract_12 : decode cX10_contract 12 = .ok (.astore_n 3, 1) := by decide +kernel
theorem dX10_contract_13 : decode cX10_contract 13 = .ok (.iload_n 2, 1) := by decide +kernel
theorem dX10_contract_14 : decode cX10_contract 14 = .ok (.tableswitch 92 0 5 #[38, 47, 56, 65, 74, 83], 38) := by decide +kernel
theorem dX10_contract_52 : decode cX10_contract 52 = .ok (.aload_n 3, 1) := by decide +kernel
theorem dX10_contract_53 : decode cX10_contract 53 = .ok (.getfield 202, 3) := by decide +kernel
theorem dX10_contract_56 : decode cX10_contract 56 = .ok (.iload_n 1, 1) := by decide +kernel
theorem dX10_contract_57 : decode cX10_contract 57 = .ok (.invokestatic 127, 3) := by decide +kernel
theorem dX10_contract_60 : decode cX10_contract 60 = .ok (.ireturn, 1) := by decide +kernel
theorem dX10_contract_61 : decode cX10_contract 61 = .ok (.aload_n 3, 1) := by decide +kernel
theorem dX10_contract_62 : decode cX10_contract 62 = .ok (.getfield 205, 3) := by decide +kernel
theorem dX10_contract_65 : decode cX10_contract 65 = .ok (.iload_n 1, 1) := by decide +kernel
theorem dX10_contract_66 : decode cX10_contract 66 = .ok (.invokestatic 127, 3) := by decide +kernel
theorem dX10_contract_69 : decode cX10_contract 69 = .ok (.ireturn, 1) := by decide +kernel
theorem dX10_contract_70 : decode cX10_contract 70 = .ok (.aload_n 3, 1) := by decide +kernel
theorem dX10_contract_71 : decode cX10_contract 71 = .ok (.getfield 208, 3) := by decide +kernel
theorem dX10_contract_74 : decode cX10_contract 74 = .ok (.iload_n 1, 1) := by decide +kernel
theorem dX10_contract_75 : decode cX10_contract 75 = .ok (.invokestatic 127, 3) := by decide +kernel
theorem dX10_contract_78 : decode cX10_contract 78 = .ok (.ireturn, 1) := by decide +kernel
theorem dX10_contract_79 : decode cX10_contract 79 = .ok (.aload_n 3, 1) := by decide +kernel
theorem dX10_contract_80 : decode cX10_contract 80 = .ok (.getfield 211, 3) := by decide +kernel
theorem dX10_contract_83 : decode cX10_contract 83 = .ok (.iload_n 1, 1) := by decide +kernel
theorem dX10_contract_84 : decode cX10_contract 84 = .ok (.invokestatic 127, 3) := by decide +kernel
theorem dX10_contract_87 : decode cX10_contract 87 = .ok (.ireturn, 1) := by decide +kernel
theorem dX10_contract_88 : decode cX10_contract 88 = .ok (.aload_n 3, 1) := by decide +kernel
theorem dX10_contract_89 : decode cX10_contract 89 = .ok (.getfield 214, 3) := by decide +kernel
theorem dX10_contract_92 : decode cX10_contract 92 = .ok (.iload_n 1, 1) := by decide +kernel
theorem dX10_contract_93 : decode cX10_contract 93 = .ok (.invokestatic 127, 3) := by decide +kernel
theorem dX10_contract_96 : decode cX10_contract 96 = .ok (.ireturn, 1) := by decide +kernel
theorem dX10_contract_97 : decode cX10_contract 97 = .ok (.aload_n 3, 1) := by decide +kernel
theorem dX10_contract_98 : decode cX10_contract 98 = .ok (.getfield 217, 3) := by decide +kernel
theorem dX10_contract_101 : decode cX10_contract 101 = .ok (.iload_n 1, 1) := by decide +kernel
theorem dX10_contract_102 : decode cX10_contract 102 = .ok (.invokestatic 127, 3) := by decide +kernel
theorem dX10_contract_105 : decode cX10_contract 105 = .ok (.ireturn, 1) := by decide +kernel
theorem dX10_contract_106 : decode cX10_contract 106 = .ok (.new 150, 3) := by decide +kernel
theorem dX10_contract_109 : decode cX10_contract 109 = .ok (.dup, 1) := by decide +kernel
theorem dX10_contract_110 : decode cX10_contract 110 = .ok (.ldc 152, 2) := by decide +kernel
theorem dX10_contract_112 : decode cX10_contract 112 = .ok (.invokespecial 154, 3) := by decide +kernel
theorem dX10_contract_115 : decode cX10_contract 115 = .ok (.athrow, 1) := by decide +kernel
theorem dX10_buyTrack_0 : decode cX10_buyTrack 0 = .ok (.iload_n 1, 1) := by decide +kernel
theorem dX10_buyTrack_1 : decode cX10_buyTrack 1 = .ok (.invokestatic 174, 3) := by decide +kernel
theorem dX10_buyTrack_4 : decode cX10_buyTrack 4 = .ok (.aload_n 0, 1) := by decide +kernel
theorem dX10_buyTrack_5 : decode cX10_buyTrack 5 = .ok (.iload_n 2, 1) := by decide +kernel
theorem dX10_buyTrack_6 : decode cX10_buyTrack 6 = .ok (.invokevirtual 155, 3) := by decide +kernel
theorem dX10_buyTrack_9 : decode cX10_buyTrack 9 = .ok (.aload_n 0, 1) := by decide +kernel
theorem dX10_buyTrack_10 : decode cX10_buyTrack 10 = .ok (.getfield 19, 3) := by decide +kernel
theorem dX10_buyTrack_13 : decode cX10_buyTrack 13 = .ok (.iload_n 1, 1) := by decide +kernel
theorem dX10_buyTrack_14 : decode cX10_buyTrack 14 = .ok (.iload_n 2, 1) := by decide +kernel
theorem dX10_buyTrack_15 : decode cX10_buyTrack 15 = .ok (.invokevirtual 220, 3) := by decide +kernel
theorem dX10_buyTrack_18 : decode cX10_buyTrack 18 = .ok (.invokestatic 223, 3) := by decide +kernel
theorem dX10_buyTrack_21 : decode cX10_buyTrack 21 = .ok (.aload_n 0, 1) := by decide +kernel
theorem dX10_buyTrack_22 : decode cX10_buyTrack 22 = .ok (.getfield 29, 3) := by decide +kernel
theorem dX10_buyTrack_25 : decode cX10_buyTrack 25 = .ok (.aload_n 0, 1) := by decide +kernel
theorem dX10_buyTrack_26 : decode cX10_buyTrack 26 = .ok (.getfield 19, 3) := by decide +kernel
theorem dX10_buyTrack_29 : decode cX10_buyTrack 29 = .ok (.invokevirtual 227, 3) := by decide +kernel
theorem dX10_buyTrack_32 : decode cX10_buyTrack 32 = .ok (.aload_n 0, 1) := by decide +kernel
theorem dX10_buyTrack_33 : decode cX10_buyTrack 33 = .ok (.getfield 19, 3) := by decide +kernel
theorem dX10_buyTrack_36 : decode cX10_buyTrack 36 = .ok (.iload_n 1, 1) := by decide +kernel
theorem dX10_buyTrack_37 : decode cX10_buyTrack 37 = .ok (.iload_n 2, 1) := by decide +kernel
theorem dX10_buyTrack_38 : decode cX10_buyTrack 38 = .ok (.invokevirtual 230, 3) := by decide +kernel
theorem dX10_buyTrack_41 : decode cX10_buyTrack 41 = .ok (.aload_n 0, 1) := by decide +kernel
theorem dX10_buyTrack_42 : decode cX10_buyTrack 42 = .ok (.getfield 19, 3) := by decide +kernel
theorem dX10_buyTrack_45 : decode cX10_buyTrack 45 = .ok (.getfield 117, 3) := by decide +kernel
theorem dX10_buyTrack_48 : decode cX10_buyTrack 48 = .ok (.getfield 121, 3) := by decide +kernel
theorem dX10_buyTrack_51 : decode cX10_buyTrack 51 = .ok (.iload_n 1, 1) := by decide +kernel
theorem dX10_buyTrack_52 : decode cX10_buyTrack 52 = .ok (.invokestatic 127, 3) := by decide +kernel
theorem dX10_buyTrack_55 : decode cX10_buyTrack 55 = .ok (.ireturn, 1) := by decide +kernel
theorem dX10_buyTrain_0 : decode cX10_buyTrain 0 = .ok (.iload_n 1, 1) := by decide +kernel
theorem dX10_buyTrain_1 : decode cX10_buyTrain 1 = .ok (.invokestatic 174, 3) := by decide +kernel
theorem dX10_buyTrain_4 : decode cX10_buyTrain 4 = .ok (.iload_n 2, 1) := by decide +kernel
theorem dX10_buyTrain_5 : decode cX10_buyTrain 5 = .ok (.iconst 1, 1) := by decide +kernel
theorem dX10_buyTrain_6 : decode cX10_buyTrain 6 = .ok (.bipush 6, 2) := by decide +kernel
theorem dX10_buyTrain_8 : decode cX10_buyTrain 8 = .ok (.invokestatic 61, 3) := by decide +kernel
theorem dX10_buyTrain_11 : decode cX10_buyTrain 11 = .ok (.aload_n 0, 1) := by decide +kernel
theorem dX10_buyTrain_12 : decode cX10_buyTrain 12 = .ok (.getfield 19, 3) := by decide +kernel
theorem dX10_buyTrain_15 : decode cX10_buyTrain 15 = .ok (.iload_n 1, 1) := by decide +kernel
theorem dX10_buyTrain_16 : decode cX10_buyTrain 16 = .ok (.iload_n 2, 1) := by decide +kernel
theorem dX10_buyTrain_17 : decode cX10_buyTrain 17 = .ok (.invokevirtual 233, 3) := by decide +kernel
theorem dX10_buyTrain_20 : decode cX10_buyTrain 20 = .ok (.invokestatic 223, 3) := by decide +kernel
theorem dX10_buyTrain_23 : decode cX10_buyTrain 23 = .ok (.aload_n 0, 1) := by decide +kernel
theorem dX10_buyTrain_24 : decode cX10_buyTrain 24 = .ok (.getfield 29, 3) := by decide +kernel
theorem dX10_buyTrain_27 : decode cX10_buyTrain 27 = .ok (.aload_n 0, 1) := by decide +kernel
theorem dX10_buyTrain_28 : decode cX10_buyTrain 28 = .ok (.getfield 19, 3) := by decide +kernel
theorem dX10_buyTrain_31 : decode cX10_buyTrain 31 = .ok (.invokevirtual 227, 3) := by decide +kernel
theorem dX10_buyTrain_34 : decode cX10_buyTrain 34 = .ok (.aload_n 0, 1) := by decide +kernel
theorem dX10_buyTrain_35 : decode cX10_buyTrain 35 = .ok (.getfield 19, 3) := by decide +kernel
theorem dX10_buyTrain_38 : decode cX10_buyTrain 38 = .ok (.iload_n 1, 1) := by decide +kernel
theorem dX10_buyTrain_39 : decode cX10_buyTrain 39 = .ok (.iload_n 2, 1) := by decide +kernel
theorem dX10_buyTrain_40 : decode cX10_buyTrain 40 = .ok (.invokevirtual 236, 3) := by decide +kernel
theorem dX10_buyTrain_43 : decode cX10_buyTrain 43 = .ok (.ireturn, 1) := by decide +kernel
theorem dX10_setRent_0 : decode cX10_setRent 0 = .ok (.iload_n 1, 1) := by decide +kernel
theorem dX10_setRent_1 : decode cX10_setRent 1 = .ok (.invokestatic 174, 3) := by decide +kernel
theorem dX10_setRent_4 : decode cX10_setRent 4 = .ok (.iload_n 2, 1) := by decide +kernel
theorem dX10_setRent_5 : decode cX10_setRent 5 = .ok (.iconst 0, 1) := by decide +kernel
theorem dX10_setRent_6 : decode cX10_setRent 6 = .ok (.bipush 9, 2) := by decide +kernel
theorem dX10_setRent_8 : decode cX10_setRent 8 = .ok (.invokestatic 61, 3) := by decide +kernel
theorem dX10_setRent_11 : decode cX10_setRent 11 = .ok (.aload_n 0, 1) := by decide +kernel
theorem dX10_setRent_12 : decode cX10_setRent 12 = .ok (.getfield 29, 3) := by decide +kernel
theorem dX10_setRent_15 : decode cX10_setRent 15 = .ok (.aload_n 0, 1) := by decide +kernel
theorem dX10_setRent_16 : decode cX10_setRent 16 = .ok (.getfield 19, 3) := by decide +kernel
theorem dX10_setRent_19 : decode cX10_setRent 19 = .ok (.invokevirtual 227, 3) := by decide +kernel
theorem dX10_setRent_22 : decode cX10_setRent 22 = .ok (.aload_n 0, 1) := by decide +kernel
theorem dX10_setRent_23 : decode cX10_setRent 23 = .ok (.getfield 19, 3) := by decide +kernel
theorem dX10_setRent_26 : decode cX10_setRent 26 = .ok (.getfield 117, 3) := by decide +kernel
theorem dX10_setRent_29 : decode cX10_setRent 29 = .ok (.getfield 177, 3) := by decide +kernel
theorem dX10_setRent_32 : decode cX10_setRent 32 = .ok (.iload_n 1, 1) := by decide +kernel
theorem dX10_setRent_33 : decode cX10_setRent 33 = .ok (.invokestatic 127, 3) := by decide +kernel
theorem dX10_setRent_36 : decode cX10_setRent 36 = .ok (.istore_n 3, 1) := by decide +kernel
theorem dX10_setRent_37 : decode cX10_setRent 37 = .ok (.aload_n 0, 1) := by decide +kernel
theorem dX10_setRent_38 : decode cX10_setRent 38 = .ok (.getfield 19, 3) := by decide +kernel
theorem dX10_setRent_41 : decode cX10_setRent 41 = .ok (.getfield 117, 3) := by decide +kernel
theorem dX10_setRent_44 : decode cX10_setRent 44 = .ok (.iload_n 1, 1) := by decide +kernel
theorem dX10_setRent_45 : decode cX10_setRent 45 = .ok (.iload_n 2, 1) := by decide +kernel
theorem dX10_setRent_46 : decode cX10_setRent 46 = .ok (.invokevirtual 239, 3) := by decide +kernel
theorem dX10_setRent_49 : decode cX10_setRent 49 = .ok (.iload_n 3, 1) := by decide +kernel
theorem dX10_setRent_50 : decode cX10_setRent 50 = .ok (.ireturn, 1) := by decide +kernel
theorem dX10_offer_0 : decode cX10_offer 0 = .ok (.aload_n 0, 1) := by decide +kernel
theorem dX10_offer_1 : decode cX10_offer 1 = .ok (.iload_n 1, 1) := by decide +kernel
theorem dX10_offer_2 : decode cX10_offer 2 = .ok (.invokevirtual 242, 3) := by decide +kernel
theorem dX10_offer_5 : decode cX10_offer 5 = .ok (.aload_n 0, 1) := by decide +kernel
theorem dX10_offer_6 : decode cX10_offer 6 = .ok (.iload_n 2, 1) := by decide +kernel
theorem dX10_offer_7 : decode cX10_offer 7 = .ok (.invokevirtual 242, 3) := by decide +kernel
theorem dX10_offer_10 : decode cX10_offer 10 = .ok (.iload_n 1, 1) := by decide +kernel
theorem dX10_offer_11 : decode cX10_offer 11 = .ok (.iload_n 2, 1) := by decide +kernel
theorem dX10_offer_12 : decode cX10_offer 12 = .ok (.invokestatic 245, 3) := by decide +kernel
theorem dX10_offer_15 : decode cX10_offer 15 = .ok (.iload_n 3, 1) := by decide +kernel
theorem dX10_offer_16 : decode cX10_offer 16 = .ok (.iconst 1, 1) := by decide +kernel
theorem dX10_offer_17 : decode cX10_offer 17 = .ok (.bipush 99, 2) := by decide +kernel
theorem dX10_offer_19 : decode cX10_offer 19 = .ok (.invokestatic 61, 3) := by decide +kernel
theorem dX10_offer_22 : decode cX10_offer 22 = .ok (.iload 4, 2) := by decide +kernel
theorem dX10_offer_24 : decode cX10_offer 24 = .ok (.iconst 1, 1) := by decide +kernel
theorem dX10_offer_25 : decode cX10_offer 25 = .ok (.bipush 9, 2) := by decide +kernel
theorem dX10_offer_27 : decode cX10_offer 27 = .ok (.invokestatic 61, 3) := by decide +kernel
theorem dX10_offer_30 : decode cX10_offer 30 = .ok (.aload_n 0, 1) := by decide +kernel
theorem dX10_offer_31 : decode cX10_offer 31 = .ok (.getfield 19, 3) := by decide +kernel
theorem dX10_offer_34 : decode cX10_offer 34 = .ok (.getfield 104, 3) := by decide +kernel
theorem dX10_offer_37 : decode cX10_offer 37 = .ok (.invokevirtual 248, 3) := by decide +kernel
theorem dX10_offer_40 : decode cX10_offer 40 = .ok (.ifCond .ne 7, 3) := by decide +kernel
theorem dX10_offer_43 : decode cX10_offer 43 = .ok (.iconst 1, 1) := by decide +kernel
theorem dX10_offer_44 : decode cX10_offer 44 = .ok (.goto 4, 3) := by decide +kernel
theorem dX10_offer_47 : decode cX10_offer 47 = .ok (.iconst 0, 1) := by decide +kernel
theorem dX10_offer_48 : decode cX10_offer 48 = .ok (.invokestatic 223, 3) := by decide +kernel
theorem dX10_offer_51 : decode cX10_offer 51 = .ok (.aload_n 0, 1) := by decide +kernel
theorem dX10_offer_52 : decode cX10_offer 52 = .ok (.getfield 29, 3) := by decide +kernel
theorem dX10_offer_55 : decode cX10_offer 55 = .ok (.aload_n 0, 1) := by decide +kernel
theorem dX10_offer_56 : decode cX10_offer 56 = .ok (.getfield 19, 3) := by decide +kernel
theorem dX10_offer_59 : decode cX10_offer 59 = .ok (.invokevirtual 227, 3) := by decide +kernel
theorem dX10_offer_62 : decode cX10_offer 62 = .ok (.aload_n 0, 1) := by decide +kernel
theorem dX10_offer_63 : decode cX10_offer 63 = .ok (.getfield 19, 3) := by decide +kernel
theorem dX10_offer_66 : decode cX10_offer 66 = .ok (.getfield 104, 3) := by decide +kernel
theorem dX10_offer_69 : decode cX10_offer 69 = .ok (.iload_n 1, 1) := by decide +kernel
theorem dX10_offer_70 : decode cX10_offer 70 = .ok (.iload_n 2, 1) := by decide +kernel
theorem dX10_offer_71 : decode cX10_offer 71 = .ok (.iload_n 3, 1) := by decide +kernel
theorem dX10_offer_72 : decode cX10_offer 72 = .ok (.iload 4, 2) := by decide +kernel
theorem dX10_offer_74 : decode cX10_offer 74 = .ok (.invokevirtual 251, 3) := by decide +kernel
theorem dX10_offer_77 : decode cX10_offer 77 = .ok (.aload_n 0, 1) := by decide +kernel
theorem dX10_offer_78 : decode cX10_offer 78 = .ok (.getfield 19, 3) := by decide +kernel
theorem dX10_offer_81 : decode cX10_offer 81 = .ok (.getfield 104, 3) := by decide +kernel
theorem dX10_offer_84 : decode cX10_offer 84 = .ok (.getfield 108, 3) := by decide +kernel
theorem dX10_offer_87 : decode cX10_offer 87 = .ok (.iconst 1, 1) := by decide +kernel
theorem dX10_offer_88 : decode cX10_offer 88 = .ok (.isub, 1) := by decide +kernel
theorem dX10_offer_89 : decode cX10_offer 89 = .ok (.ireturn, 1) := by decide +kernel
theorem dX10_take_0 : decode cX10_take 0 = .ok (.iload_n 1, 1) := by decide +kernel
theorem dX10_take_1 : decode cX10_take 1 = .ok (.invokestatic 174, 3) := by decide +kernel
theorem dX10_take_4 : decode cX10_take 4 = .ok (.aload_n 0, 1) := by decide +kernel
theorem dX10_take_5 : decode cX10_take 5 = .ok (.iload_n 2, 1) := by decide +kernel
theorem dX10_take_6 : decode cX10_take 6 = .ok (.invokevirtual 199, 3) := by decide +kernel
theorem dX10_take_9 : decode cX10_take 9 = .ok (.aload_n 0, 1) := by decide +kernel
theorem dX10_take_10 : decode cX10_take 10 = .ok (.getfield 19, 3) := by decide +kernel
theorem dX10_take_13 : decode cX10_take 13 = .ok (.getfield 104, 3) := by decide +kernel
theorem dX10_take_16 : decode cX10_take 16 = .ok (.iload_n 2, 1) := by decide +kernel
theorem dX10_take_17 : decode cX10_take 17 = .ok (.invokevirtual 254, 3) := by decide +kernel
theorem dX10_take_20 : decode cX10_take 20 = .ok (.invokestatic 223, 3) := by decide +kernel
theorem dX10_take_23 : decode cX10_take 23 = .ok (.aload_n 0, 1) := by decide +kernel
theorem dX10_take_24 : decode cX10_take 24 = .ok (.getfield 29, 3) := by decide +kernel
theorem dX10_take_27 : decode cX10_take 27 = .ok (.aload_n 0, 1) := by decide +kernel
theorem dX10_take_28 : decode cX10_take 28 = .ok (.getfield 19, 3) := by decide +kernel
theorem dX10_take_31 : decode cX10_take 31 = .ok (.invokevirtual 227, 3) := by decide +kernel
theorem dX10_take_34 : decode cX10_take 34 = .ok (.aload_n 0, 1) := by decide +kernel
theorem dX10_take_35 : decode cX10_take 35 = .ok (.getfield 19, 3) := by decide +kernel
theorem dX10_take_38 : decode cX10_take 38 = .ok (.getfield 104, 3) := by decide +kernel
theorem dX10_take_41 : decode cX10_take 41 = .ok (.iload_n 2, 1) := by decide +kernel
theorem dX10_take_42 : decode cX10_take 42 = .ok (.iload_n 1, 1) := by decide +kernel
theorem dX10_take_43 : decode cX10_take 43 = .ok (.invokevirtual 257, 3) := by decide +kernel
theorem dX10_take_46 : decode cX10_take 46 = .ok (.aload_n 0, 1) := by decide +kernel
theorem dX10_take_47 : decode cX10_take 47 = .ok (.getfield 19, 3) := by decide +kernel
theorem dX10_take_50 : decode cX10_take 50 = .ok (.getfield 104, 3) := by decide +kernel
theorem dX10_take_53 : decode cX10_take 53 = .ok (.iload_n 1, 1) := by decide +kernel
theorem dX10_take_54 : decode cX10_take 54 = .ok (.invokevirtual 186, 3) := by decide +kernel
theorem dX10_take_57 : decode cX10_take 57 = .ok (.ireturn, 1) := by decide +kernel
theorem dX10_run_0 : decode cX10_run 0 = .ok (.aload_n 0, 1) := by decide +kernel
theorem dX10_run_1 : decode cX10_run 1 = .ok (.iload_n 1, 1) := by decide +kernel
theorem dX10_run_2 : decode cX10_run 2 = .ok (.invokevirtual 199, 3) := by decide +kernel
theorem dX10_run_5 : decode cX10_run 5 = .ok (.aload_n 0, 1) := by decide +kernel
theorem dX10_run_6 : decode cX10_run 6 = .ok (.iload_n 1, 1) := by decide +kernel
theorem dX10_run_7 : decode cX10_run 7 = .ok (.iload_n 2, 1) := by decide +kernel
theorem dX10_run_8 : decode cX10_run 8 = .ok (.invokevirtual 260, 3) := by decide +kernel
theorem dX10_run_11 : decode cX10_run 11 = .ok (.aload_n 0, 1) := by decide +kernel
theorem dX10_run_12 : decode cX10_run 12 = .ok (.getfield 43, 3) := by decide +kernel
theorem dX10_run_15 : decode cX10_run 15 = .ok (.aload_n 0, 1) := by decide +kernel
theorem dX10_run_16 : decode cX10_run 16 = .ok (.getfield 19, 3) := by decide +kernel
theorem dX10_run_19 : decode cX10_run 19 = .ok (.iload_n 1, 1) := by decide +kernel
theorem dX10_run_20 : decode cX10_run 20 = .ok (.iload_n 2, 1) := by decide +kernel
theorem dX10_run_21 : decode cX10_run 21 = .ok (.invokevirtual 263, 3) := by decide +kernel
theorem dX10_run_24 : decode cX10_run 24 = .ok (.ifCond .ne 7, 3) := by decide +kernel
theorem dX10_run_27 : decode cX10_run 27 = .ok (.iconst 1, 1) := by decide +kernel
theorem dX10_run_28 : decode cX10_run 28 = .ok (.goto 4, 3) := by decide +kernel
theorem dX10_run_31 : decode cX10_run 31 = .ok (.iconst 0, 1) := by decide +kernel
theorem dX10_run_32 : decode cX10_run 32 = .ok (.invokestatic 223, 3) := by decide +kernel
theorem dX10_run_35 : decode cX10_run 35 = .ok (.aload_n 0, 1) := by decide +kernel
theorem dX10_run_36 : decode cX10_run 36 = .ok (.getfield 29, 3) := by decide +kernel
theorem dX10_run_39 : decode cX10_run 39 = .ok (.aload_n 0, 1) := by decide +kernel
theorem dX10_run_40 : decode cX10_run 40 = .ok (.getfield 19, 3) := by decide +kernel
theorem dX10_run_43 : decode cX10_run 43 = .ok (.invokevirtual 227, 3) := by decide +kernel
theorem dX10_run_46 : decode cX10_run 46 = .ok (.aload_n 0, 1) := by decide +kernel
theorem dX10_run_47 : decode cX10_run 47 = .ok (.getfield 43, 3) := by decide +kernel
theorem dX10_run_50 : decode cX10_run 50 = .ok (.aload_n 0, 1) := by decide +kernel
theorem dX10_run_51 : decode cX10_run 51 = .ok (.getfield 19, 3) := by decide +kernel
theorem dX10_run_54 : decode cX10_run 54 = .ok (.iload_n 1, 1) := by decide +kernel
theorem dX10_run_55 : decode cX10_run 55 = .ok (.iload_n 2, 1) := by decide +kernel
theorem dX10_run_56 : decode cX10_run 56 = .ok (.invokevirtual 267, 3) := by decide +kernel
theorem dX10_run_59 : decode cX10_run 59 = .ok (.ireturn, 1) := by decide +kernel
theorem dX10_endRound_0 : decode cX10_endRound 0 = .ok (.aload_n 0, 1) := by decide +kernel
theorem dX10_endRound_1 : decode cX10_endRound 1 = .ok (.getfield 29, 3) := by decide +kernel
theorem dX10_endRound_4 : decode cX10_endRound 4 = .ok (.aload_n 0, 1) := by decide +kernel
theorem dX10_endRound_5 : decode cX10_endRound 5 = .ok (.getfield 19, 3) := by decide +kernel
theorem dX10_endRound_8 : decode cX10_endRound 8 = .ok (.invokevirtual 227, 3) := by decide +kernel
theorem dX10_endRound_11 : decode cX10_endRound 11 = .ok (.aload_n 0, 1) := by decide +kernel
theorem dX10_endRound_12 : decode cX10_endRound 12 = .ok (.getfield 19, 3) := by decide +kernel
theorem dX10_endRound_15 : decode cX10_endRound 15 = .ok (.invokevirtual 270, 3) := by decide +kernel
theorem dX10_endRound_18 : decode cX10_endRound 18 = .ok (.ireturn, 1) := by decide +kernel
theorem dX10_undo_0 : decode cX10_undo 0 = .ok (.aload_n 0, 1) := by decide +kernel
theorem dX10_undo_1 : decode cX10_undo 1 = .ok (.getfield 29, 3) := by decide +kernel
theorem dX10_undo_4 : decode cX10_undo 4 = .ok (.getfield 273, 3) := by decide +kernel
theorem dX10_undo_7 : decode cX10_undo 7 = .ok (.ifCond .le 7, 3) := by decide +kernel
theorem dX10_undo_10 : decode cX10_undo 10 = .ok (.iconst 1, 1) := by decide +kernel
theorem dX10_undo_11 : decode cX10_undo 11 = .ok (.goto 4, 3) := by decide +kernel
theorem dX10_undo_14 : decode cX10_undo 14 = .ok (.iconst 0, 1) := by decide +kernel
theorem dX10_undo_15 : decode cX10_undo 15 = .ok (.invokestatic 223, 3) := by decide +kernel
theorem dX10_undo_18 : decode cX10_undo 18 = .ok (.aload_n 0, 1) := by decide +kernel
theorem dX10_undo_19 : decode cX10_undo 19 = .ok (.getfield 29, 3) := by decide +kernel
theorem dX10_undo_22 : decode cX10_undo 22 = .ok (.aload_n 0, 1) := by decide +kernel
theorem dX10_undo_23 : decode cX10_undo 23 = .ok (.getfield 19, 3) := by decide +kernel
theorem dX10_undo_26 : decode cX10_undo 26 = .ok (.invokevirtual 274, 3) := by decide +kernel
theorem dX10_undo_29 : decode cX10_undo 29 = .ok (.aload_n 0, 1) := by decide +kernel
theorem dX10_undo_30 : decode cX10_undo 30 = .ok (.getfield 29, 3) := by decide +kernel
theorem dX10_undo_33 : decode cX10_undo 33 = .ok (.getfield 273, 3) := by decide +kernel
theorem dX10_undo_36 : decode cX10_undo 36 = .ok (.ireturn, 1) := by decide +kernel
theorem dX10_way_0 : decode cX10_way 0 = .ok (.iload_n 1, 1) := by decide +kernel
theorem dX10_way_1 : decode cX10_way 1 = .ok (.invokestatic 174, 3) := by decide +kernel
theorem dX10_way_4 : decode cX10_way 4 = .ok (.aload_n 0, 1) := by decide +kernel
theorem dX10_way_5 : decode cX10_way 5 = .ok (.iload_n 2, 1) := by decide +kernel
theorem dX10_way_6 : decode cX10_way 6 = .ok (.invokevirtual 242, 3) := by decide +kernel
theorem dX10_way_9 : decode cX10_way 9 = .ok (.aload_n 0, 1) := by decide +kernel
theorem dX10_way_10 : decode cX10_way 10 = .ok (.iload_n 3, 1) := by decide +kernel
theorem dX10_way_11 : decode cX10_way 11 = .ok (.invokevirtual 242, 3) := by decide +kernel
theorem dX10_way_14 : decode cX10_way 14 = .ok (.iload_n 2, 1) := by decide +kernel
theorem dX10_way_15 : decode cX10_way 15 = .ok (.iload_n 3, 1) := by decide +kernel
theorem dX10_way_16 : decode cX10_way 16 = .ok (.invokestatic 245, 3) := by decide +kernel
theorem dX10_way_19 : decode cX10_way 19 = .ok (.iload 4, 2) := by decide +kernel
theorem dX10_way_21 : decode cX10_way 21 = .ok (.iconst 1, 1) := by decide +kernel
theorem dX10_way_22 : decode cX10_way 22 = .ok (.bipush 24, 2) := by decide +kernel
theorem dX10_way_24 : decode cX10_way 24 = .ok (.invokestatic 61, 3) := by decide +kernel
theorem dX10_way_27 : decode cX10_way 27 = .ok (.iload 5, 2) := by decide +kernel
theorem dX10_way_29 : decode cX10_way 29 = .ok (.iconst 0, 1) := by decide +kernel
theorem dX10_way_30 : decode cX10_way 30 = .ok (.iconst 3, 1) := by decide +kernel
theorem dX10_way_31 : decode cX10_way 31 = .ok (.invokestatic 61, 3) := by decide +kernel
theorem dX10_way_34 : decode cX10_way 34 = .ok (.aload_n 0, 1) := by decide +kernel
theorem dX10_way_35 : decode cX10_way 35 = .ok (.getfield 43, 3) := by decide +kernel
theorem dX10_way_38 : decode cX10_way 38 = .ok (.getfield 277, 3) := by decide +kernel
theorem dX10_way_41 : decode cX10_way 41 = .ok (.astore 6, 2) := by decide +kernel
theorem dX10_way_43 : decode cX10_way 43 = .ok (.aload 6, 2) := by decide +kernel
theorem dX10_way_45 : decode cX10_way 45 = .ok (.aload_n 0, 1) := by decide +kernel
theorem dX10_way_46 : decode cX10_way 46 = .ok (.getfield 19, 3) := by decide +kernel
theorem dX10_way_49 : decode cX10_way 49 = .ok (.iload_n 1, 1) := by decide +kernel
theorem dX10_way_50 : decode cX10_way 50 = .ok (.iload_n 2, 1) := by decide +kernel
theorem dX10_way_51 : decode cX10_way 51 = .ok (.iload_n 3, 1) := by decide +kernel
theorem dX10_way_52 : decode cX10_way 52 = .ok (.iload 4, 2) := by decide +kernel
theorem dX10_way_54 : decode cX10_way 54 = .ok (.invokevirtual 281, 3) := by decide +kernel
theorem dX10_way_57 : decode cX10_way 57 = .ok (.ifCond .ne 6, 3) := by decide +kernel
theorem dX10_way_60 : decode cX10_way 60 = .ok (.bipush (-9), 2) := by decide +kernel
theorem dX10_way_62 : decode cX10_way 62 = .ok (.ireturn, 1) := by decide +kernel
theorem dX10_way_63 : decode cX10_way 63 = .ok (.iload 5, 2) := by decide +kernel
theorem dX10_way_65 : decode cX10_way 65 = .ok (.tableswitch 45 0 2 #[27, 33, 39], 27) := by decide +kernel
theorem dX10_way_92 : decode cX10_way 92 = .ok (.aload 6, 2) := by decide +kernel
theorem dX10_way_94 : decode cX10_way 94 = .ok (.getfield 287, 3) := by decide +kernel
theorem dX10_way_97 : decode cX10_way 97 = .ok (.ireturn, 1) := by decide +kernel
theorem dX10_way_98 : decode cX10_way 98 = .ok (.aload 6, 2) := by decide +kernel
theorem dX10_way_100 : decode cX10_way 100 = .ok (.getfield 290, 3) := by decide +kernel
theorem dX10_way_103 : decode cX10_way 103 = .ok (.ireturn, 1) := by decide +kernel
theorem dX10_way_104 : decode cX10_way 104 = .ok (.aload 6, 2) := by decide +kernel
theorem dX10_way_106 : decode cX10_way 106 = .ok (.getfield 292, 3) := by decide +kernel
theorem dX10_way_109 : decode cX10_way 109 = .ok (.ireturn, 1) := by decide +kernel
theorem dX10_way_110 : decode cX10_way 110 = .ok (.aload 6, 2) := by decide +kernel
theorem dX10_way_112 : decode cX10_way 112 = .ok (.getfield 293, 3) := by decide +kernel
theorem dX10_way_115 : decode cX10_way 115 = .ok (.iconst 0, 1) := by decide +kernel
theorem dX10_way_116 : decode cX10_way 116 = .ok (.invokestatic 127, 3) := by decide +kernel
theorem dX10_way_119 : decode cX10_way 119 = .ok (.ireturn, 1) := by decide +kernel
theorem dX10_whyNot_0 : decode cX10_whyNot 0 = .ok (.aload_n 0, 1) := by decide +kernel
theorem dX10_whyNot_1 : decode cX10_whyNot 1 = .ok (.iload_n 1, 1) := by decide +kernel
theorem dX10_whyNot_2 : decode cX10_whyNot 2 = .ok (.invokevirtual 199, 3) := by decide +kernel
theorem dX10_whyNot_5 : decode cX10_whyNot 5 = .ok (.aload_n 0, 1) := by decide +kernel
theorem dX10_whyNot_6 : decode cX10_whyNot 6 = .ok (.iload_n 1, 1) := by decide +kernel
theorem dX10_whyNot_7 : decode cX10_whyNot 7 = .ok (.iload_n 2, 1) := by decide +kernel
theorem dX10_whyNot_8 : decode cX10_whyNot 8 = .ok (.invokevirtual 260, 3) := by decide +kernel
theorem dX10_whyNot_11 : decode cX10_whyNot 11 = .ok (.aload_n 0, 1) := by decide +kernel
theorem dX10_whyNot_12 : decode cX10_whyNot 12 = .ok (.getfield 43, 3) := by decide +kernel
theorem dX10_whyNot_15 : decode cX10_whyNot 15 = .ok (.aload_n 0, 1) := by decide +kernel
theorem dX10_whyNot_16 : decode cX10_whyNot 16 = .ok (.getfield 19, 3) := by decide +kernel
theorem dX10_whyNot_19 : decode cX10_whyNot 19 = .ok (.iload_n 1, 1) := by decide +kernel
theorem dX10_whyNot_20 : decode cX10_whyNot 20 = .ok (.iload_n 2, 1) := by decide +kernel
theorem dX10_whyNot_21 : decode cX10_whyNot 21 = .ok (.invokevirtual 263, 3) := by decide +kernel
theorem dX10_whyNot_24 : decode cX10_whyNot 24 = .ok (.ireturn, 1) := by decide +kernel
theorem dX10_levelFor_0 : decode cX10_levelFor 0 = .ok (.iload_n 1, 1) := by decide +kernel
theorem dX10_levelFor_1 : decode cX10_levelFor 1 = .ok (.invokestatic 174, 3) := by decide +kernel
theorem dX10_levelFor_4 : decode cX10_levelFor 4 = .ok (.aload_n 0, 1) := by decide +kernel
theorem dX10_levelFor_5 : decode cX10_levelFor 5 = .ok (.iload_n 2, 1) := by decide +kernel
theorem dX10_levelFor_6 : decode cX10_levelFor 6 = .ok (.invokevirtual 199, 3) := by decide +kernel
theorem dX10_levelFor_9 : decode cX10_levelFor 9 = .ok (.aload_n 0, 1) := by decide +kernel
theorem dX10_levelFor_10 : decode cX10_levelFor 10 = .ok (.getfield 43, 3) := by decide +kernel
theorem dX10_levelFor_13 : decode cX10_levelFor 13 = .ok (.aload_n 0, 1) := by decide +kernel
theorem dX10_levelFor_14 : decode cX10_levelFor 14 = .ok (.getfield 19, 3) := by decide +kernel
theorem dX10_levelFor_17 : decode cX10_levelFor 17 = .ok (.iload_n 1, 1) := by decide +kernel
theorem dX10_levelFor_18 : decode cX10_levelFor 18 = .ok (.iload_n 2, 1) := by decide +kernel
theorem dX10_levelFor_19 : decode cX10_levelFor 19 = .ok (.invokevirtual 296, 3) := by decide +kernel
theorem dX10_levelFor_22 : decode cX10_levelFor 22 = .ok (.ireturn, 1) := by decide +kernel
theorem dX10_bestContract_0 : decode cX10_bestContract 0 = .ok (.iload_n 1, 1) := by decide +kernel
theorem dX10_bestContract_1 : decode cX10_bestContract 1 = .ok (.invokestatic 174, 3) := by decide +kernel
theorem dX10_bestContract_4 : decode cX10_bestContract 4 = .ok (.aload_n 0, 1) := by decide +kernel
theorem dX10_bestContract_5 : decode cX10_bestContract 5 = .ok (.getfield 43, 3) := by decide +kernel
theorem dX10_bestContract_8 : decode cX10_bestContract 8 = .ok (.aload_n 0, 1) := by decide +kernel
theorem dX10_bestContract_9 : decode cX10_bestContract 9 = .ok (.getfield 19, 3) := by decide +kernel
theorem dX10_bestContract_12 : decode cX10_bestContract 12 = .ok (.iload_n 1, 1) := by decide +kernel
theorem dX10_bestContract_13 : decode cX10_bestContract 13 = .ok (.invokevirtual 299, 3) := by decide +kernel
theorem dX10_bestContract_16 : decode cX10_bestContract 16 = .ok (.ireturn, 1) := by decide +kernel
theorem dX10_coinsAfter_0 : decode cX10_coinsAfter 0 = .ok (.iload_n 1, 1) := by decide +kernel
theorem dX10_coinsAfter_1 : decode cX10_coinsAfter 1 = .ok (.invokestatic 174, 3) := by decide +kernel
theorem dX10_coinsAfter_4 : decode cX10_coinsAfter 4 = .ok (.iload_n 2, 1) := by decide +kernel
theorem dX10_coinsAfter_5 : decode cX10_coinsAfter 5 = .ok (.iconst 0, 1) := by decide +kernel
theorem dX10_coinsAfter_6 : decode cX10_coinsAfter 6 = .ok (.bipush 50, 2) := by decide +kernel
theorem dX10_coinsAfter_8 : decode cX10_coinsAfter 8 = .ok (.invokestatic 61, 3) := by decide +kernel
theorem dX10_coinsAfter_11 : decode cX10_coinsAfter 11 = .ok (.aload_n 0, 1) := by decide +kernel
theorem dX10_coinsAfter_12 : decode cX10_coinsAfter 12 = .ok (.getfield 23, 3) := by decide +kernel
theorem dX10_coinsAfter_15 : decode cX10_coinsAfter 15 = .ok (.aload_n 0, 1) := by decide +kernel
theorem dX10_coinsAfter_16 : decode cX10_coinsAfter 16 = .ok (.getfield 19, 3) := by decide +kernel
theorem dX10_coinsAfter_19 : decode cX10_coinsAfter 19 = .ok (.invokevirtual 88, 3) := by decide +kernel
theorem dX10_coinsAfter_22 : decode cX10_coinsAfter 22 = .ok (.iconst 0, 1) := by decide +kernel
theorem dX10_coinsAfter_23 : decode cX10_coinsAfter 23 = .ok (.istore_n 3, 1) := by decide +kernel
theorem dX10_coinsAfter_24 : decode cX10_coinsAfter 24 = .ok (.iload_n 3, 1) := by decide +kernel
theorem dX10_coinsAfter_25 : decode cX10_coinsAfter 25 = .ok (.iload_n 2, 1) := by decide +kernel
theorem dX10_coinsAfter_26 : decode cX10_coinsAfter 26 = .ok (.if_icmp .ge 17, 3) := by decide +kernel
theorem dX10_coinsAfter_29 : decode cX10_coinsAfter 29 = .ok (.aload_n 0, 1) := by decide +kernel
theorem dX10_coinsAfter_30 : decode cX10_coinsAfter 30 = .ok (.getfield 23, 3) := by decide +kernel
theorem dX10_coinsAfter_33 : decode cX10_coinsAfter 33 = .ok (.invokevirtual 270, 3) := by decide +kernel
theorem dX10_coinsAfter_36 : decode cX10_coinsAfter 36 = .ok (.pop, 1) := by decide +kernel
theorem dX10_coinsAfter_37 : decode cX10_coinsAfter 37 = .ok (.iinc 3 1, 3) := by decide +kernel
theorem dX10_coinsAfter_40 : decode cX10_coinsAfter 40 = .ok (.goto (-16), 3) := by decide +kernel
theorem dX10_coinsAfter_43 : decode cX10_coinsAfter 43 = .ok (.aload_n 0, 1) := by decide +kernel
theorem dX10_coinsAfter_44 : decode cX10_coinsAfter 44 = .ok (.getfield 23, 3) := by decide +kernel
theorem dX10_coinsAfter_47 : decode cX10_coinsAfter 47 = .ok (.getfield 117, 3) := by decide +kernel
theorem dX10_coinsAfter_50 : decode cX10_coinsAfter 50 = .ok (.getfield 121, 3) := by decide +kernel
theorem dX10_coinsAfter_53 : decode cX10_coinsAfter 53 = .ok (.iload_n 1, 1) := by decide +kernel
theorem dX10_coinsAfter_54 : decode cX10_coinsAfter 54 = .ok (.invokestatic 127, 3) := by decide +kernel
theorem dX10_coinsAfter_57 : decode cX10_coinsAfter 57 = .ok (.ireturn, 1) := by decide +kernel
theorem dX10_bankruptAfter_0 : decode cX10_bankruptAfter 0 = .ok (.iload_n 1, 1) := by decide +kernel
theorem dX10_bankruptAfter_1 : decode cX10_bankruptAfter 1 = .ok (.invokestatic 174, 3) := by decide +kernel
theorem dX10_bankruptAfter_4 : decode cX10_bankruptAfter 4 = .ok (.aload_n 0, 1) := by decide +kernel
theorem dX10_bankruptAfter_5 : decode cX10_bankruptAfter 5 = .ok (.getfield 23, 3) := by decide +kernel
theorem dX10_bankruptAfter_8 : decode cX10_bankruptAfter 8 = .ok (.aload_n 0, 1) := by decide +kernel
theorem dX10_bankruptAfter_9 : decode cX10_bankruptAfter 9 = .ok (.getfield 19, 3) := by decide +kernel
theorem dX10_bankruptAfter_12 : decode cX10_bankruptAfter 12 = .ok (.invokevirtual 88, 3) := by decide +kernel
theorem dX10_bankruptAfter_15 : decode cX10_bankruptAfter 15 = .ok (.aload_n 0, 1) := by decide +kernel
theorem dX10_bankruptAfter_16 : decode cX10_bankruptAfter 16 = .ok (.getfield 19, 3) := by decide +kernel
theorem dX10_bankruptAfter_19 : decode cX10_bankruptAfter 19 = .ok (.getfield 117, 3) := by decide +kernel
theorem dX10_bankruptAfter_22 : decode cX10_bankruptAfter 22 = .ok (.getfield 144, 3) := by decide +kernel
theorem dX10_bankruptAfter_25 : decode cX10_bankruptAfter 25 = .ok (.iload_n 1, 1) := by decide +kernel
theorem dX10_bankruptAfter_26 : decode cX10_bankruptAfter 26 = .ok (.invokestatic 127, 3) := by decide +kernel
theorem dX10_bankruptAfter_29 : decode cX10_bankruptAfter 29 = .ok (.istore_n 2, 1) := by decide +kernel
theorem dX10_bankruptAfter_30 : decode cX10_bankruptAfter 30 = .ok (.iconst 1, 1) := by decide +kernel
theorem dX10_bankruptAfter_31 : decode cX10_bankruptAfter 31 = .ok (.istore_n 3, 1) := by decide +kernel
theorem dX10_bankruptAfter_32 : decode cX10_bankruptAfter 32 = .ok (.iload_n 3, 1) := by decide +kernel
theorem dX10_bankruptAfter_33 : decode cX10_bankruptAfter 33 = .ok (.bipush 50, 2) := by decide +kernel
theorem dX10_bankruptAfter_35 : decode cX10_bankruptAfter 35 = .ok (.if_icmp .gt 37, 3) := by decide +kernel
theorem dX10_bankruptAfter_38 : decode cX10_bankruptAfter 38 = .ok (.aload_n 0, 1) := by decide +kernel
theorem dX10_bankruptAfter_39 : decode cX10_bankruptAfter 39 = .ok (.getfield 23, 3) := by decide +kernel
theorem dX10_bankruptAfter_42 : decode cX10_bankruptAfter 42 = .ok (.invokevirtual 270, 3) := by decide +kernel
theorem dX10_bankruptAfter_45 : decode cX10_bankruptAfter 45 = .ok (.pop, 1) := by decide +kernel
theorem dX10_bankruptAfter_46 : decode cX10_bankruptAfter 46 = .ok (.aload_n 0, 1) := by decide +kernel
theorem dX10_bankruptAfter_47 : decode cX10_bankruptAfter 47 = .ok (.getfield 23, 3) := by decide +kernel
theorem dX10_bankruptAfter_50 : decode cX10_bankruptAfter 50 = .ok (.getfield 117, 3) := by decide +kernel
theorem dX10_bankruptAfter_53 : decode cX10_bankruptAfter 53 = .ok (.getfield 144, 3) := by decide +kernel
theorem dX10_bankruptAfter_56 : decode cX10_bankruptAfter 56 = .ok (.iload_n 1, 1) := by decide +kernel
theorem dX10_bankruptAfter_57 : decode cX10_bankruptAfter 57 = .ok (.invokestatic 127, 3) := by decide +kernel
theorem dX10_bankruptAfter_60 : decode cX10_bankruptAfter 60 = .ok (.iload_n 2, 1) := by decide +kernel
theorem dX10_bankruptAfter_61 : decode cX10_bankruptAfter 61 = .ok (.if_icmp .le 5, 3) := by decide +kernel
theorem dX10_bankruptAfter_64 : decode cX10_bankruptAfter 64 = .ok (.iload_n 3, 1) := by decide +kernel
theorem dX10_bankruptAfter_65 : decode cX10_bankruptAfter 65 = .ok (.ireturn, 1) := by decide +kernel
theorem dX10_bankruptAfter_66 : decode cX10_bankruptAfter 66 = .ok (.iinc 3 1, 3) := by decide +kernel
theorem dX10_bankruptAfter_69 : decode cX10_bankruptAfter 69 = .ok (.goto (-37), 3) := by decide +kernel
theorem dX10_bankruptAfter_72 : decode cX10_bankruptAfter 72 = .ok (.bipush (-9), 2) := by decide +kernel
theorem dX10_bankruptAfter_74 : decode cX10_bankruptAfter 74 = .ok (.ireturn, 1) := by decide +kernel
theorem dX10_worth_0 : decode cX10_worth 0 = .ok (.iload_n 1, 1) := by decide +kernel
theorem dX10_worth_1 : decode cX10_worth 1 = .ok (.invokestatic 174, 3) := by decide +kernel
theorem dX10_worth_4 : decode cX10_worth 4 = .ok (.aload_n 0, 1) := by decide +kernel
theorem dX10_worth_5 : decode cX10_worth 5 = .ok (.getfield 19, 3) := by decide +kernel
theorem dX10_worth_8 : decode cX10_worth 8 = .ok (.iload_n 1, 1) := by decide +kernel
theorem dX10_worth_9 : decode cX10_worth 9 = .ok (.invokevirtual 303, 3) := by decide +kernel
theorem dX10_worth_12 : decode cX10_worth 12 = .ok (.ireturn, 1) := by decide +kernel
theorem dX10_runScript_0 : decode cX10_runScript 0 = .ok (.iload_n 1, 1) := by decide +kernel
theorem dX10_runScript_1 : decode cX10_runScript 1 = .ok (.iconst 1, 1) := by decide +kernel
theorem dX10_runScript_2 : decode cX10_runScript 2 = .ok (.iconst 3, 1) := by decide +kernel
theorem dX10_runScript_3 : decode cX10_runScript 3 = .ok (.invokestatic 61, 3) := by decide +kernel
theorem dX10_runScript_6 : decode cX10_runScript 6 = .ok (.lload_n 2, 1) := by decide +kernel
theorem dX10_runScript_7 : decode cX10_runScript 7 = .ok (.lconst 0, 1) := by decide +kernel
theorem dX10_runScript_8 : decode cX10_runScript 8 = .ok (.lcmp, 1) := by decide +kernel
theorem dX10_runScript_9 : decode cX10_runScript 9 = .ok (.ifCond .lt 13, 3) := by decide +kernel
theorem dX10_runScript_12 : decode cX10_runScript 12 = .ok (.lload_n 2, 1) := by decide +kernel
theorem dX10_runScript_13 : decode cX10_runScript 13 = .ok (.iload_n 1, 1) := by decide +kernel
theorem dX10_runScript_14 : decode cX10_runScript 14 = .ok (.invokestatic 306, 3) := by decide +kernel
theorem dX10_runScript_17 : decode cX10_runScript 17 = .ok (.lconst 0, 1) := by decide +kernel
theorem dX10_runScript_18 : decode cX10_runScript 18 = .ok (.lcmp, 1) := by decide +kernel
theorem dX10_runScript_19 : decode cX10_runScript 19 = .ok (.ifCond .le 14, 3) := by decide +kernel
theorem dX10_runScript_22 : decode cX10_runScript 22 = .ok (.new 150, 3) := by decide +kernel
theorem dX10_runScript_25 : decode cX10_runScript 25 = .ok (.dup, 1) := by decide +kernel
theorem dX10_runScript_26 : decode cX10_runScript 26 = .ok (.ldc_w 312, 3) := by decide +kernel
theorem dX10_runScript_29 : decode cX10_runScript 29 = .ok (.invokespecial 154, 3) := by decide +kernel
theorem dX10_runScript_32 : decode cX10_runScript 32 = .ok (.athrow, 1) := by decide +kernel
theorem dX10_runScript_33 : decode cX10_runScript 33 = .ok (.aload_n 0, 1) := by decide +kernel
theorem dX10_runScript_34 : decode cX10_runScript 34 = .ok (.getfield 23, 3) := by decide +kernel
theorem dX10_runScript_37 : decode cX10_runScript 37 = .ok (.aload_n 0, 1) := by decide +kernel
theorem dX10_runScript_38 : decode cX10_runScript 38 = .ok (.getfield 19, 3) := by decide +kernel
theorem dX10_runScript_41 : decode cX10_runScript 41 = .ok (.invokevirtual 88, 3) := by decide +kernel
theorem dX10_runScript_44 : decode cX10_runScript 44 = .ok (.iconst 0, 1) := by decide +kernel
theorem dX10_runScript_45 : decode cX10_runScript 45 = .ok (.istore 4, 2) := by decide +kernel
theorem dX10_runScript_47 : decode cX10_runScript 47 = .ok (.iload 4, 2) := by decide +kernel
theorem dX10_runScript_49 : decode cX10_runScript 49 = .ok (.iload_n 1, 1) := by decide +kernel
theorem dX10_runScript_50 : decode cX10_runScript 50 = .ok (.if_icmp .ge 45, 3) := by decide +kernel
theorem dX10_runScript_53 : decode cX10_runScript 53 = .ok (.lload_n 2, 1) := by decide +kernel
theorem dX10_runScript_54 : decode cX10_runScript 54 = .ok (.iload_n 1, 1) := by decide +kernel
theorem dX10_runScript_55 : decode cX10_runScript 55 = .ok (.iconst 1, 1) := by decide +kernel
theorem dX10_runScript_56 : decode cX10_runScript 56 = .ok (.isub, 1) := by decide +kernel
theorem dX10_runScript_57 : decode cX10_runScript 57 = .ok (.iload 4, 2) := by decide +kernel
theorem dX10_runScript_59 : decode cX10_runScript 59 = .ok (.isub, 1) := by decide +kernel
theorem dX10_runScript_60 : decode cX10_runScript 60 = .ok (.invokestatic 306, 3) := by decide +kernel
theorem dX10_runScript_63 : decode cX10_runScript 63 = .ok (.ldc2_w 314, 3) := by decide +kernel
theorem dX10_runScript_66 : decode cX10_runScript 66 = .ok (.lrem, 1) := by decide +kernel
theorem dX10_runScript_67 : decode cX10_runScript 67 = .ok (.l2i, 1) := by decide +kernel
theorem dX10_runScript_68 : decode cX10_runScript 68 = .ok (.istore 5, 2) := by decide +kernel
theorem dX10_runScript_70 : decode cX10_runScript 70 = .ok (.aload_n 0, 1) := by decide +kernel
theorem dX10_runScript_71 : decode cX10_runScript 71 = .ok (.getfield 23, 3) := by decide +kernel
theorem dX10_runScript_74 : decode cX10_runScript 74 = .ok (.aload_n 0, 1) := by decide +kernel
theorem dX10_runScript_75 : decode cX10_runScript 75 = .ok (.getfield 43, 3) := by decide +kernel
theorem dX10_runScript_78 : decode cX10_runScript 78 = .ok (.iload 5, 2) := by decide +kernel
theorem dX10_runScript_80 : decode cX10_runScript 80 = .ok (.invokestatic 316, 3) := by decide +kernel
theorem dX10_runScript_83 : decode cX10_runScript 83 = .ok (.ifCond .ne 6, 3) := by decide +kernel
theorem dX10_runScript_86 : decode cX10_runScript 86 = .ok (.iload 4, 2) := by decide +kernel
theorem dX10_runScript_88 : decode cX10_runScript 88 = .ok (.ireturn, 1) := by decide +kernel
theorem dX10_runScript_89 : decode cX10_runScript 89 = .ok (.iinc 4 1, 3) := by decide +kernel
theorem dX10_runScript_92 : decode cX10_runScript 92 = .ok (.goto (-45), 3) := by decide +kernel
theorem dX10_runScript_95 : decode cX10_runScript 95 = .ok (.bipush (-9), 2) := by decide +kernel
theorem dX10_runScript_97 : decode cX10_runScript 97 = .ok (.ireturn, 1) := by decide +kernel
theorem dX10_simulate_0 : decode cX10_simulate 0 = .ok (.iload_n 3, 1) := by decide +kernel
theorem dX10_simulate_1 : decode cX10_simulate 1 = .ok (.iconst 1, 1) := by decide +kernel
theorem dX10_simulate_2 : decode cX10_simulate 2 = .ok (.bipush 50, 2) := by decide +kernel
theorem dX10_simulate_4 : decode cX10_simulate 4 = .ok (.invokestatic 61, 3) := by decide +kernel
theorem dX10_simulate_7 : decode cX10_simulate 7 = .ok (.aload_n 0, 1) := by decide +kernel
theorem dX10_simulate_8 : decode cX10_simulate 8 = .ok (.getfield 23, 3) := by decide +kernel
theorem dX10_simulate_11 : decode cX10_simulate 11 = .ok (.aload_n 0, 1) := by decide +kernel
theorem dX10_simulate_12 : decode cX10_simulate 12 = .ok (.getfield 19, 3) := by decide +kernel
theorem dX10_simulate_15 : decode cX10_simulate 15 = .ok (.invokevirtual 88, 3) := by decide +kernel
theorem dX10_simulate_18 : decode cX10_simulate 18 = .ok (.lload_n 1, 1) := by decide +kernel
theorem dX10_simulate_19 : decode cX10_simulate 19 = .ok (.lstore 4, 2) := by decide +kernel
theorem dX10_simulate_21 : decode cX10_simulate 21 = .ok (.iconst 0, 1) := by decide +kernel
theorem dX10_simulate_22 : decode cX10_simulate 22 = .ok (.istore 6, 2) := by decide +kernel
theorem dX10_simulate_24 : decode cX10_simulate 24 = .ok (.iload 6, 2) := by decide +kernel
theorem dX10_simulate_26 : decode cX10_simulate 26 = .ok (.iload_n 3, 1) := by decide +kernel
theorem dX10_simulate_27 : decode cX10_simulate 27 = .ok (.if_icmp .ge 53, 3) := by decide +kernel
theorem dX10_simulate_30 : decode cX10_simulate 30 = .ok (.lload 4, 2) := by decide +kernel
theorem dX10_simulate_32 : decode cX10_simulate 32 = .ok (.ldc2_w 320, 3) := by decide +kernel
theorem dX10_simulate_35 : decode cX10_simulate 35 = .ok (.lmul, 1) := by decide +kernel
theorem dX10_simulate_36 : decode cX10_simulate 36 = .ok (.ldc2_w 322, 3) := by decide +kernel
theorem dX10_simulate_39 : decode cX10_simulate 39 = .ok (.ladd, 1) := by decide +kernel
theorem dX10_simulate_40 : decode cX10_simulate 40 = .ok (.lstore 4, 2) := by decide +kernel
theorem dX10_simulate_42 : decode cX10_simulate 42 = .ok (.aload_n 0, 1) := by decide +kernel
theorem dX10_simulate_43 : decode cX10_simulate 43 = .ok (.getfield 23, 3) := by decide +kernel
theorem dX10_simulate_46 : decode cX10_simulate 46 = .ok (.lload 4, 2) := by decide +kernel
theorem dX10_simulate_48 : decode cX10_simulate 48 = .ok (.bipush 33, 2) := by decide +kernel
theorem dX10_simulate_50 : decode cX10_simulate 50 = .ok (.lushr, 1) := by decide +kernel
theorem dX10_simulate_51 : decode cX10_simulate 51 = .ok (.l2i, 1) := by decide +kernel
theorem dX10_simulate_52 : decode cX10_simulate 52 = .ok (.invokevirtual 324, 3) := by decide +kernel
theorem dX10_simulate_55 : decode cX10_simulate 55 = .ok (.aload_n 0, 1) := by decide +kernel
theorem dX10_simulate_56 : decode cX10_simulate 56 = .ok (.getfield 43, 3) := by decide +kernel
theorem dX10_simulate_59 : decode cX10_simulate 59 = .ok (.aload_n 0, 1) := by decide +kernel
theorem dX10_simulate_60 : decode cX10_simulate 60 = .ok (.getfield 23, 3) := by decide +kernel
theorem dX10_simulate_63 : decode cX10_simulate 63 = .ok (.invokevirtual 327, 3) := by decide +kernel
theorem dX10_simulate_66 : decode cX10_simulate 66 = .ok (.aload_n 0, 1) := by decide +kernel
theorem dX10_simulate_67 : decode cX10_simulate 67 = .ok (.getfield 23, 3) := by decide +kernel
theorem dX10_simulate_70 : decode cX10_simulate 70 = .ok (.invokevirtual 270, 3) := by decide +kernel
theorem dX10_simulate_73 : decode cX10_simulate 73 = .ok (.pop, 1) := by decide +kernel
theorem dX10_simulate_74 : decode cX10_simulate 74 = .ok (.iinc 6 1, 3) := by decide +kernel
theorem dX10_simulate_77 : decode cX10_simulate 77 = .ok (.goto (-53), 3) := by decide +kernel
theorem dX10_simulate_80 : decode cX10_simulate 80 = .ok (.aload_n 0, 1) := by decide +kernel
theorem dX10_simulate_81 : decode cX10_simulate 81 = .ok (.getfield 23, 3) := by decide +kernel
theorem dX10_simulate_84 : decode cX10_simulate 84 = .ok (.invokevirtual 330, 3) := by decide +kernel
theorem dX10_simulate_87 : decode cX10_simulate 87 = .ok (.sipush 10000, 3) := by decide +kernel
theorem dX10_simulate_90 : decode cX10_simulate 90 = .ok (.aload_n 0, 1) := by decide +kernel
theorem dX10_simulate_91 : decode cX10_simulate 91 = .ok (.getfield 23, 3) := by decide +kernel
theorem dX10_simulate_94 : decode cX10_simulate 94 = .ok (.getfield 111, 3) := by decide +kernel
theorem dX10_simulate_97 : decode cX10_simulate 97 = .ok (.imul, 1) := by decide +kernel
theorem dX10_simulate_98 : decode cX10_simulate 98 = .ok (.iadd, 1) := by decide +kernel
theorem dX10_simulate_99 : decode cX10_simulate 99 = .ok (.ireturn, 1) := by decide +kernel
theorem dX10_save_0 : decode cX10_save 0 = .ok (.iload_n 1, 1) := by decide +kernel
theorem dX10_save_1 : decode cX10_save 1 = .ok (.invokestatic 333, 3) := by decide +kernel
theorem dX10_save_4 : decode cX10_save 4 = .ok (.aload_n 0, 1) := by decide +kernel
theorem dX10_save_5 : decode cX10_save 5 = .ok (.getfield 36, 3) := by decide +kernel
theorem dX10_save_8 : decode cX10_save 8 = .ok (.iload_n 1, 1) := by decide +kernel
theorem dX10_save_9 : decode cX10_save 9 = .ok (.aload_n 0, 1) := by decide +kernel
theorem dX10_save_10 : decode cX10_save 10 = .ok (.getfield 19, 3) := by decide +kernel
theorem dX10_save_13 : decode cX10_save 13 = .ok (.invokevirtual 336, 3) := by decide +kernel
theorem dX10_save_16 : decode cX10_save 16 = .ok (.aload_n 0, 1) := by decide +kernel
theorem dX10_save_17 : decode cX10_save 17 = .ok (.getfield 19, 3) := by decide +kernel
theorem dX10_save_20 : decode cX10_save 20 = .ok (.getfield 114, 3) := by decide +kernel
theorem dX10_save_23 : decode cX10_save 23 = .ok (.ireturn, 1) := by decide +kernel
theorem dX10_restore_0 : decode cX10_restore 0 = .ok (.iload_n 1, 1) := by decide +kernel
theorem dX10_restore_1 : decode cX10_restore 1 = .ok (.invokestatic 333, 3) := by decide +kernel
theorem dX10_restore_4 : decode cX10_restore 4 = .ok (.aload_n 0, 1) := by decide +kernel
theorem dX10_restore_5 : decode cX10_restore 5 = .ok (.getfield 36, 3) := by decide +kernel
theorem dX10_restore_8 : decode cX10_restore 8 = .ok (.iload_n 1, 1) := by decide +kernel
theorem dX10_restore_9 : decode cX10_restore 9 = .ok (.invokevirtual 340, 3) := by decide +kernel
theorem dX10_restore_12 : decode cX10_restore 12 = .ok (.invokestatic 223, 3) := by decide +kernel
theorem dX10_restore_15 : decode cX10_restore 15 = .ok (.aload_n 0, 1) := by decide +kernel
theorem dX10_restore_16 : decode cX10_restore 16 = .ok (.getfield 36, 3) := by decide +kernel
theorem dX10_restore_19 : decode cX10_restore 19 = .ok (.iload_n 1, 1) := by decide +kernel
theorem dX10_restore_20 : decode cX10_restore 20 = .ok (.aload_n 0, 1) := by decide +kernel
theorem dX10_restore_21 : decode cX10_restore 21 = .ok (.getfield 19, 3) := by decide +kernel
theorem dX10_restore_24 : decode cX10_restore 24 = .ok (.invokevirtual 343, 3) := by decide +kernel
theorem dX10_restore_27 : decode cX10_restore 27 = .ok (.aload_n 0, 1) := by decide +kernel
theorem dX10_restore_28 : decode cX10_restore 28 = .ok (.getfield 29, 3) := by decide +kernel
theorem dX10_restore_31 : decode cX10_restore 31 = .ok (.invokevirtual 92, 3) := by decide +kernel
theorem dX10_restore_34 : decode cX10_restore 34 = .ok (.aload_n 0, 1) := by decide +kernel
theorem dX10_restore_35 : decode cX10_restore 35 = .ok (.getfield 19, 3) := by decide +kernel
theorem dX10_restore_38 : decode cX10_restore 38 = .ok (.getfield 114, 3) := by decide +kernel
theorem dX10_restore_41 : decode cX10_restore 41 = .ok (.ireturn, 1) := by decide +kernel
theorem dX10_needCity_0 : decode cX10_needCity 0 = .ok (.iload_n 1, 1) := by decide +kernel
theorem dX10_needCity_1 : decode cX10_needCity 1 = .ok (.ifCond .lt 18, 3) := by decide +kernel
theorem dX10_needCity_4 : decode cX10_needCity 4 = .ok (.iload_n 1, 1) := by decide +kernel
theorem dX10_needCity_5 : decode cX10_needCity 5 = .ok (.aload_n 0, 1) := by decide +kernel
theorem dX10_needCity_6 : decode cX10_needCity 6 = .ok (.getfield 19, 3) := by decide +kernel
theorem dX10_needCity_9 : decode cX10_needCity 9 = .ok (.getfield 101, 3) := by decide +kernel
theorem dX10_needCity_12 : decode cX10_needCity 12 = .ok (.if_icmp .ge 7, 3) := by decide +kernel
theorem dX10_needCity_15 : decode cX10_needCity 15 = .ok (.iconst 1, 1) := by decide +kernel
theorem dX10_needCity_16 : decode cX10_needCity 16 = .ok (.goto 4, 3) := by decide +kernel
theorem dX10_needCity_19 : decode cX10_needCity 19 = .ok (.iconst 0, 1) := by decide +kernel
theorem dX10_needCity_20 : decode cX10_needCity 20 = .ok (.invokestatic 346, 3) := by decide +kernel
theorem dX10_needCity_23 : decode cX10_needCity 23 = .ok (.return_, 1) := by decide +kernel
theorem dX10_needTrack_0 : decode cX10_needTrack 0 = .ok (.aload_n 0, 1) := by decide +kernel
theorem dX10_needTrack_1 : decode cX10_needTrack 1 = .ok (.getfield 19, 3) := by decide +kernel
theorem dX10_needTrack_4 : decode cX10_needTrack 4 = .ok (.getfield 51, 3) := by decide +kernel
theorem dX10_needTrack_7 : decode cX10_needTrack 7 = .ok (.iload_n 1, 1) := by decide +kernel
theorem dX10_needTrack_8 : decode cX10_needTrack 8 = .ok (.invokevirtual 349, 3) := by decide +kernel
theorem dX10_needTrack_11 : decode cX10_needTrack 11 = .ok (.invokestatic 346, 3) := by decide +kernel
theorem dX10_needTrack_14 : decode cX10_needTrack 14 = .ok (.return_, 1) := by decide +kernel
theorem dX10_needContract_0 : decode cX10_needContract 0 = .ok (.aload_n 0, 1) := by decide +kernel
theorem dX10_needContract_1 : decode cX10_needContract 1 = .ok (.getfield 19, 3) := by decide +kernel
theorem dX10_needContract_4 : decode cX10_needContract 4 = .ok (.getfield 104, 3) := by decide +kernel
theorem dX10_needContract_7 : decode cX10_needContract 7 = .ok (.iload_n 1, 1) := by decide +kernel
theorem dX10_needContract_8 : decode cX10_needContract 8 = .ok (.invokevirtual 352, 3) := by decide +kernel
theorem dX10_needContract_11 : decode cX10_needContract 11 = .ok (.invokestatic 346, 3) := by decide +kernel
theorem dX10_needContract_14 : decode cX10_needContract 14 = .ok (.return_, 1) := by decide +kernel
theorem dX10_needTrain_0 : decode cX10_needTrain 0 = .ok (.aload_n 0, 1) := by decide +kernel
theorem dX10_needTrain_1 : decode cX10_needTrain 1 = .ok (.getfield 19, 3) := by decide +kernel
theorem dX10_needTrain_4 : decode cX10_needTrain 4 = .ok (.getfield 117, 3) := by decide +kernel
theorem dX10_needTrain_7 : decode cX10_needTrain 7 = .ok (.iload_n 1, 1) := by decide +kernel
theorem dX10_needTrain_8 : decode cX10_needTrain 8 = .ok (.iload_n 2, 1) := by decide +kernel
theorem dX10_needTrain_9 : decode cX10_needTrain 9 = .ok (.invokevirtual 353, 3) := by decide +kernel
theorem dX10_needTrain_12 : decode cX10_needTrain 12 = .ok (.invokestatic 346, 3) := by decide +kernel
theorem dX10_needTrain_15 : decode cX10_needTrain 15 = .ok (.return_, 1) := by decide +kernel
theorem dX10_needTrainOfHolder_0 : decode cX10_needTrainOfHolder 0 = .ok (.aload_n 0, 1) := by decide +kernel
theorem dX10_needTrainOfHolder_1 : decode cX10_needTrainOfHolder 1 = .ok (.getfield 19, 3) := by decide +kernel
theorem dX10_needTrainOfHolder_4 : decode cX10_needTrainOfHolder 4 = .ok (.getfield 104, 3) := by decide +kernel
theorem dX10_needTrainOfHolder_7 : decode cX10_needTrainOfHolder 7 = .ok (.iload_n 1, 1) := by decide +kernel
theorem dX10_needTrainOfHolder_8 : decode cX10_needTrainOfHolder 8 = .ok (.invokevirtual 254, 3) := by decide +kernel
theorem dX10_needTrainOfHolder_11 : decode cX10_needTrainOfHolder 11 = .ok (.ifCond .ne 19, 3) := by decide +kernel
theorem dX10_needTrainOfHolder_14 : decode cX10_needTrainOfHolder 14 = .ok (.aload_n 0, 1) := by decide +kernel
theorem dX10_needTrainOfHolder_15 : decode cX10_needTrainOfHolder 15 = .ok (.aload_n 0, 1) := by decide +kernel
theorem dX10_needTrainOfHolder_16 : decode cX10_needTrainOfHolder 16 = .ok (.getfield 19, 3) := by decide +kernel
theorem dX10_needTrainOfHolder_19 : decode cX10_needTrainOfHolder 19 = .ok (.getfield 104, 3) := by decide +kernel
theorem dX10_needTrainOfHolder_22 : decode cX10_needTrainOfHolder 22 = .ok (.iload_n 1, 1) := by decide +kernel
theorem dX10_needTrainOfHolder_23 : decode cX10_needTrainOfHolder 23 = .ok (.invokevirtual 356, 3) := by decide +kernel
theorem dX10_needTrainOfHolder_26 : decode cX10_needTrainOfHolder 26 = .ok (.iload_n 2, 1) := by decide +kernel
theorem dX10_needTrainOfHolder_27 : decode cX10_needTrainOfHolder 27 = .ok (.invokevirtual 187, 3) := by decide +kernel
theorem dX10_needTrainOfHolder_30 : decode cX10_needTrainOfHolder 30 = .ok (.return_, 1) := by decide +kernel
theorem dX10_needCompany_0 : decode cX10_needCompany 0 = .ok (.iload_n 0, 1) := by decide +kernel
theorem dX10_needCompany_1 : decode cX10_needCompany 1 = .ok (.invokestatic 359, 3) := by decide +kernel
theorem dX10_needCompany_4 : decode cX10_needCompany 4 = .ok (.invokestatic 346, 3) := by decide +kernel
theorem dX10_needCompany_7 : decode cX10_needCompany 7 = .ok (.return_, 1) := by decide +kernel
theorem dX10_needSlot_0 : decode cX10_needSlot 0 = .ok (.iload_n 0, 1) := by decide +kernel
theorem dX10_needSlot_1 : decode cX10_needSlot 1 = .ok (.ifCond .lt 12, 3) := by decide +kernel
theorem dX10_needSlot_4 : decode cX10_needSlot 4 = .ok (.iload_n 0, 1) := by decide +kernel
theorem dX10_needSlot_5 : decode cX10_needSlot 5 = .ok (.iconst 2, 1) := by decide +kernel
theorem dX10_needSlot_6 : decode cX10_needSlot 6 = .ok (.if_icmp .ge 7, 3) := by decide +kernel
theorem dX10_needSlot_9 : decode cX10_needSlot 9 = .ok (.iconst 1, 1) := by decide +kernel
theorem dX10_needSlot_10 : decode cX10_needSlot 10 = .ok (.goto 4, 3) := by decide +kernel
theorem dX10_needSlot_13 : decode cX10_needSlot 13 = .ok (.iconst 0, 1) := by decide +kernel
theorem dX10_needSlot_14 : decode cX10_needSlot 14 = .ok (.invokestatic 346, 3) := by decide +kernel
theorem dX10_needSlot_17 : decode cX10_needSlot 17 = .ok (.return_, 1) := by decide +kernel
theorem dX10_needIndex_0 : decode cX10_needIndex 0 = .ok (.iload_n 0, 1) := by decide +kernel
theorem dX10_needIndex_1 : decode cX10_needIndex 1 = .ok (.ifCond .ne 14, 3) := by decide +kernel
theorem dX10_needIndex_4 : decode cX10_needIndex 4 = .ok (.new 362, 3) := by decide +kernel
theorem dX10_needIndex_7 : decode cX10_needIndex 7 = .ok (.dup, 1) := by decide +kernel
theorem dX10_needIndex_8 : decode cX10_needIndex 8 = .ok (.ldc_w 364, 3) := by decide +kernel
theorem dX10_needIndex_11 : decode cX10_needIndex 11 = .ok (.invokespecial 366, 3) := by decide +kernel
theorem dX10_needIndex_14 : decode cX10_needIndex 14 = .ok (.athrow, 1) := by decide +kernel
theorem dX10_needIndex_15 : decode cX10_needIndex 15 = .ok (.return_, 1) := by decide +kernel
theorem dX10_needRange_0 : decode cX10_needRange 0 = .ok (.iload_n 0, 1) := by decide +kernel
theorem dX10_needRange_1 : decode cX10_needRange 1 = .ok (.iload_n 1, 1) := by decide +kernel
theorem dX10_needRange_2 : decode cX10_needRange 2 = .ok (.if_icmp .lt 8, 3) := by decide +kernel
theorem dX10_needRange_5 : decode cX10_needRange 5 = .ok (.iload_n 0, 1) := by decide +kernel
theorem dX10_needRange_6 : decode cX10_needRange 6 = .ok (.iload_n 2, 1) := by decide +kernel
theorem dX10_needRange_7 : decode cX10_needRange 7 = .ok (.if_icmp .le 14, 3) := by decide +kernel
theorem dX10_needRange_10 : decode cX10_needRange 10 = .ok (.new 150, 3) := by decide +kernel
theorem dX10_needRange_13 : decode cX10_needRange 13 = .ok (.dup, 1) := by decide +kernel
theorem dX10_needRange_14 : decode cX10_needRange 14 = .ok (.ldc_w 367, 3) := by decide +kernel
theorem dX10_needRange_17 : decode cX10_needRange 17 = .ok (.invokespecial 154, 3) := by decide +kernel
theorem dX10_needRange_20 : decode cX10_needRange 20 = .ok (.athrow, 1) := by decide +kernel
theorem dX10_needRange_21 : decode cX10_needRange 21 = .ok (.return_, 1) := by decide +kernel
theorem dX10_needDifferent_0 : decode cX10_needDifferent 0 = .ok (.iload_n 0, 1) := by decide +kernel
theorem dX10_needDifferent_1 : decode cX10_needDifferent 1 = .ok (.iload_n 1, 1) := by decide +kernel
theorem dX10_needDifferent_2 : decode cX10_needDifferent 2 = .ok (.if_icmp .ne 14, 3) := by decide +kernel
theorem dX10_needDifferent_5 : decode cX10_needDifferent 5 = .ok (.new 150, 3) := by decide +kernel
theorem dX10_needDifferent_8 : decode cX10_needDifferent 8 = .ok (.dup, 1) := by decide +kernel
theorem dX10_needDifferent_9 : decode cX10_needDifferent 9 = .ok (.ldc_w 369, 3) := by decide +kernel
theorem dX10_needDifferent_12 : decode cX10_needDifferent 12 = .ok (.invokespecial 154, 3) := by decide +kernel
theorem dX10_needDifferent_15 : decode cX10_needDifferent 15 = .ok (.athrow, 1) := by decide +kernel
theorem dX10_needDifferent_16 : decode cX10_needDifferent 16 = .ok (.return_, 1) := by decide +kernel
theorem dX10_needAllowed_0 : decode cX10_needAllowed 0 = .ok (.iload_n 0, 1) := by decide +kernel
theorem dX10_needAllowed_1 : decode cX10_needAllowed 1 = .ok (.ifCond .ne 14, 3) := by decide +kernel
theorem dX10_needAllowed_4 : decode cX10_needAllowed 4 = .ok (.new 68, 3) := by decide +kernel
theorem dX10_needAllowed_7 : decode cX10_needAllowed 7 = .ok (.dup, 1) := by decide +kernel
theorem dX10_needAllowed_8 : decode cX10_needAllowed 8 = .ok (.ldc_w 371, 3) := by decide +kernel
theorem dX10_needAllowed_11 : decode cX10_needAllowed 11 = .ok (.invokespecial 72, 3) := by decide +kernel
theorem dX10_needAllowed_14 : decode cX10_needAllowed 14 = .ok (.athrow, 1) := by decide +kernel
theorem dX10_needAllowed_15 : decode cX10_needAllowed 15 = .ok (.return_, 1) := by decide +kernel
theorem dX10_isCompany_0 : decode cX10_isCompany 0 = .ok (.iload_n 0, 1) := by decide +kernel
theorem dX10_isCompany_1 : decode cX10_isCompany 1 = .ok (.ifCond .lt 12, 3) := by decide +kernel
theorem dX10_isCompany_4 : decode cX10_isCompany 4 = .ok (.iload_n 0, 1) := by decide +kernel
theorem dX10_isCompany_5 : decode cX10_isCompany 5 = .ok (.iconst 4, 1) := by decide +kernel
theorem dX10_isCompany_6 : decode cX10_isCompany 6 = .ok (.if_icmp .ge 7, 3) := by decide +kernel
theorem dX10_isCompany_9 : decode cX10_isCompany 9 = .ok (.iconst 1, 1) := by decide +kernel
theorem dX10_isCompany_10 : decode cX10_isCompany 10 = .ok (.goto 4, 3) := by decide +kernel
theorem dX10_isCompany_13 : decode cX10_isCompany 13 = .ok (.iconst 0, 1) := by decide +kernel
theorem dX10_isCompany_14 : decode cX10_isCompany 14 = .ok (.ireturn, 1) := by decide +kernel
theorem dX10_at_0 : decode cX10_at 0 = .ok (.iload_n 1, 1) := by decide +kernel
theorem dX10_at_1 : decode cX10_at 1 = .ok (.ifCond .lt 15, 3) := by decide +kernel
theorem dX10_at_4 : decode cX10_at 4 = .ok (.iload_n 1, 1) := by decide +kernel
theorem dX10_at_5 : decode cX10_at 5 = .ok (.aload_n 0, 1) := by decide +kernel
theorem dX10_at_6 : decode cX10_at 6 = .ok (.arraylength, 1) := by decide +kernel
theorem dX10_at_7 : decode cX10_at 7 = .ok (.if_icmp .ge 9, 3) := by decide +kernel
theorem dX10_at_10 : decode cX10_at 10 = .ok (.aload_n 0, 1) := by decide +kernel
theorem dX10_at_11 : decode cX10_at 11 = .ok (.iload_n 1, 1) := by decide +kernel
theorem dX10_at_12 : decode cX10_at 12 = .ok (.iaload, 1) := by decide +kernel
theorem dX10_at_13 : decode cX10_at 13 = .ok (.goto 4, 3) := by decide +kernel
theorem dX10_at_16 : decode cX10_at 16 = .ok (.iconst 0, 1) := by decide +kernel
theorem dX10_at_17 : decode cX10_at 17 = .ok (.ireturn, 1) := by decide +kernel
theorem dX10_put_0 : decode cX10_put 0 = .ok (.iload_n 1, 1) := by decide +kernel
theorem dX10_put_1 : decode cX10_put 1 = .ok (.ifCond .lt 13, 3) := by decide +kernel
theorem dX10_put_4 : decode cX10_put 4 = .ok (.iload_n 1, 1) := by decide +kernel
theorem dX10_put_5 : decode cX10_put 5 = .ok (.aload_n 0, 1) := by decide +kernel
theorem dX10_put_6 : decode cX10_put 6 = .ok (.arraylength, 1) := by decide +kernel
theorem dX10_put_7 : decode cX10_put 7 = .ok (.if_icmp .ge 7, 3) := by decide +kernel
theorem dX10_put_10 : decode cX10_put 10 = .ok (.aload_n 0, 1) := by decide +kernel
theorem dX10_put_11 : decode cX10_put 11 = .ok (.iload_n 1, 1) := by decide +kernel
theorem dX10_put_12 : decode cX10_put 12 = .ok (.iload_n 2, 1) := by decide +kernel
theorem dX10_put_13 : decode cX10_put 13 = .ok (.iastore, 1) := by decide +kernel
theorem dX10_put_14 : decode cX10_put 14 = .ok (.return_, 1) := by decide +kernel
theorem dX10_sum_0 : decode cX10_sum 0 = .ok (.iconst 0, 1) := by decide +kernel
theorem dX10_sum_1 : decode cX10_sum 1 = .ok (.istore_n 1, 1) := by decide +kernel
theorem dX10_sum_2 : decode cX10_sum 2 = .ok (.iconst 0, 1) := by decide +kernel
theorem dX10_sum_3 : decode cX10_sum 3 = .ok (.istore_n 2, 1) := by decide +kernel
theorem dX10_sum_4 : decode cX10_sum 4 = .ok (.iload_n 2, 1) := by decide +kernel
theorem dX10_sum_5 : decode cX10_sum 5 = .ok (.aload_n 0, 1) := by decide +kernel
theorem dX10_sum_6 : decode cX10_sum 6 = .ok (.arraylength, 1) := by decide +kernel
theorem dX10_sum_7 : decode cX10_sum 7 = .ok (.if_icmp .ge 15, 3) := by decide +kernel
theorem dX10_sum_10 : decode cX10_sum 10 = .ok (.iload_n 1, 1) := by decide +kernel
theorem dX10_sum_11 : decode cX10_sum 11 = .ok (.aload_n 0, 1) := by decide +kernel
theorem dX10_sum_12 : decode cX10_sum 12 = .ok (.iload_n 2, 1) := by decide +kernel
theorem dX10_sum_13 : decode cX10_sum 13 = .ok (.iaload, 1) := by decide +kernel
theorem dX10_sum_14 : decode cX10_sum 14 = .ok (.iadd, 1) := by decide +kernel
theorem dX10_sum_15 : decode cX10_sum 15 = .ok (.istore_n 1, 1) := by decide +kernel
theorem dX10_sum_16 : decode cX10_sum 16 = .ok (.iinc 2 1, 3) := by decide +kernel
theorem dX10_sum_19 : decode cX10_sum 19 = .ok (.goto (-15), 3) := by decide +kernel
theorem dX10_sum_22 : decode cX10_sum 22 = .ok (.iload_n 1, 1) := by decide +kernel
theorem dX10_sum_23 : decode cX10_sum 23 = .ok (.ireturn, 1) := by decide +kernel
theorem dX10_fill_0 : decode cX10_fill 0 = .ok (.iconst 0, 1) := by decide +kernel
theorem dX10_fill_1 : decode cX10_fill 1 = .ok (.istore_n 2, 1) := by decide +kernel
theorem dX10_fill_2 : decode cX10_fill 2 = .ok (.iload_n 2, 1) := by decide +kernel
theorem dX10_fill_3 : decode cX10_fill 3 = .ok (.aload_n 0, 1) := by decide +kernel
theorem dX10_fill_4 : decode cX10_fill 4 = .ok (.arraylength, 1) := by decide +kernel
theorem dX10_fill_5 : decode cX10_fill 5 = .ok (.if_icmp .ge 13, 3) := by decide +kernel
theorem dX10_fill_8 : decode cX10_fill 8 = .ok (.aload_n 0, 1) := by decide +kernel
theorem dX10_fill_9 : decode cX10_fill 9 = .ok (.iload_n 2, 1) := by decide +kernel
theorem dX10_fill_10 : decode cX10_fill 10 = .ok (.iload_n 1, 1) := by decide +kernel
theorem dX10_fill_11 : decode cX10_fill 11 = .ok (.iastore, 1) := by decide +kernel
theorem dX10_fill_12 : decode cX10_fill 12 = .ok (.iinc 2 1, 3) := by decide +kernel
theorem dX10_fill_15 : decode cX10_fill 15 = .ok (.goto (-13), 3) := by decide +kernel
theorem dX10_fill_18 : decode cX10_fill 18 = .ok (.return_, 1) := by decide +kernel
theorem dX10_copyRow_0 : decode cX10_copyRow 0 = .ok (.aload_n 0, 1) := by decide +kernel
theorem dX10_copyRow_1 : decode cX10_copyRow 1 = .ok (.iconst 0, 1) := by decide +kernel
theorem dX10_copyRow_2 : decode cX10_copyRow 2 = .ok (.aload_n 1, 1) := by decide +kernel
theorem dX10_copyRow_3 : decode cX10_copyRow 3 = .ok (.iconst 0, 1) := by decide +kernel
theorem dX10_copyRow_4 : decode cX10_copyRow 4 = .ok (.aload_n 0, 1) := by decide +kernel
theorem dX10_copyRow_5 : decode cX10_copyRow 5 = .ok (.arraylength, 1) := by decide +kernel
theorem dX10_copyRow_6 : decode cX10_copyRow 6 = .ok (.aload_n 1, 1) := by decide +kernel
theorem dX10_copyRow_7 : decode cX10_copyRow 7 = .ok (.arraylength, 1) := by decide +kernel
theorem dX10_copyRow_8 : decode cX10_copyRow 8 = .ok (.invokestatic 373, 3) := by decide +kernel
theorem dX10_copyRow_11 : decode cX10_copyRow 11 = .ok (.invokestatic 378, 3) := by decide +kernel
theorem dX10_copyRow_14 : decode cX10_copyRow 14 = .ok (.return_, 1) := by decide +kernel
theorem dX10_copyState_0 : decode cX10_copyState 0 = .ok (.aload_n 0, 1) := by decide +kernel
theorem dX10_copyState_1 : decode cX10_copyState 1 = .ok (.ifnull 12, 3) := by decide +kernel
theorem dX10_copyState_4 : decode cX10_copyState 4 = .ok (.aload_n 1, 1) := by decide +kernel
theorem dX10_copyState_5 : decode cX10_copyState 5 = .ok (.ifnull 8, 3) := by decide +kernel
theorem dX10_copyState_8 : decode cX10_copyState 8 = .ok (.aload_n 1, 1) := by decide +kernel
theorem dX10_copyState_9 : decode cX10_copyState 9 = .ok (.aload_n 0, 1) := by decide +kernel
theorem dX10_copyState_10 : decode cX10_copyState 10 = .ok (.invokevirtual 88, 3) := by decide +kernel
theorem dX10_copyState_13 : decode cX10_copyState 13 = .ok (.return_, 1) := by decide +kernel
theorem dJ9_max_7cf53_0 : decode cJ9_max_7cf53 0 = .ok (.iload_n 0, 1) := by decide +kernel
theorem dJ9_max_7cf53_1 : decode cJ9_max_7cf53 1 = .ok (.iload_n 1, 1) := by decide +kernel
theorem dJ9_max_7cf53_2 : decode cJ9_max_7cf53 2 = .ok (.if_icmp .lt 7, 3) := by decide +kernel
theorem dJ9_max_7cf53_5 : decode cJ9_max_7cf53 5 = .ok (.iload_n 0, 1) := by decide +kernel
theorem dJ9_max_7cf53_6 : decode cJ9_max_7cf53 6 = .ok (.goto 4, 3) := by decide +kernel
theorem dJ9_max_7cf53_9 : decode cJ9_max_7cf53 9 = .ok (.iload_n 1, 1) := by decide +kernel
theorem dJ9_max_7cf53_10 : decode cJ9_max_7cf53 10 = .ok (.ireturn, 1) := by decide +kernel
theorem dJ9_min_7cf53_0 : decode cJ9_min_7cf53 0 = .ok (.iload_n 0, 1) := by decide +kernel
theorem dJ9_min_7cf53_1 : decode cJ9_min_7cf53 1 = .ok (.iload_n 1, 1) := by decide +kernel
theorem dJ9_min_7cf53_2 : decode cJ9_min_7cf53 2 = .ok (.if_icmp .gt 7, 3) := by decide +kernel
theorem dJ9_min_7cf53_5 : decode cJ9_min_7cf53 5 = .ok (.iload_n 0, 1) := by decide +kernel
theorem dJ9_min_7cf53_6 : decode cJ9_min_7cf53 6 = .ok (.goto 4, 3) := by decide +kernel
theorem dJ9_min_7cf53_9 : decode cJ9_min_7cf53 9 = .ok (.iload_n 1, 1) := by decide +kernel
theorem dJ9_min_7cf53_10 : decode cJ9_min_7cf53 10 = .ok (.ireturn, 1) := by decide +kernel
