theorem dL_tryAppend_0 : decode cL_tryAppend 0 = .ok (.aload_n 0, 1) := by decide +kernel
theorem dL_tryAppend_1 : decode cL_tryAppend 1 = .ok (.iload_n 1, 1) := by decide +kernel
theorem dL_tryAppend_2 : decode cL_tryAppend 2 = .ok (.invokevirtual 7, 3) := by decide +kernel
theorem dL_tryAppend_5 : decode cL_tryAppend 5 = .ok (.ireturn, 1) := by decide +kernel
theorem dL_tryAppend_6 : decode cL_tryAppend 6 = .ok (.astore_n 2, 1) := by decide +kernel
theorem dL_tryAppend_7 : decode cL_tryAppend 7 = .ok (.ldc 15, 2) := by decide +kernel
theorem dL_tryAppend_9 : decode cL_tryAppend 9 = .ok (.ireturn, 1) := by decide +kernel
theorem dL_tryAppend_10 : decode cL_tryAppend 10 = .ok (.astore_n 2, 1) := by decide +kernel
theorem dL_tryAppend_11 : decode cL_tryAppend 11 = .ok (.ldc 18, 2) := by decide +kernel
theorem dL_tryAppend_13 : decode cL_tryAppend 13 = .ok (.ireturn, 1) := by decide +kernel
theorem dL_tryLoad_0 : decode cL_tryLoad 0 = .ok (.aload_n 0, 1) := by decide +kernel
theorem dL_tryLoad_1 : decode cL_tryLoad 1 = .ok (.invokevirtual 19, 3) := by decide +kernel
theorem dL_tryLoad_4 : decode cL_tryLoad 4 = .ok (.ireturn, 1) := by decide +kernel
theorem dL_tryLoad_5 : decode cL_tryLoad 5 = .ok (.astore_n 1, 1) := by decide +kernel
theorem dL_tryLoad_6 : decode cL_tryLoad 6 = .ok (.ldc 18, 2) := by decide +kernel
theorem dL_tryLoad_8 : decode cL_tryLoad 8 = .ok (.ireturn, 1) := by decide +kernel
theorem dL_tryAbout_0 : decode cL_tryAbout 0 = .ok (.aload_n 0, 1) := by decide +kernel
theorem dL_tryAbout_1 : decode cL_tryAbout 1 = .ok (.iload_n 1, 1) := by decide +kernel
theorem dL_tryAbout_2 : decode cL_tryAbout 2 = .ok (.invokevirtual 23, 3) := by decide +kernel
theorem dL_tryAbout_5 : decode cL_tryAbout 5 = .ok (.ireturn, 1) := by decide +kernel
theorem dL_tryAbout_6 : decode cL_tryAbout 6 = .ok (.astore_n 2, 1) := by decide +kernel
theorem dL_tryAbout_7 : decode cL_tryAbout 7 = .ok (.ldc 15, 2) := by decide +kernel
theorem dL_tryAbout_9 : decode cL_tryAbout 9 = .ok (.ireturn, 1) := by decide +kernel
theorem dL_tryTrack_0 : decode cL_tryTrack 0 = .ok (.aload_n 0, 1) := by decide +kernel
theorem dL_tryTrack_1 : decode cL_tryTrack 1 = .ok (.iload_n 1, 1) := by decide +kernel
theorem dL_tryTrack_2 : decode cL_tryTrack 2 = .ok (.iload_n 2, 1) := by decide +kernel
theorem dL_tryTrack_3 : decode cL_tryTrack 3 = .ok (.invokevirtual 26, 3) := by decide +kernel
theorem dL_tryTrack_6 : decode cL_tryTrack 6 = .ok (.ireturn, 1) := by decide +kernel
theorem dL_tryTrack_7 : decode cL_tryTrack 7 = .ok (.astore_n 3, 1) := by decide +kernel
theorem dL_tryTrack_8 : decode cL_tryTrack 8 = .ok (.ldc 32, 2) := by decide +kernel
theorem dL_tryTrack_10 : decode cL_tryTrack 10 = .ok (.ireturn, 1) := by decide +kernel
theorem dL_tryTrack_11 : decode cL_tryTrack 11 = .ok (.astore_n 3, 1) := by decide +kernel
theorem dL_tryTrack_12 : decode cL_tryTrack 12 = .ok (.ldc 15, 2) := by decide +kernel
theorem dL_tryTrack_14 : decode cL_tryTrack 14 = .ok (.ireturn, 1) := by decide +kernel
theorem dL_tryCompany_0 : decode cL_tryCompany 0 = .ok (.aload_n 0, 1) := by decide +kernel
theorem dL_tryCompany_1 : decode cL_tryCompany 1 = .ok (.iload_n 1, 1) := by decide +kernel
theorem dL_tryCompany_2 : decode cL_tryCompany 2 = .ok (.iload_n 2, 1) := by decide +kernel
theorem dL_tryCompany_3 : decode cL_tryCompany 3 = .ok (.invokevirtual 33, 3) := by decide +kernel
theorem dL_tryCompany_6 : decode cL_tryCompany 6 = .ok (.ireturn, 1) := by decide +kernel
theorem dL_tryCompany_7 : decode cL_tryCompany 7 = .ok (.astore_n 3, 1) := by decide +kernel
theorem dL_tryCompany_8 : decode cL_tryCompany 8 = .ok (.ldc 32, 2) := by decide +kernel
theorem dL_tryCompany_10 : decode cL_tryCompany 10 = .ok (.ireturn, 1) := by decide +kernel
theorem dL_tryCompany_11 : decode cL_tryCompany 11 = .ok (.astore_n 3, 1) := by decide +kernel
theorem dL_tryCompany_12 : decode cL_tryCompany 12 = .ok (.ldc 15, 2) := by decide +kernel
theorem dL_tryCompany_14 : decode cL_tryCompany 14 = .ok (.ireturn, 1) := by decide +kernel
theorem dL_tryTrain_0 : decode cL_tryTrain 0 = .ok (.aload_n 0, 1) := by decide +kernel
theorem dL_tryTrain_1 : decode cL_tryTrain 1 = .ok (.iload_n 1, 1) := by decide +kernel
theorem dL_tryTrain_2 : decode cL_tryTrain 2 = .ok (.iload_n 2, 1) := by decide +kernel
theorem dL_tryTrain_3 : decode cL_tryTrain 3 = .ok (.iload_n 3, 1) := by decide +kernel
theorem dL_tryTrain_4 : decode cL_tryTrain 4 = .ok (.invokevirtual 36, 3) := by decide +kernel
theorem dL_tryTrain_7 : decode cL_tryTrain 7 = .ok (.ireturn, 1) := by decide +kernel
theorem dL_tryTrain_8 : decode cL_tryTrain 8 = .ok (.astore 4, 2) := by decide +kernel
theorem dL_tryTrain_10 : decode cL_tryTrain 10 = .ok (.ldc 32, 2) := by decide +kernel
theorem dL_tryTrain_12 : decode cL_tryTrain 12 = .ok (.ireturn, 1) := by decide +kernel
theorem dL_tryTrain_13 : decode cL_tryTrain 13 = .ok (.astore 4, 2) := by decide +kernel
theorem dL_tryTrain_15 : decode cL_tryTrain 15 = .ok (.ldc 15, 2) := by decide +kernel
theorem dL_tryTrain_17 : decode cL_tryTrain 17 = .ok (.ireturn, 1) := by decide +kernel
theorem dL_tryContract_0 : decode cL_tryContract 0 = .ok (.aload_n 0, 1) := by decide +kernel
theorem dL_tryContract_1 : decode cL_tryContract 1 = .ok (.iload_n 1, 1) := by decide +kernel
theorem dL_tryContract_2 : decode cL_tryContract 2 = .ok (.iload_n 2, 1) := by decide +kernel
theorem dL_tryContract_3 : decode cL_tryContract 3 = .ok (.invokevirtual 40, 3) := by decide +kernel
theorem dL_tryContract_6 : decode cL_tryContract 6 = .ok (.ireturn, 1) := by decide +kernel
theorem dL_tryContract_7 : decode cL_tryContract 7 = .ok (.astore_n 3, 1) := by decide +kernel
theorem dL_tryContract_8 : decode cL_tryContract 8 = .ok (.ldc 32, 2) := by decide +kernel
theorem dL_tryContract_10 : decode cL_tryContract 10 = .ok (.ireturn, 1) := by decide +kernel
theorem dL_tryContract_11 : decode cL_tryContract 11 = .ok (.astore_n 3, 1) := by decide +kernel
theorem dL_tryContract_12 : decode cL_tryContract 12 = .ok (.ldc 15, 2) := by decide +kernel
theorem dL_tryContract_14 : decode cL_tryContract 14 = .ok (.ireturn, 1) := by decide +kernel
theorem dL_tryBuyTrack_0 : decode cL_tryBuyTrack 0 = .ok (.aload_n 0, 1) := by decide +kernel
theorem dL_tryBuyTrack_1 : decode cL_tryBuyTrack 1 = .ok (.iload_n 1, 1) := by decide +kernel
theorem dL_tryBuyTrack_2 : decode cL_tryBuyTrack 2 = .ok (.iload_n 2, 1) := by decide +kernel
theorem dL_tryBuyTrack_3 : decode cL_tryBuyTrack 3 = .ok (.invokevirtual 43, 3) := by decide +kernel
theorem dL_tryBuyTrack_6 : decode cL_tryBuyTrack 6 = .ok (.ireturn, 1) := by decide +kernel
theorem dL_tryBuyTrack_7 : decode cL_tryBuyTrack 7 = .ok (.astore_n 3, 1) := by decide +kernel
theorem dL_tryBuyTrack_8 : decode cL_tryBuyTrack 8 = .ok (.ldc 32, 2) := by decide +kernel
theorem dL_tryBuyTrack_10 : decode cL_tryBuyTrack 10 = .ok (.ireturn, 1) := by decide +kernel
theorem dL_tryBuyTrack_11 : decode cL_tryBuyTrack 11 = .ok (.astore_n 3, 1) := by decide +kernel
theorem dL_tryBuyTrack_12 : decode cL_tryBuyTrack 12 = .ok (.ldc 18, 2) := by decide +kernel
theorem dL_tryBuyTrack_14 : decode cL_tryBuyTrack 14 = .ok (.ireturn, 1) := by decide +kernel
theorem dL_tryBuyTrain_0 : decode cL_tryBuyTrain 0 = .ok (.aload_n 0, 1) := by decide +kernel
theorem dL_tryBuyTrain_1 : decode cL_tryBuyTrain 1 = .ok (.iload_n 1, 1) := by decide +kernel
theorem dL_tryBuyTrain_2 : decode cL_tryBuyTrain 2 = .ok (.iload_n 2, 1) := by decide +kernel
theorem dL_tryBuyTrain_3 : decode cL_tryBuyTrain 3 = .ok (.invokevirtual 46, 3) := by decide +kernel
theorem dL_tryBuyTrain_6 : decode cL_tryBuyTrain 6 = .ok (.ireturn, 1) := by decide +kernel
theorem dL_tryBuyTrain_7 : decode cL_tryBuyTrain 7 = .ok (.astore_n 3, 1) := by decide +kernel
theorem dL_tryBuyTrain_8 : decode cL_tryBuyTrain 8 = .ok (.ldc 32, 2) := by decide +kernel
theorem dL_tryBuyTrain_10 : decode cL_tryBuyTrain 10 = .ok (.ireturn, 1) := by decide +kernel
theorem dL_tryBuyTrain_11 : decode cL_tryBuyTrain 11 = .ok (.astore_n 3, 1) := by decide +kernel
theorem dL_tryBuyTrain_12 : decode cL_tryBuyTrain 12 = .ok (.ldc 15, 2) := by decide +kernel
theorem dL_tryBuyTrain_14 : decode cL_tryBuyTrain 14 = .ok (.ireturn, 1) := by decide +kernel
theorem dL_tryBuyTrain_15 : decode cL_tryBuyTrain 15 = .ok (.astore_n 3, 1) := by decide +kernel
theorem dL_tryBuyTrain_16 : decode cL_tryBuyTrain 16 = .ok (.ldc 18, 2) := by decide +kernel
theorem dL_tryBuyTrain_18 : decode cL_tryBuyTrain 18 = .ok (.ireturn, 1) := by decide +kernel
theorem dL_trySetRent_0 : decode cL_trySetRent 0 = .ok (.aload_n 0, 1) := by decide +kernel
theorem dL_trySetRent_1 : decode cL_trySetRent 1 = .ok (.iload_n 1, 1) := by decide +kernel
theorem dL_trySetRent_2 : decode cL_trySetRent 2 = .ok (.iload_n 2, 1) := by decide +kernel
theorem dL_trySetRent_3 : decode cL_trySetRent 3 = .ok (.invokevirtual 49, 3) := by decide +kernel
theorem dL_trySetRent_6 : decode cL_trySetRent 6 = .ok (.ireturn, 1) := by decide +kernel
theorem dL_trySetRent_7 : decode cL_trySetRent 7 = .ok (.astore_n 3, 1) := by decide +kernel
theorem dL_trySetRent_8 : decode cL_trySetRent 8 = .ok (.ldc 32, 2) := by decide +kernel
theorem dL_trySetRent_10 : decode cL_trySetRent 10 = .ok (.ireturn, 1) := by decide +kernel
theorem dL_trySetRent_11 : decode cL_trySetRent 11 = .ok (.astore_n 3, 1) := by decide +kernel
theorem dL_trySetRent_12 : decode cL_trySetRent 12 = .ok (.ldc 15, 2) := by decide +kernel
theorem dL_trySetRent_14 : decode cL_trySetRent 14 = .ok (.ireturn, 1) := by decide +kernel
theorem dL_tryOffer_0 : decode cL_tryOffer 0 = .ok (.aload_n 0, 1) := by decide +kernel
theorem dL_tryOffer_1 : decode cL_tryOffer 1 = .ok (.iload_n 1, 1) := by decide +kernel
theorem dL_tryOffer_2 : decode cL_tryOffer 2 = .ok (.iload_n 2, 1) := by decide +kernel
theorem dL_tryOffer_3 : decode cL_tryOffer 3 = .ok (.iload_n 3, 1) := by decide +kernel
theorem dL_tryOffer_4 : decode cL_tryOffer 4 = .ok (.iload 4, 2) := by decide +kernel
theorem dL_tryOffer_6 : decode cL_tryOffer 6 = .ok (.invokevirtual 52, 3) := by decide +kernel
theorem dL_tryOffer_9 : decode cL_tryOffer 9 = .ok (.ireturn, 1) := by decide +kernel
theorem dL_tryOffer_10 : decode cL_tryOffer 10 = .ok (.astore 5, 2) := by decide +kernel
theorem dL_tryOffer_12 : decode cL_tryOffer 12 = .ok (.ldc 32, 2) := by decide +kernel
theorem dL_tryOffer_14 : decode cL_tryOffer 14 = .ok (.ireturn, 1) := by decide +kernel
theorem dL_tryOffer_15 : decode cL_tryOffer 15 = .ok (.astore 5, 2) := by decide +kernel
theorem dL_tryOffer_17 : decode cL_tryOffer 17 = .ok (.ldc 15, 2) := by decide +kernel
theorem dL_tryOffer_19 : decode cL_tryOffer 19 = .ok (.ireturn, 1) := by decide +kernel
theorem dL_tryOffer_20 : decode cL_tryOffer 20 = .ok (.astore 5, 2) := by decide +kernel
theorem dL_tryOffer_22 : decode cL_tryOffer 22 = .ok (.ldc 18, 2) := by decide +kernel
theorem dL_tryOffer_24 : decode cL_tryOffer 24 = .ok (.ireturn, 1) := by decide +kernel
theorem dL_tryTake_0 : decode cL_tryTake 0 = .ok (.aload_n 0, 1) := by decide +kernel
theorem dL_tryTake_1 : decode cL_tryTake 1 = .ok (.iload_n 1, 1) := by decide +kernel
theorem dL_tryTake_2 : decode cL_tryTake 2 = .ok (.iload_n 2, 1) := by decide +kernel
theorem dL_tryTake_3 : decode cL_tryTake 3 = .ok (.invokevirtual 56, 3) := by decide +kernel
theorem dL_tryTake_6 : decode cL_tryTake 6 = .ok (.ireturn, 1) := by decide +kernel
theorem dL_tryTake_7 : decode cL_tryTake 7 = .ok (.astore_n 3, 1) := by decide +kernel
theorem dL_tryTake_8 : decode cL_tryTake 8 = .ok (.ldc 32, 2) := by decide +kernel
theorem dL_tryTake_10 : decode cL_tryTake 10 = .ok (.ireturn, 1) := by decide +kernel
theorem dL_tryTake_11 : decode cL_tryTake 11 = .ok (.astore_n 3, 1) := by decide +kernel
theorem dL_tryTake_12 : decode cL_tryTake 12 = .ok (.ldc 18, 2) := by decide +kernel
theorem dL_tryTake_14 : decode cL_tryTake 14 = .ok (.ireturn, 1) := by decide +kernel
theorem dL_tryRun_0 : decode cL_tryRun 0 = .ok (.aload_n 0, 1) := by decide +kernel
theorem dL_tryRun_1 : decode cL_tryRun 1 = .ok (.iload_n 1, 1) := by decide +kernel
theorem dL_tryRun_2 : decode cL_tryRun 2 = .ok (.iload_n 2, 1) := by decide +kernel
theorem dL_tryRun_3 : decode cL_tryRun 3 = .ok (.invokevirtual 59, 3) := by decide +kernel
theorem dL_tryRun_6 : decode cL_tryRun 6 = .ok (.ireturn, 1) := by decide +kernel
theorem dL_tryRun_7 : decode cL_tryRun 7 = .ok (.astore_n 3, 1) := by decide +kernel
theorem dL_tryRun_8 : decode cL_tryRun 8 = .ok (.ldc 32, 2) := by decide +kernel
theorem dL_tryRun_10 : decode cL_tryRun 10 = .ok (.ireturn, 1) := by decide +kernel
theorem dL_tryRun_11 : decode cL_tryRun 11 = .ok (.astore_n 3, 1) := by decide +kernel
theorem dL_tryRun_12 : decode cL_tryRun 12 = .ok (.ldc 18, 2) := by decide +kernel
theorem dL_tryRun_14 : decode cL_tryRun 14 = .ok (.ireturn, 1) := by decide +kernel
theorem dL_tryUndo_0 : decode cL_tryUndo 0 = .ok (.aload_n 0, 1) := by decide +kernel
theorem dL_tryUndo_1 : decode cL_tryUndo 1 = .ok (.invokevirtual 62, 3) := by decide +kernel
theorem dL_tryUndo_4 : decode cL_tryUndo 4 = .ok (.ireturn, 1) := by decide +kernel
theorem dL_tryUndo_5 : decode cL_tryUndo 5 = .ok (.astore_n 1, 1) := by decide +kernel
theorem dL_tryUndo_6 : decode cL_tryUndo 6 = .ok (.ldc 18, 2) := by decide +kernel
theorem dL_tryUndo_8 : decode cL_tryUndo 8 = .ok (.ireturn, 1) := by decide +kernel
theorem dL_tryWhyNot_0 : decode cL_tryWhyNot 0 = .ok (.aload_n 0, 1) := by decide +kernel
theorem dL_tryWhyNot_1 : decode cL_tryWhyNot 1 = .ok (.iload_n 1, 1) := by decide +kernel
theorem dL_tryWhyNot_2 : decode cL_tryWhyNot 2 = .ok (.iload_n 2, 1) := by decide +kernel
theorem dL_tryWhyNot_3 : decode cL_tryWhyNot 3 = .ok (.invokevirtual 65, 3) := by decide +kernel
theorem dL_tryWhyNot_6 : decode cL_tryWhyNot 6 = .ok (.ireturn, 1) := by decide +kernel
theorem dL_tryWhyNot_7 : decode cL_tryWhyNot 7 = .ok (.astore_n 3, 1) := by decide +kernel
theorem dL_tryWhyNot_8 : decode cL_tryWhyNot 8 = .ok (.ldc 32, 2) := by decide +kernel
theorem dL_tryWhyNot_10 : decode cL_tryWhyNot 10 = .ok (.ireturn, 1) := by decide +kernel
theorem dL_tryLevelFor_0 : decode cL_tryLevelFor 0 = .ok (.aload_n 0, 1) := by decide +kernel
theorem dL_tryLevelFor_1 : decode cL_tryLevelFor 1 = .ok (.iload_n 1, 1) := by decide +kernel
theorem dL_tryLevelFor_2 : decode cL_tryLevelFor 2 = .ok (.iload_n 2, 1) := by decide +kernel
theorem dL_tryLevelFor_3 : decode cL_tryLevelFor 3 = .ok (.invokevirtual 68, 3) := by decide +kernel
theorem dL_tryLevelFor_6 : decode cL_tryLevelFor 6 = .ok (.ireturn, 1) := by decide +kernel
theorem dL_tryLevelFor_7 : decode cL_tryLevelFor 7 = .ok (.astore_n 3, 1) := by decide +kernel
theorem dL_tryLevelFor_8 : decode cL_tryLevelFor 8 = .ok (.ldc 32, 2) := by decide +kernel
theorem dL_tryLevelFor_10 : decode cL_tryLevelFor 10 = .ok (.ireturn, 1) := by decide +kernel
theorem dL_tryBestContract_0 : decode cL_tryBestContract 0 = .ok (.aload_n 0, 1) := by decide +kernel
theorem dL_tryBestContract_1 : decode cL_tryBestContract 1 = .ok (.iload_n 1, 1) := by decide +kernel
theorem dL_tryBestContract_2 : decode cL_tryBestContract 2 = .ok (.invokevirtual 71, 3) := by decide +kernel
theorem dL_tryBestContract_5 : decode cL_tryBestContract 5 = .ok (.ireturn, 1) := by decide +kernel
theorem dL_tryBestContract_6 : decode cL_tryBestContract 6 = .ok (.astore_n 2, 1) := by decide +kernel
theorem dL_tryBestContract_7 : decode cL_tryBestContract 7 = .ok (.ldc 32, 2) := by decide +kernel
theorem dL_tryBestContract_9 : decode cL_tryBestContract 9 = .ok (.ireturn, 1) := by decide +kernel
theorem dL_tryCoinsAfter_0 : decode cL_tryCoinsAfter 0 = .ok (.aload_n 0, 1) := by decide +kernel
theorem dL_tryCoinsAfter_1 : decode cL_tryCoinsAfter 1 = .ok (.iload_n 1, 1) := by decide +kernel
theorem dL_tryCoinsAfter_2 : decode cL_tryCoinsAfter 2 = .ok (.iload_n 2, 1) := by decide +kernel
theorem dL_tryCoinsAfter_3 : decode cL_tryCoinsAfter 3 = .ok (.invokevirtual 74, 3) := by decide +kernel
theorem dL_tryCoinsAfter_6 : decode cL_tryCoinsAfter 6 = .ok (.ireturn, 1) := by decide +kernel
theorem dL_tryCoinsAfter_7 : decode cL_tryCoinsAfter 7 = .ok (.astore_n 3, 1) := by decide +kernel
theorem dL_tryCoinsAfter_8 : decode cL_tryCoinsAfter 8 = .ok (.ldc 32, 2) := by decide +kernel
theorem dL_tryCoinsAfter_10 : decode cL_tryCoinsAfter 10 = .ok (.ireturn, 1) := by decide +kernel
theorem dL_tryCoinsAfter_11 : decode cL_tryCoinsAfter 11 = .ok (.astore_n 3, 1) := by decide +kernel
theorem dL_tryCoinsAfter_12 : decode cL_tryCoinsAfter 12 = .ok (.ldc 15, 2) := by decide +kernel
theorem dL_tryCoinsAfter_14 : decode cL_tryCoinsAfter 14 = .ok (.ireturn, 1) := by decide +kernel
theorem dL_tryBankruptAfter_0 : decode cL_tryBankruptAfter 0 = .ok (.aload_n 0, 1) := by decide +kernel
theorem dL_tryBankruptAfter_1 : decode cL_tryBankruptAfter 1 = .ok (.iload_n 1, 1) := by decide +kernel
theorem dL_tryBankruptAfter_2 : decode cL_tryBankruptAfter 2 = .ok (.invokevirtual 77, 3) := by decide +kernel
theorem dL_tryBankruptAfter_5 : decode cL_tryBankruptAfter 5 = .ok (.ireturn, 1) := by decide +kernel
theorem dL_tryBankruptAfter_6 : decode cL_tryBankruptAfter 6 = .ok (.astore_n 2, 1) := by decide +kernel
theorem dL_tryBankruptAfter_7 : decode cL_tryBankruptAfter 7 = .ok (.ldc 32, 2) := by decide +kernel
theorem dL_tryBankruptAfter_9 : decode cL_tryBankruptAfter 9 = .ok (.ireturn, 1) := by decide +kernel
theorem dL_tryWorth_0 : decode cL_tryWorth 0 = .ok (.aload_n 0, 1) := by decide +kernel
theorem dL_tryWorth_1 : decode cL_tryWorth 1 = .ok (.iload_n 1, 1) := by decide +kernel
theorem dL_tryWorth_2 : decode cL_tryWorth 2 = .ok (.invokevirtual 80, 3) := by decide +kernel
theorem dL_tryWorth_5 : decode cL_tryWorth 5 = .ok (.ireturn, 1) := by decide +kernel
theorem dL_tryWorth_6 : decode cL_tryWorth 6 = .ok (.astore_n 2, 1) := by decide +kernel
theorem dL_tryWorth_7 : decode cL_tryWorth 7 = .ok (.ldc 32, 2) := by decide +kernel
theorem dL_tryWorth_9 : decode cL_tryWorth 9 = .ok (.ireturn, 1) := by decide +kernel
theorem dL_tryScript_0 : decode cL_tryScript 0 = .ok (.aload_n 0, 1) := by decide +kernel
theorem dL_tryScript_1 : decode cL_tryScript 1 = .ok (.iload_n 1, 1) := by decide +kernel
theorem dL_tryScript_2 : decode cL_tryScript 2 = .ok (.lload_n 2, 1) := by decide +kernel
theorem dL_tryScript_3 : decode cL_tryScript 3 = .ok (.invokevirtual 83, 3) := by decide +kernel
theorem dL_tryScript_6 : decode cL_tryScript 6 = .ok (.ireturn, 1) := by decide +kernel
theorem dL_tryScript_7 : decode cL_tryScript 7 = .ok (.astore 4, 2) := by decide +kernel
theorem dL_tryScript_9 : decode cL_tryScript 9 = .ok (.ldc 15, 2) := by decide +kernel
theorem dL_tryScript_11 : decode cL_tryScript 11 = .ok (.ireturn, 1) := by decide +kernel
theorem dL_trySimulate_0 : decode cL_trySimulate 0 = .ok (.aload_n 0, 1) := by decide +kernel
theorem dL_trySimulate_1 : decode cL_trySimulate 1 = .ok (.lload_n 1, 1) := by decide +kernel
theorem dL_trySimulate_2 : decode cL_trySimulate 2 = .ok (.iload_n 3, 1) := by decide +kernel
theorem dL_trySimulate_3 : decode cL_trySimulate 3 = .ok (.invokevirtual 87, 3) := by decide +kernel
theorem dL_trySimulate_6 : decode cL_trySimulate 6 = .ok (.ireturn, 1) := by decide +kernel
theorem dL_trySimulate_7 : decode cL_trySimulate 7 = .ok (.astore 4, 2) := by decide +kernel
theorem dL_trySimulate_9 : decode cL_trySimulate 9 = .ok (.ldc 15, 2) := by decide +kernel
theorem dL_trySimulate_11 : decode cL_trySimulate 11 = .ok (.ireturn, 1) := by decide +kernel
theorem dL_trySave_0 : decode cL_trySave 0 = .ok (.aload_n 0, 1) := by decide +kernel
theorem dL_trySave_1 : decode cL_trySave 1 = .ok (.iload_n 1, 1) := by decide +kernel
theorem dL_trySave_2 : decode cL_trySave 2 = .ok (.invokevirtual 91, 3) := by decide +kernel
theorem dL_trySave_5 : decode cL_trySave 5 = .ok (.ireturn, 1) := by decide +kernel
theorem dL_trySave_6 : decode cL_trySave 6 = .ok (.astore_n 2, 1) := by decide +kernel
theorem dL_trySave_7 : decode cL_trySave 7 = .ok (.ldc 32, 2) := by decide +kernel
theorem dL_trySave_9 : decode cL_trySave 9 = .ok (.ireturn, 1) := by decide +kernel
theorem dL_tryRestore_0 : decode cL_tryRestore 0 = .ok (.aload_n 0, 1) := by decide +kernel
theorem dL_tryRestore_1 : decode cL_tryRestore 1 = .ok (.iload_n 1, 1) := by decide +kernel
theorem dL_tryRestore_2 : decode cL_tryRestore 2 = .ok (.invokevirtual 94, 3) := by decide +kernel
theorem dL_tryRestore_5 : decode cL_tryRestore 5 = .ok (.ireturn, 1) := by decide +kernel
theorem dL_tryRestore_6 : decode cL_tryRestore 6 = .ok (.astore_n 2, 1) := by decide +kernel
theorem dL_tryRestore_7 : decode cL_tryRestore 7 = .ok (.ldc 32, 2) := by decide +kernel
theorem dL_tryRestore_9 : decode cL_tryRestore 9 = .ok (.ireturn, 1) := by decide +kernel
theorem dL_tryRestore_10 : decode cL_tryRestore 10 = .ok (.astore_n 2, 1) := by decide +kernel
theorem dL_tryRestore_11 : decode cL_tryRestore 11 = .ok (.ldc 18, 2) := by decide +kernel
theorem dL_tryRestore_13 : decode cL_tryRestore 13 = .ok (.ireturn, 1) := by decide +kernel
theorem dL_tryWay_0 : decode cL_tryWay 0 = .ok (.aload_n 0, 1) := by decide +kernel
theorem dL_tryWay_1 : decode cL_tryWay 1 = .ok (.iload_n 1, 1) := by decide +kernel
theorem dL_tryWay_2 : decode cL_tryWay 2 = .ok (.iload_n 2, 1) := by decide +kernel
theorem dL_tryWay_3 : decode cL_tryWay 3 = .ok (.iload_n 3, 1) := by decide +kernel
theorem dL_tryWay_4 : decode cL_tryWay 4 = .ok (.iload 4, 2) := by decide +kernel
theorem dL_tryWay_6 : decode cL_tryWay 6 = .ok (.iload 5, 2) := by decide +kernel
theorem dL_tryWay_8 : decode cL_tryWay 8 = .ok (.invokevirtual 97, 3) := by decide +kernel
theorem dL_tryWay_11 : decode cL_tryWay 11 = .ok (.ireturn, 1) := by decide +kernel
theorem dL_tryWay_12 : decode cL_tryWay 12 = .ok (.astore 6, 2) := by decide +kernel
theorem dL_tryWay_14 : decode cL_tryWay 14 = .ok (.ldc 32, 2) := by decide +kernel
theorem dL_tryWay_16 : decode cL_tryWay 16 = .ok (.ireturn, 1) := by decide +kernel
theorem dL_tryWay_17 : decode cL_tryWay 17 = .ok (.astore 6, 2) := by decide +kernel
theorem dL_tryWay_19 : decode cL_tryWay 19 = .ok (.ldc 15, 2) := by decide +kernel
theorem dL_tryWay_21 : decode cL_tryWay 21 = .ok (.ireturn, 1) := by decide +kernel
theorem dL_number_0 : decode cL_number 0 = .ok (.iload_n 1, 1) := by decide +kernel
theorem dL_number_1 : decode cL_number 1 = .ok (.aload_n 0, 1) := by decide +kernel
theorem dL_number_2 : decode cL_number 2 = .ok (.arraylength, 1) := by decide +kernel
theorem dL_number_3 : decode cL_number 3 = .ok (.if_icmp .ge 9, 3) := by decide +kernel
theorem dL_number_6 : decode cL_number 6 = .ok (.aload_n 0, 1) := by decide +kernel
theorem dL_number_7 : decode cL_number 7 = .ok (.iload_n 1, 1) := by decide +kernel
theorem dL_number_8 : decode cL_number 8 = .ok (.iaload, 1) := by decide +kernel
theorem dL_number_9 : decode cL_number 9 = .ok (.goto 13, 3) := by decide +kernel
theorem dL_number_12 : decode cL_number 12 = .ok (.ldc 101, 2) := by decide +kernel
theorem dL_number_14 : decode cL_number 14 = .ok (.iload_n 1, 1) := by decide +kernel
theorem dL_number_15 : decode cL_number 15 = .ok (.iconst 5, 1) := by decide +kernel
theorem dL_number_16 : decode cL_number 16 = .ok (.iadd, 1) := by decide +kernel
theorem dL_number_17 : decode cL_number 17 = .ok (.imul, 1) := by decide +kernel
theorem dL_number_18 : decode cL_number 18 = .ok (.sipush 10223, 3) := by decide +kernel
theorem dL_number_21 : decode cL_number 21 = .ok (.iadd, 1) := by decide +kernel
theorem dL_number_22 : decode cL_number 22 = .ok (.ldc 102, 2) := by decide +kernel
theorem dL_number_24 : decode cL_number 24 = .ok (.iand, 1) := by decide +kernel
theorem dL_number_25 : decode cL_number 25 = .ok (.ireturn, 1) := by decide +kernel
theorem dL_put_0 : decode cL_put 0 = .ok (.aload_n 0, 1) := by decide +kernel
theorem dL_put_1 : decode cL_put 1 = .ok (.iload_n 2, 1) := by decide +kernel
theorem dL_put_2 : decode cL_put 2 = .ok (.invokestatic 103, 3) := by decide +kernel
theorem dL_put_5 : decode cL_put 5 = .ok (.ifCond .le 15, 3) := by decide +kernel
theorem dL_put_8 : decode cL_put 8 = .ok (.aload_n 1, 1) := by decide +kernel
theorem dL_put_9 : decode cL_put 9 = .ok (.iload_n 2, 1) := by decide +kernel
theorem dL_put_10 : decode cL_put 10 = .ok (.invokestatic 103, 3) := by decide +kernel
theorem dL_put_13 : decode cL_put 13 = .ok (.ifCond .le 7, 3) := by decide +kernel
theorem dL_put_16 : decode cL_put 16 = .ok (.iconst 1, 1) := by decide +kernel
theorem dL_put_17 : decode cL_put 17 = .ok (.goto 4, 3) := by decide +kernel
theorem dL_put_20 : decode cL_put 20 = .ok (.iconst 0, 1) := by decide +kernel
theorem dL_put_21 : decode cL_put 21 = .ok (.ireturn, 1) := by decide +kernel
theorem dL_told_0 : decode cL_told 0 = .ok (.aload_n 2, 1) := by decide +kernel
theorem dL_told_1 : decode cL_told 1 = .ok (.iload_n 3, 1) := by decide +kernel
theorem dL_told_2 : decode cL_told 2 = .ok (.invokestatic 109, 3) := by decide +kernel
theorem dL_told_5 : decode cL_told 5 = .ok (.istore 4, 2) := by decide +kernel
theorem dL_told_7 : decode cL_told 7 = .ok (.iconst 2, 1) := by decide +kernel
theorem dL_told_8 : decode cL_told 8 = .ok (.iload 4, 2) := by decide +kernel
theorem dL_told_10 : decode cL_told 10 = .ok (.bipush 6, 2) := by decide +kernel
theorem dL_told_12 : decode cL_told 12 = .ok (.irem, 1) := by decide +kernel
theorem dL_told_13 : decode cL_told 13 = .ok (.iadd, 1) := by decide +kernel
theorem dL_told_14 : decode cL_told 14 = .ok (.istore 5, 2) := by decide +kernel
theorem dL_told_16 : decode cL_told 16 = .ok (.iconst 2, 1) := by decide +kernel
theorem dL_told_17 : decode cL_told 17 = .ok (.iload 4, 2) := by decide +kernel
theorem dL_told_19 : decode cL_told 19 = .ok (.bipush 8, 2) := by decide +kernel
theorem dL_told_21 : decode cL_told 21 = .ok (.idiv, 1) := by decide +kernel
theorem dL_told_22 : decode cL_told 22 = .ok (.bipush 8, 2) := by decide +kernel
theorem dL_told_24 : decode cL_told 24 = .ok (.irem, 1) := by decide +kernel
theorem dL_told_25 : decode cL_told 25 = .ok (.iadd, 1) := by decide +kernel
theorem dL_told_26 : decode cL_told 26 = .ok (.istore 6, 2) := by decide +kernel
theorem dL_told_28 : decode cL_told 28 = .ok (.iconst 1, 1) := by decide +kernel
theorem dL_told_29 : decode cL_told 29 = .ok (.iload 4, 2) := by decide +kernel
theorem dL_told_31 : decode cL_told 31 = .ok (.sipush 128, 3) := by decide +kernel
theorem dL_told_34 : decode cL_told 34 = .ok (.idiv, 1) := by decide +kernel
theorem dL_told_35 : decode cL_told 35 = .ok (.bipush 6, 2) := by decide +kernel
theorem dL_told_37 : decode cL_told 37 = .ok (.irem, 1) := by decide +kernel
theorem dL_told_38 : decode cL_told 38 = .ok (.iadd, 1) := by decide +kernel
theorem dL_told_39 : decode cL_told 39 = .ok (.istore 7, 2) := by decide +kernel
theorem dL_told_41 : decode cL_told 41 = .ok (.aload_n 0, 1) := by decide +kernel
theorem dL_told_42 : decode cL_told 42 = .ok (.invokevirtual 113, 3) := by decide +kernel
theorem dL_told_45 : decode cL_told 45 = .ok (.aload_n 1, 1) := by decide +kernel
theorem dL_told_46 : decode cL_told 46 = .ok (.invokevirtual 113, 3) := by decide +kernel
theorem dL_told_49 : decode cL_told 49 = .ok (.if_icmp .ne 47, 3) := by decide +kernel
theorem dL_told_52 : decode cL_told 52 = .ok (.aload_n 0, 1) := by decide +kernel
theorem dL_told_53 : decode cL_told 53 = .ok (.aload_n 1, 1) := by decide +kernel
theorem dL_told_54 : decode cL_told 54 = .ok (.bipush 82, 2) := by decide +kernel
theorem dL_told_56 : decode cL_told 56 = .ok (.invokestatic 116, 3) := by decide +kernel
theorem dL_told_59 : decode cL_told 59 = .ok (.ifCond .eq 37, 3) := by decide +kernel
theorem dL_told_62 : decode cL_told 62 = .ok (.aload_n 0, 1) := by decide +kernel
theorem dL_told_63 : decode cL_told 63 = .ok (.invokevirtual 120, 3) := by decide +kernel
theorem dL_told_66 : decode cL_told 66 = .ok (.iconst 1, 1) := by decide +kernel
theorem dL_told_67 : decode cL_told 67 = .ok (.if_icmp .ne 29, 3) := by decide +kernel
theorem dL_told_70 : decode cL_told 70 = .ok (.aload_n 0, 1) := by decide +kernel
theorem dL_told_71 : decode cL_told 71 = .ok (.aload_n 1, 1) := by decide +kernel
theorem dL_told_72 : decode cL_told 72 = .ok (.bipush 48, 2) := by decide +kernel
theorem dL_told_74 : decode cL_told 74 = .ok (.iload 5, 2) := by decide +kernel
theorem dL_told_76 : decode cL_told 76 = .ok (.iadd, 1) := by decide +kernel
theorem dL_told_77 : decode cL_told 77 = .ok (.invokestatic 116, 3) := by decide +kernel
theorem dL_told_80 : decode cL_told 80 = .ok (.ifCond .eq 16, 3) := by decide +kernel
theorem dL_told_83 : decode cL_told 83 = .ok (.aload_n 0, 1) := by decide +kernel
theorem dL_told_84 : decode cL_told 84 = .ok (.invokevirtual 120, 3) := by decide +kernel
theorem dL_told_87 : decode cL_told 87 = .ok (.bipush (-9), 2) := by decide +kernel
theorem dL_told_89 : decode cL_told 89 = .ok (.if_icmp .ne 7, 3) := by decide +kernel
theorem dL_told_92 : decode cL_told 92 = .ok (.iconst 1, 1) := by decide +kernel
theorem dL_told_93 : decode cL_told 93 = .ok (.goto 4, 3) := by decide +kernel
theorem dL_told_96 : decode cL_told 96 = .ok (.iconst 0, 1) := by decide +kernel
theorem dL_told_97 : decode cL_told 97 = .ok (.istore 8, 2) := by decide +kernel
theorem dL_told_99 : decode cL_told 99 = .ok (.iconst 2, 1) := by decide +kernel
theorem dL_told_100 : decode cL_told 100 = .ok (.istore 9, 2) := by decide +kernel
theorem dL_told_102 : decode cL_told 102 = .ok (.iconst 0, 1) := by decide +kernel
theorem dL_told_103 : decode cL_told 103 = .ok (.istore 10, 2) := by decide +kernel
theorem dL_told_105 : decode cL_told 105 = .ok (.iload 10, 2) := by decide +kernel
theorem dL_told_107 : decode cL_told 107 = .ok (.iload 6, 2) := by decide +kernel
theorem dL_told_109 : decode cL_told 109 = .ok (.if_icmp .ge 150, 3) := by decide +kernel
theorem dL_told_112 : decode cL_told 112 = .ok (.iload 8, 2) := by decide +kernel
theorem dL_told_114 : decode cL_told 114 = .ok (.ifCond .eq 145, 3) := by decide +kernel
theorem dL_told_117 : decode cL_told 117 = .ok (.aload_n 2, 1) := by decide +kernel
theorem dL_told_118 : decode cL_told 118 = .ok (.iload_n 3, 1) := by decide +kernel
theorem dL_told_119 : decode cL_told 119 = .ok (.iconst 1, 1) := by decide +kernel
theorem dL_told_120 : decode cL_told 120 = .ok (.iadd, 1) := by decide +kernel
theorem dL_told_121 : decode cL_told 121 = .ok (.iload 10, 2) := by decide +kernel
theorem dL_told_123 : decode cL_told 123 = .ok (.iconst 3, 1) := by decide +kernel
theorem dL_told_124 : decode cL_told 124 = .ok (.irem, 1) := by decide +kernel
theorem dL_told_125 : decode cL_told 125 = .ok (.iadd, 1) := by decide +kernel
theorem dL_told_126 : decode cL_told 126 = .ok (.invokestatic 109, 3) := by decide +kernel
theorem dL_told_129 : decode cL_told 129 = .ok (.iconst 1, 1) := by decide +kernel
theorem dL_told_130 : decode cL_told 130 = .ok (.bipush 13, 2) := by decide +kernel
theorem dL_told_132 : decode cL_told 132 = .ok (.iload 10, 2) := by decide +kernel
theorem dL_told_134 : decode cL_told 134 = .ok (.iconst 3, 1) := by decide +kernel
theorem dL_told_135 : decode cL_told 135 = .ok (.idiv, 1) := by decide +kernel
theorem dL_told_136 : decode cL_told 136 = .ok (.imul, 1) := by decide +kernel
theorem dL_told_137 : decode cL_told 137 = .ok (.iadd, 1) := by decide +kernel
theorem dL_told_138 : decode cL_told 138 = .ok (.idiv, 1) := by decide +kernel
theorem dL_told_139 : decode cL_told 139 = .ok (.istore 11, 2) := by decide +kernel
theorem dL_told_141 : decode cL_told 141 = .ok (.iload 11, 2) := by decide +kernel
theorem dL_told_143 : decode cL_told 143 = .ok (.iload 5, 2) := by decide +kernel
theorem dL_told_145 : decode cL_told 145 = .ok (.irem, 1) := by decide +kernel
theorem dL_told_146 : decode cL_told 146 = .ok (.istore 12, 2) := by decide +kernel
theorem dL_told_148 : decode cL_told 148 = .ok (.iload 12, 2) := by decide +kernel
theorem dL_told_150 : decode cL_told 150 = .ok (.iconst 1, 1) := by decide +kernel
theorem dL_told_151 : decode cL_told 151 = .ok (.iadd, 1) := by decide +kernel
theorem dL_told_152 : decode cL_told 152 = .ok (.iload 11, 2) := by decide +kernel
theorem dL_told_154 : decode cL_told 154 = .ok (.bipush 16, 2) := by decide +kernel
theorem dL_told_156 : decode cL_told 156 = .ok (.idiv, 1) := by decide +kernel
theorem dL_told_157 : decode cL_told 157 = .ok (.iload 5, 2) := by decide +kernel
theorem dL_told_159 : decode cL_told 159 = .ok (.iconst 1, 1) := by decide +kernel
theorem dL_told_160 : decode cL_told 160 = .ok (.isub, 1) := by decide +kernel
theorem dL_told_161 : decode cL_told 161 = .ok (.irem, 1) := by decide +kernel
theorem dL_told_162 : decode cL_told 162 = .ok (.iadd, 1) := by decide +kernel
theorem dL_told_163 : decode cL_told 163 = .ok (.iload 5, 2) := by decide +kernel
theorem dL_told_165 : decode cL_told 165 = .ok (.irem, 1) := by decide +kernel
theorem dL_told_166 : decode cL_told 166 = .ok (.istore 13, 2) := by decide +kernel
theorem dL_told_168 : decode cL_told 168 = .ok (.aload_n 0, 1) := by decide +kernel
theorem dL_told_169 : decode cL_told 169 = .ok (.aload_n 1, 1) := by decide +kernel
theorem dL_told_170 : decode cL_told 170 = .ok (.bipush 116, 2) := by decide +kernel
theorem dL_told_172 : decode cL_told 172 = .ok (.invokestatic 116, 3) := by decide +kernel
theorem dL_told_175 : decode cL_told 175 = .ok (.ifCond .eq 72, 3) := by decide +kernel
theorem dL_told_178 : decode cL_told 178 = .ok (.aload_n 0, 1) := by decide +kernel
theorem dL_told_179 : decode cL_told 179 = .ok (.aload_n 1, 1) := by decide +kernel
theorem dL_told_180 : decode cL_told 180 = .ok (.bipush 48, 2) := by decide +kernel
theorem dL_told_182 : decode cL_told 182 = .ok (.iload 12, 2) := by decide +kernel
theorem dL_told_184 : decode cL_told 184 = .ok (.iadd, 1) := by decide +kernel
theorem dL_told_185 : decode cL_told 185 = .ok (.invokestatic 116, 3) := by decide +kernel
theorem dL_told_188 : decode cL_told 188 = .ok (.ifCond .eq 59, 3) := by decide +kernel
theorem dL_told_191 : decode cL_told 191 = .ok (.aload_n 0, 1) := by decide +kernel
theorem dL_told_192 : decode cL_told 192 = .ok (.invokevirtual 120, 3) := by decide +kernel
theorem dL_told_195 : decode cL_told 195 = .ok (.iload 9, 2) := by decide +kernel
theorem dL_told_197 : decode cL_told 197 = .ok (.iconst 2, 1) := by decide +kernel
theorem dL_told_198 : decode cL_told 198 = .ok (.iadd, 1) := by decide +kernel
theorem dL_told_199 : decode cL_told 199 = .ok (.if_icmp .ne 48, 3) := by decide +kernel
theorem dL_told_202 : decode cL_told 202 = .ok (.aload_n 0, 1) := by decide +kernel
theorem dL_told_203 : decode cL_told 203 = .ok (.aload_n 1, 1) := by decide +kernel
theorem dL_told_204 : decode cL_told 204 = .ok (.bipush 48, 2) := by decide +kernel
theorem dL_told_206 : decode cL_told 206 = .ok (.iload 13, 2) := by decide +kernel
theorem dL_told_208 : decode cL_told 208 = .ok (.iadd, 1) := by decide +kernel
theorem dL_told_209 : decode cL_told 209 = .ok (.invokestatic 116, 3) := by decide +kernel
theorem dL_told_212 : decode cL_told 212 = .ok (.ifCond .eq 35, 3) := by decide +kernel
theorem dL_told_215 : decode cL_told 215 = .ok (.aload_n 0, 1) := by decide +kernel
theorem dL_told_216 : decode cL_told 216 = .ok (.aload_n 1, 1) := by decide +kernel
theorem dL_told_217 : decode cL_told 217 = .ok (.bipush 49, 2) := by decide +kernel
theorem dL_told_219 : decode cL_told 219 = .ok (.iload 11, 2) := by decide +kernel
theorem dL_told_221 : decode cL_told 221 = .ok (.sipush 256, 3) := by decide +kernel
theorem dL_told_224 : decode cL_told 224 = .ok (.idiv, 1) := by decide +kernel
theorem dL_told_225 : decode cL_told 225 = .ok (.iconst 5, 1) := by decide +kernel
theorem dL_told_226 : decode cL_told 226 = .ok (.irem, 1) := by decide +kernel
theorem dL_told_227 : decode cL_told 227 = .ok (.iadd, 1) := by decide +kernel
theorem dL_told_228 : decode cL_told 228 = .ok (.invokestatic 116, 3) := by decide +kernel
theorem dL_told_231 : decode cL_told 231 = .ok (.ifCond .eq 16, 3) := by decide +kernel
theorem dL_told_234 : decode cL_told 234 = .ok (.aload_n 0, 1) := by decide +kernel
theorem dL_told_235 : decode cL_told 235 = .ok (.invokevirtual 120, 3) := by decide +kernel
theorem dL_told_238 : decode cL_told 238 = .ok (.bipush (-9), 2) := by decide +kernel
theorem dL_told_240 : decode cL_told 240 = .ok (.if_icmp .ne 7, 3) := by decide +kernel
theorem dL_told_243 : decode cL_told 243 = .ok (.iconst 1, 1) := by decide +kernel
theorem dL_told_244 : decode cL_told 244 = .ok (.goto 4, 3) := by decide +kernel
theorem dL_told_247 : decode cL_told 247 = .ok (.iconst 0, 1) := by decide +kernel
theorem dL_told_248 : decode cL_told 248 = .ok (.istore 8, 2) := by decide +kernel
theorem dL_told_250 : decode cL_told 250 = .ok (.iinc 9 4, 3) := by decide +kernel
theorem dL_told_253 : decode cL_told 253 = .ok (.iinc 10 1, 3) := by decide +kernel
theorem dL_told_256 : decode cL_told 256 = .ok (.goto (-151), 3) := by decide +kernel
theorem dL_told_259 : decode cL_told 259 = .ok (.iconst 0, 1) := by decide +kernel
theorem dL_told_260 : decode cL_told 260 = .ok (.istore 10, 2) := by decide +kernel
theorem dL_told_262 : decode cL_told 262 = .ok (.iload 10, 2) := by decide +kernel
theorem dL_told_264 : decode cL_told 264 = .ok (.iload 7, 2) := by decide +kernel
theorem dL_told_266 : decode cL_told 266 = .ok (.if_icmp .ge 200, 3) := by decide +kernel
theorem dL_told_269 : decode cL_told 269 = .ok (.iload 8, 2) := by decide +kernel
theorem dL_told_271 : decode cL_told 271 = .ok (.ifCond .eq 195, 3) := by decide +kernel
theorem dL_told_274 : decode cL_told 274 = .ok (.aload_n 2, 1) := by decide +kernel
theorem dL_told_275 : decode cL_told 275 = .ok (.iload_n 3, 1) := by decide +kernel
theorem dL_told_276 : decode cL_told 276 = .ok (.iconst 4, 1) := by decide +kernel
theorem dL_told_277 : decode cL_told 277 = .ok (.iadd, 1) := by decide +kernel
theorem dL_told_278 : decode cL_told 278 = .ok (.invokestatic 109, 3) := by decide +kernel
theorem dL_told_281 : decode cL_told 281 = .ok (.iconst 1, 1) := by decide +kernel
theorem dL_told_282 : decode cL_told 282 = .ok (.bipush 17, 2) := by decide +kernel
theorem dL_told_284 : decode cL_told 284 = .ok (.iload 10, 2) := by decide +kernel
theorem dL_told_286 : decode cL_told 286 = .ok (.imul, 1) := by decide +kernel
theorem dL_told_287 : decode cL_told 287 = .ok (.iadd, 1) := by decide +kernel
theorem dL_told_288 : decode cL_told 288 = .ok (.idiv, 1) := by decide +kernel
theorem dL_told_289 : decode cL_told 289 = .ok (.istore 11, 2) := by decide +kernel
theorem dL_told_291 : decode cL_told 291 = .ok (.iload 11, 2) := by decide +kernel
theorem dL_told_293 : decode cL_told 293 = .ok (.iload 5, 2) := by decide +kernel
theorem dL_told_295 : decode cL_told 295 = .ok (.irem, 1) := by decide +kernel
theorem dL_told_296 : decode cL_told 296 = .ok (.istore 12, 2) := by decide +kernel
theorem dL_told_298 : decode cL_told 298 = .ok (.iload 12, 2) := by decide +kernel
theorem dL_told_300 : decode cL_told 300 = .ok (.iconst 1, 1) := by decide +kernel
theorem dL_told_301 : decode cL_told 301 = .ok (.iadd, 1) := by decide +kernel
theorem dL_told_302 : decode cL_told 302 = .ok (.iload 11, 2) := by decide +kernel
theorem dL_told_304 : decode cL_told 304 = .ok (.bipush 16, 2) := by decide +kernel
theorem dL_told_306 : decode cL_told 306 = .ok (.idiv, 1) := by decide +kernel
theorem dL_told_307 : decode cL_told 307 = .ok (.iload 5, 2) := by decide +kernel
theorem dL_told_309 : decode cL_told 309 = .ok (.iconst 1, 1) := by decide +kernel
theorem dL_told_310 : decode cL_told 310 = .ok (.isub, 1) := by decide +kernel
theorem dL_told_311 : decode cL_told 311 = .ok (.irem, 1) := by decide +kernel
theorem dL_told_312 : decode cL_told 312 = .ok (.iadd, 1) := by decide +kernel
theorem dL_told_313 : decode cL_told 313 = .ok (.iload 5, 2) := by decide +kernel
theorem dL_told_315 : decode cL_told 315 = .ok (.irem, 1) := by decide +kernel
theorem dL_told_316 : decode cL_told 316 = .ok (.istore 13, 2) := by decide +kernel
theorem dL_told_318 : decode cL_told 318 = .ok (.iconst 1, 1) := by decide +kernel
theorem dL_told_319 : decode cL_told 319 = .ok (.iload 11, 2) := by decide +kernel
theorem dL_told_321 : decode cL_told 321 = .ok (.sipush 256, 3) := by decide +kernel
theorem dL_told_324 : decode cL_told 324 = .ok (.idiv, 1) := by decide +kernel
theorem dL_told_325 : decode cL_told 325 = .ok (.bipush 60, 2) := by decide +kernel
theorem dL_told_327 : decode cL_told 327 = .ok (.irem, 1) := by decide +kernel
theorem dL_told_328 : decode cL_told 328 = .ok (.iadd, 1) := by decide +kernel
theorem dL_told_329 : decode cL_told 329 = .ok (.istore 14, 2) := by decide +kernel
theorem dL_told_331 : decode cL_told 331 = .ok (.aload_n 0, 1) := by decide +kernel
theorem dL_told_332 : decode cL_told 332 = .ok (.aload_n 1, 1) := by decide +kernel
theorem dL_told_333 : decode cL_told 333 = .ok (.bipush 99, 2) := by decide +kernel
theorem dL_told_335 : decode cL_told 335 = .ok (.invokestatic 116, 3) := by decide +kernel
theorem dL_told_338 : decode cL_told 338 = .ok (.ifCond .eq 116, 3) := by decide +kernel
theorem dL_told_341 : decode cL_told 341 = .ok (.aload_n 0, 1) := by decide +kernel
theorem dL_told_342 : decode cL_told 342 = .ok (.aload_n 1, 1) := by decide +kernel
theorem dL_told_343 : decode cL_told 343 = .ok (.bipush 48, 2) := by decide +kernel
theorem dL_told_345 : decode cL_told 345 = .ok (.iload 12, 2) := by decide +kernel
theorem dL_told_347 : decode cL_told 347 = .ok (.iadd, 1) := by decide +kernel
theorem dL_told_348 : decode cL_told 348 = .ok (.invokestatic 116, 3) := by decide +kernel
theorem dL_told_351 : decode cL_told 351 = .ok (.ifCond .eq 103, 3) := by decide +kernel
theorem dL_told_354 : decode cL_told 354 = .ok (.aload_n 0, 1) := by decide +kernel
theorem dL_told_355 : decode cL_told 355 = .ok (.aload_n 1, 1) := by decide +kernel
theorem dL_told_356 : decode cL_told 356 = .ok (.bipush 48, 2) := by decide +kernel
theorem dL_told_358 : decode cL_told 358 = .ok (.iload 13, 2) := by decide +kernel
theorem dL_told_360 : decode cL_told 360 = .ok (.iadd, 1) := by decide +kernel
theorem dL_told_361 : decode cL_told 361 = .ok (.invokestatic 116, 3) := by decide +kernel
theorem dL_told_364 : decode cL_told 364 = .ok (.ifCond .eq 90, 3) := by decide +kernel
theorem dL_told_367 : decode cL_told 367 = .ok (.aload_n 0, 1) := by decide +kernel
theorem dL_told_368 : decode cL_told 368 = .ok (.aload_n 1, 1) := by decide +kernel
theorem dL_told_369 : decode cL_told 369 = .ok (.bipush 48, 2) := by decide +kernel
theorem dL_told_371 : decode cL_told 371 = .ok (.iload 14, 2) := by decide +kernel
theorem dL_told_373 : decode cL_told 373 = .ok (.bipush 10, 2) := by decide +kernel
theorem dL_told_375 : decode cL_told 375 = .ok (.idiv, 1) := by decide +kernel
theorem dL_told_376 : decode cL_told 376 = .ok (.iadd, 1) := by decide +kernel
theorem dL_told_377 : decode cL_told 377 = .ok (.invokestatic 116, 3) := by decide +kernel
theorem dL_told_380 : decode cL_told 380 = .ok (.ifCond .eq 74, 3) := by decide +kernel
theorem dL_told_383 : decode cL_told 383 = .ok (.aload_n 0, 1) := by decide +kernel
theorem dL_told_384 : decode cL_told 384 = .ok (.invokevirtual 120, 3) := by decide +kernel
theorem dL_told_387 : decode cL_told 387 = .ok (.iload 9, 2) := by decide +kernel
theorem dL_told_389 : decode cL_told 389 = .ok (.iconst 4, 1) := by decide +kernel
theorem dL_told_390 : decode cL_told 390 = .ok (.iadd, 1) := by decide +kernel
theorem dL_told_391 : decode cL_told 391 = .ok (.if_icmp .ne 63, 3) := by decide +kernel
theorem dL_told_394 : decode cL_told 394 = .ok (.aload_n 0, 1) := by decide +kernel
theorem dL_told_395 : decode cL_told 395 = .ok (.aload_n 1, 1) := by decide +kernel
theorem dL_told_396 : decode cL_told 396 = .ok (.bipush 48, 2) := by decide +kernel
theorem dL_told_398 : decode cL_told 398 = .ok (.iload 14, 2) := by decide +kernel
theorem dL_told_400 : decode cL_told 400 = .ok (.bipush 10, 2) := by decide +kernel
theorem dL_told_402 : decode cL_told 402 = .ok (.irem, 1) := by decide +kernel
theorem dL_told_403 : decode cL_told 403 = .ok (.iadd, 1) := by decide +kernel
theorem dL_told_404 : decode cL_told 404 = .ok (.invokestatic 116, 3) := by decide +kernel
theorem dL_told_407 : decode cL_told 407 = .ok (.ifCond .eq 47, 3) := by decide +kernel
theorem dL_told_410 : decode cL_told 410 = .ok (.aload_n 0, 1) := by decide +kernel
theorem dL_told_411 : decode cL_told 411 = .ok (.invokevirtual 120, 3) := by decide +kernel
theorem dL_told_414 : decode cL_told 414 = .ok (.iload 9, 2) := by decide +kernel
theorem dL_told_416 : decode cL_told 416 = .ok (.iconst 5, 1) := by decide +kernel
theorem dL_told_417 : decode cL_told 417 = .ok (.iadd, 1) := by decide +kernel
theorem dL_told_418 : decode cL_told 418 = .ok (.if_icmp .ne 36, 3) := by decide +kernel
theorem dL_told_421 : decode cL_told 421 = .ok (.aload_n 0, 1) := by decide +kernel
theorem dL_told_422 : decode cL_told 422 = .ok (.aload_n 1, 1) := by decide +kernel
theorem dL_told_423 : decode cL_told 423 = .ok (.bipush 49, 2) := by decide +kernel
theorem dL_told_425 : decode cL_told 425 = .ok (.iload 11, 2) := by decide +kernel
theorem dL_told_427 : decode cL_told 427 = .ok (.sipush 16384, 3) := by decide +kernel
theorem dL_told_430 : decode cL_told 430 = .ok (.idiv, 1) := by decide +kernel
theorem dL_told_431 : decode cL_told 431 = .ok (.bipush 9, 2) := by decide +kernel
theorem dL_told_433 : decode cL_told 433 = .ok (.irem, 1) := by decide +kernel
theorem dL_told_434 : decode cL_told 434 = .ok (.iadd, 1) := by decide +kernel
theorem dL_told_435 : decode cL_told 435 = .ok (.invokestatic 116, 3) := by decide +kernel
theorem dL_told_438 : decode cL_told 438 = .ok (.ifCond .eq 16, 3) := by decide +kernel
theorem dL_told_441 : decode cL_told 441 = .ok (.aload_n 0, 1) := by decide +kernel
theorem dL_told_442 : decode cL_told 442 = .ok (.invokevirtual 120, 3) := by decide +kernel
theorem dL_told_445 : decode cL_told 445 = .ok (.bipush (-9), 2) := by decide +kernel
theorem dL_told_447 : decode cL_told 447 = .ok (.if_icmp .ne 7, 3) := by decide +kernel
theorem dL_told_450 : decode cL_told 450 = .ok (.iconst 1, 1) := by decide +kernel
theorem dL_told_451 : decode cL_told 451 = .ok (.goto 4, 3) := by decide +kernel
theorem dL_told_454 : decode cL_told 454 = .ok (.iconst 0, 1) := by decide +kernel
theorem dL_told_455 : decode cL_told 455 = .ok (.istore 8, 2) := by decide +kernel
theorem dL_told_457 : decode cL_told 457 = .ok (.iinc 9 6, 3) := by decide +kernel
theorem dL_told_460 : decode cL_told 460 = .ok (.iinc 10 1, 3) := by decide +kernel
theorem dL_told_463 : decode cL_told 463 = .ok (.goto (-201), 3) := by decide +kernel
theorem dL_told_466 : decode cL_told 466 = .ok (.iload 8, 2) := by decide +kernel
theorem dL_told_468 : decode cL_told 468 = .ok (.ifCond .eq 114, 3) := by decide +kernel
theorem dL_told_471 : decode cL_told 471 = .ok (.aload_n 0, 1) := by decide +kernel
theorem dL_told_472 : decode cL_told 472 = .ok (.invokestatic 123, 3) := by decide +kernel
theorem dL_told_475 : decode cL_told 475 = .ok (.iload 6, 2) := by decide +kernel
theorem dL_told_477 : decode cL_told 477 = .ok (.if_icmp .ne 105, 3) := by decide +kernel
theorem dL_told_480 : decode cL_told 480 = .ok (.aload_n 1, 1) := by decide +kernel
theorem dL_told_481 : decode cL_told 481 = .ok (.invokestatic 123, 3) := by decide +kernel
theorem dL_told_484 : decode cL_told 484 = .ok (.iload 6, 2) := by decide +kernel
theorem dL_told_486 : decode cL_told 486 = .ok (.if_icmp .ne 96, 3) := by decide +kernel
theorem dL_told_489 : decode cL_told 489 = .ok (.aload_n 0, 1) := by decide +kernel
theorem dL_told_490 : decode cL_told 490 = .ok (.iconst 0, 1) := by decide +kernel
theorem dL_told_491 : decode cL_told 491 = .ok (.invokestatic 127, 3) := by decide +kernel
theorem dL_told_494 : decode cL_told 494 = .ok (.iload 5, 2) := by decide +kernel
theorem dL_told_496 : decode cL_told 496 = .ok (.if_icmp .ne 86, 3) := by decide +kernel
theorem dL_told_499 : decode cL_told 499 = .ok (.aload_n 0, 1) := by decide +kernel
theorem dL_told_500 : decode cL_told 500 = .ok (.iconst 2, 1) := by decide +kernel
theorem dL_told_501 : decode cL_told 501 = .ok (.invokestatic 127, 3) := by decide +kernel
theorem dL_told_504 : decode cL_told 504 = .ok (.iload 7, 2) := by decide +kernel
theorem dL_told_506 : decode cL_told 506 = .ok (.if_icmp .ne 76, 3) := by decide +kernel
theorem dL_told_509 : decode cL_told 509 = .ok (.aload_n 0, 1) := by decide +kernel
theorem dL_told_510 : decode cL_told 510 = .ok (.iconst 5, 1) := by decide +kernel
theorem dL_told_511 : decode cL_told 511 = .ok (.invokestatic 127, 3) := by decide +kernel
theorem dL_told_514 : decode cL_told 514 = .ok (.sipush (-400), 3) := by decide +kernel
theorem dL_told_517 : decode cL_told 517 = .ok (.if_icmp .ne 65, 3) := by decide +kernel
theorem dL_told_520 : decode cL_told 520 = .ok (.aload_n 0, 1) := by decide +kernel
theorem dL_told_521 : decode cL_told 521 = .ok (.iconst 3, 1) := by decide +kernel
theorem dL_told_522 : decode cL_told 522 = .ok (.iconst 0, 1) := by decide +kernel
theorem dL_told_523 : decode cL_told 523 = .ok (.invokestatic 130, 3) := by decide +kernel
theorem dL_told_526 : decode cL_told 526 = .ok (.bipush 100, 2) := by decide +kernel
theorem dL_told_528 : decode cL_told 528 = .ok (.if_icmp .ne 54, 3) := by decide +kernel
theorem dL_told_531 : decode cL_told 531 = .ok (.aload_n 0, 1) := by decide +kernel
theorem dL_told_532 : decode cL_told 532 = .ok (.invokestatic 134, 3) := by decide +kernel
theorem dL_told_535 : decode cL_told 535 = .ok (.ldc 18, 2) := by decide +kernel
theorem dL_told_537 : decode cL_told 537 = .ok (.if_icmp .ne 45, 3) := by decide +kernel
theorem dL_told_540 : decode cL_told 540 = .ok (.aload_n 1, 1) := by decide +kernel
theorem dL_told_541 : decode cL_told 541 = .ok (.iconst 1, 1) := by decide +kernel
theorem dL_told_542 : decode cL_told 542 = .ok (.invokestatic 137, 3) := by decide +kernel
theorem dL_told_545 : decode cL_told 545 = .ok (.ldc 18, 2) := by decide +kernel
theorem dL_told_547 : decode cL_told 547 = .ok (.if_icmp .ne 35, 3) := by decide +kernel
theorem dL_told_550 : decode cL_told 550 = .ok (.aload_n 0, 1) := by decide +kernel
theorem dL_told_551 : decode cL_told 551 = .ok (.aload_n 1, 1) := by decide +kernel
theorem dL_told_552 : decode cL_told 552 = .ok (.bipush 82, 2) := by decide +kernel
theorem dL_told_554 : decode cL_told 554 = .ok (.invokestatic 116, 3) := by decide +kernel
theorem dL_told_557 : decode cL_told 557 = .ok (.ifCond .eq 25, 3) := by decide +kernel
theorem dL_told_560 : decode cL_told 560 = .ok (.aload_n 0, 1) := by decide +kernel
theorem dL_told_561 : decode cL_told 561 = .ok (.invokevirtual 120, 3) := by decide +kernel
theorem dL_told_564 : decode cL_told 564 = .ok (.iload 9, 2) := by decide +kernel
theorem dL_told_566 : decode cL_told 566 = .ok (.if_icmp .ne 16, 3) := by decide +kernel
theorem dL_told_569 : decode cL_told 569 = .ok (.aload_n 0, 1) := by decide +kernel
theorem dL_told_570 : decode cL_told 570 = .ok (.invokestatic 123, 3) := by decide +kernel
theorem dL_told_573 : decode cL_told 573 = .ok (.ldc 18, 2) := by decide +kernel
theorem dL_told_575 : decode cL_told 575 = .ok (.if_icmp .ne 7, 3) := by decide +kernel
theorem dL_told_578 : decode cL_told 578 = .ok (.iconst 1, 1) := by decide +kernel
theorem dL_told_579 : decode cL_told 579 = .ok (.goto 4, 3) := by decide +kernel
theorem dL_told_582 : decode cL_told 582 = .ok (.iconst 0, 1) := by decide +kernel
theorem dL_told_583 : decode cL_told 583 = .ok (.ireturn, 1) := by decide +kernel
theorem dL_alike_0 : decode cL_alike 0 = .ok (.iconst 1, 1) := by decide +kernel
theorem dL_alike_1 : decode cL_alike 1 = .ok (.istore_n 2, 1) := by decide +kernel
theorem dL_alike_2 : decode cL_alike 2 = .ok (.iconst 0, 1) := by decide +kernel
theorem dL_alike_3 : decode cL_alike 3 = .ok (.istore_n 3, 1) := by decide +kernel
theorem dL_alike_4 : decode cL_alike 4 = .ok (.iload_n 3, 1) := by decide +kernel
theorem dL_alike_5 : decode cL_alike 5 = .ok (.bipush 11, 2) := by decide +kernel
theorem dL_alike_7 : decode cL_alike 7 = .ok (.if_icmp .ge 32, 3) := by decide +kernel
theorem dL_alike_10 : decode cL_alike 10 = .ok (.iload_n 2, 1) := by decide +kernel
theorem dL_alike_11 : decode cL_alike 11 = .ok (.ifCond .eq 20, 3) := by decide +kernel
theorem dL_alike_14 : decode cL_alike 14 = .ok (.aload_n 0, 1) := by decide +kernel
theorem dL_alike_15 : decode cL_alike 15 = .ok (.iload_n 3, 1) := by decide +kernel
theorem dL_alike_16 : decode cL_alike 16 = .ok (.invokestatic 127, 3) := by decide +kernel
theorem dL_alike_19 : decode cL_alike 19 = .ok (.aload_n 1, 1) := by decide +kernel
theorem dL_alike_20 : decode cL_alike 20 = .ok (.iload_n 3, 1) := by decide +kernel
theorem dL_alike_21 : decode cL_alike 21 = .ok (.invokestatic 127, 3) := by decide +kernel
theorem dL_alike_24 : decode cL_alike 24 = .ok (.if_icmp .ne 7, 3) := by decide +kernel
theorem dL_alike_27 : decode cL_alike 27 = .ok (.iconst 1, 1) := by decide +kernel
theorem dL_alike_28 : decode cL_alike 28 = .ok (.goto 4, 3) := by decide +kernel
theorem dL_alike_31 : decode cL_alike 31 = .ok (.iconst 0, 1) := by decide +kernel
theorem dL_alike_32 : decode cL_alike 32 = .ok (.istore_n 2, 1) := by decide +kernel
theorem dL_alike_33 : decode cL_alike 33 = .ok (.iinc 3 1, 3) := by decide +kernel
theorem dL_alike_36 : decode cL_alike 36 = .ok (.goto (-32), 3) := by decide +kernel
theorem dL_alike_39 : decode cL_alike 39 = .ok (.iconst 0, 1) := by decide +kernel
theorem dL_alike_40 : decode cL_alike 40 = .ok (.istore_n 3, 1) := by decide +kernel
theorem dL_alike_41 : decode cL_alike 41 = .ok (.iload_n 3, 1) := by decide +kernel
theorem dL_alike_42 : decode cL_alike 42 = .ok (.bipush 28, 2) := by decide +kernel
theorem dL_alike_44 : decode cL_alike 44 = .ok (.if_icmp .ge 83, 3) := by decide +kernel
theorem dL_alike_47 : decode cL_alike 47 = .ok (.iload_n 2, 1) := by decide +kernel
theorem dL_alike_48 : decode cL_alike 48 = .ok (.ifCond .eq 79, 3) := by decide +kernel
theorem dL_alike_51 : decode cL_alike 51 = .ok (.aload_n 0, 1) := by decide +kernel
theorem dL_alike_52 : decode cL_alike 52 = .ok (.iload_n 3, 1) := by decide +kernel
theorem dL_alike_53 : decode cL_alike 53 = .ok (.bipush 7, 2) := by decide +kernel
theorem dL_alike_55 : decode cL_alike 55 = .ok (.idiv, 1) := by decide +kernel
theorem dL_alike_56 : decode cL_alike 56 = .ok (.iload_n 3, 1) := by decide +kernel
theorem dL_alike_57 : decode cL_alike 57 = .ok (.bipush 7, 2) := by decide +kernel
theorem dL_alike_59 : decode cL_alike 59 = .ok (.irem, 1) := by decide +kernel
theorem dL_alike_60 : decode cL_alike 60 = .ok (.invokestatic 130, 3) := by decide +kernel
theorem dL_alike_63 : decode cL_alike 63 = .ok (.aload_n 1, 1) := by decide +kernel
theorem dL_alike_64 : decode cL_alike 64 = .ok (.iload_n 3, 1) := by decide +kernel
theorem dL_alike_65 : decode cL_alike 65 = .ok (.bipush 7, 2) := by decide +kernel
theorem dL_alike_67 : decode cL_alike 67 = .ok (.idiv, 1) := by decide +kernel
theorem dL_alike_68 : decode cL_alike 68 = .ok (.iload_n 3, 1) := by decide +kernel
theorem dL_alike_69 : decode cL_alike 69 = .ok (.bipush 7, 2) := by decide +kernel
theorem dL_alike_71 : decode cL_alike 71 = .ok (.irem, 1) := by decide +kernel
theorem dL_alike_72 : decode cL_alike 72 = .ok (.invokestatic 130, 3) := by decide +kernel
theorem dL_alike_75 : decode cL_alike 75 = .ok (.if_icmp .ne 44, 3) := by decide +kernel
theorem dL_alike_78 : decode cL_alike 78 = .ok (.aload_n 0, 1) := by decide +kernel
theorem dL_alike_79 : decode cL_alike 79 = .ok (.iload_n 3, 1) := by decide +kernel
theorem dL_alike_80 : decode cL_alike 80 = .ok (.bipush 7, 2) := by decide +kernel
theorem dL_alike_82 : decode cL_alike 82 = .ok (.idiv, 1) := by decide +kernel
theorem dL_alike_83 : decode cL_alike 83 = .ok (.iload_n 3, 1) := by decide +kernel
theorem dL_alike_84 : decode cL_alike 84 = .ok (.bipush 7, 2) := by decide +kernel
theorem dL_alike_86 : decode cL_alike 86 = .ok (.irem, 1) := by decide +kernel
theorem dL_alike_87 : decode cL_alike 87 = .ok (.iconst 2, 1) := by decide +kernel
theorem dL_alike_88 : decode cL_alike 88 = .ok (.idiv, 1) := by decide +kernel
theorem dL_alike_89 : decode cL_alike 89 = .ok (.iload_n 3, 1) := by decide +kernel
theorem dL_alike_90 : decode cL_alike 90 = .ok (.iconst 2, 1) := by decide +kernel
theorem dL_alike_91 : decode cL_alike 91 = .ok (.irem, 1) := by decide +kernel
theorem dL_alike_92 : decode cL_alike 92 = .ok (.invokestatic 140, 3) := by decide +kernel
theorem dL_alike_95 : decode cL_alike 95 = .ok (.aload_n 1, 1) := by decide +kernel
theorem dL_alike_96 : decode cL_alike 96 = .ok (.iload_n 3, 1) := by decide +kernel
theorem dL_alike_97 : decode cL_alike 97 = .ok (.bipush 7, 2) := by decide +kernel
theorem dL_alike_99 : decode cL_alike 99 = .ok (.idiv, 1) := by decide +kernel
theorem dL_alike_100 : decode cL_alike 100 = .ok (.iload_n 3, 1) := by decide +kernel
theorem dL_alike_101 : decode cL_alike 101 = .ok (.bipush 7, 2) := by decide +kernel
theorem dL_alike_103 : decode cL_alike 103 = .ok (.irem, 1) := by decide +kernel
theorem dL_alike_104 : decode cL_alike 104 = .ok (.iconst 2, 1) := by decide +kernel
theorem dL_alike_105 : decode cL_alike 105 = .ok (.idiv, 1) := by decide +kernel
theorem dL_alike_106 : decode cL_alike 106 = .ok (.iload_n 3, 1) := by decide +kernel
theorem dL_alike_107 : decode cL_alike 107 = .ok (.iconst 2, 1) := by decide +kernel
theorem dL_alike_108 : decode cL_alike 108 = .ok (.irem, 1) := by decide +kernel
theorem dL_alike_109 : decode cL_alike 109 = .ok (.invokestatic 140, 3) := by decide +kernel
theorem dL_alike_112 : decode cL_alike 112 = .ok (.if_icmp .ne 7, 3) := by decide +kernel
theorem dL_alike_115 : decode cL_alike 115 = .ok (.iconst 1, 1) := by decide +kernel
theorem dL_alike_116 : decode cL_alike 116 = .ok (.goto 4, 3) := by decide +kernel
theorem dL_alike_119 : decode cL_alike 119 = .ok (.iconst 0, 1) := by decide +kernel
theorem dL_alike_120 : decode cL_alike 120 = .ok (.istore_n 2, 1) := by decide +kernel
theorem dL_alike_121 : decode cL_alike 121 = .ok (.iinc 3 1, 3) := by decide +kernel
theorem dL_alike_124 : decode cL_alike 124 = .ok (.goto (-83), 3) := by decide +kernel
theorem dL_alike_127 : decode cL_alike 127 = .ok (.iconst 0, 1) := by decide +kernel
theorem dL_alike_128 : decode cL_alike 128 = .ok (.istore_n 3, 1) := by decide +kernel
theorem dL_alike_129 : decode cL_alike 129 = .ok (.iload_n 3, 1) := by decide +kernel
theorem dL_alike_130 : decode cL_alike 130 = .ok (.iconst 4, 1) := by decide +kernel
theorem dL_alike_131 : decode cL_alike 131 = .ok (.aload_n 0, 1) := by decide +kernel
theorem dL_alike_132 : decode cL_alike 132 = .ok (.iconst 1, 1) := by decide +kernel
theorem dL_alike_133 : decode cL_alike 133 = .ok (.invokestatic 127, 3) := by decide +kernel
theorem dL_alike_136 : decode cL_alike 136 = .ok (.imul, 1) := by decide +kernel
theorem dL_alike_137 : decode cL_alike 137 = .ok (.if_icmp .ge 42, 3) := by decide +kernel
theorem dL_alike_140 : decode cL_alike 140 = .ok (.iload_n 2, 1) := by decide +kernel
theorem dL_alike_141 : decode cL_alike 141 = .ok (.ifCond .eq 38, 3) := by decide +kernel
theorem dL_alike_144 : decode cL_alike 144 = .ok (.aload_n 0, 1) := by decide +kernel
theorem dL_alike_145 : decode cL_alike 145 = .ok (.iload_n 3, 1) := by decide +kernel
theorem dL_alike_146 : decode cL_alike 146 = .ok (.iconst 4, 1) := by decide +kernel
theorem dL_alike_147 : decode cL_alike 147 = .ok (.idiv, 1) := by decide +kernel
theorem dL_alike_148 : decode cL_alike 148 = .ok (.iload_n 3, 1) := by decide +kernel
theorem dL_alike_149 : decode cL_alike 149 = .ok (.iconst 4, 1) := by decide +kernel
theorem dL_alike_150 : decode cL_alike 150 = .ok (.irem, 1) := by decide +kernel
theorem dL_alike_151 : decode cL_alike 151 = .ok (.invokestatic 144, 3) := by decide +kernel
theorem dL_alike_154 : decode cL_alike 154 = .ok (.aload_n 1, 1) := by decide +kernel
theorem dL_alike_155 : decode cL_alike 155 = .ok (.iload_n 3, 1) := by decide +kernel
theorem dL_alike_156 : decode cL_alike 156 = .ok (.iconst 4, 1) := by decide +kernel
theorem dL_alike_157 : decode cL_alike 157 = .ok (.idiv, 1) := by decide +kernel
theorem dL_alike_158 : decode cL_alike 158 = .ok (.iload_n 3, 1) := by decide +kernel
theorem dL_alike_159 : decode cL_alike 159 = .ok (.iconst 4, 1) := by decide +kernel
theorem dL_alike_160 : decode cL_alike 160 = .ok (.irem, 1) := by decide +kernel
theorem dL_alike_161 : decode cL_alike 161 = .ok (.invokestatic 144, 3) := by decide +kernel
theorem dL_alike_164 : decode cL_alike 164 = .ok (.if_icmp .ne 7, 3) := by decide +kernel
theorem dL_alike_167 : decode cL_alike 167 = .ok (.iconst 1, 1) := by decide +kernel
theorem dL_alike_168 : decode cL_alike 168 = .ok (.goto 4, 3) := by decide +kernel
theorem dL_alike_171 : decode cL_alike 171 = .ok (.iconst 0, 1) := by decide +kernel
theorem dL_alike_172 : decode cL_alike 172 = .ok (.istore_n 2, 1) := by decide +kernel
theorem dL_alike_173 : decode cL_alike 173 = .ok (.iinc 3 1, 3) := by decide +kernel
theorem dL_alike_176 : decode cL_alike 176 = .ok (.goto (-47), 3) := by decide +kernel
theorem dL_alike_179 : decode cL_alike 179 = .ok (.iconst 0, 1) := by decide +kernel
theorem dL_alike_180 : decode cL_alike 180 = .ok (.istore_n 3, 1) := by decide +kernel
theorem dL_alike_181 : decode cL_alike 181 = .ok (.iload_n 3, 1) := by decide +kernel
theorem dL_alike_182 : decode cL_alike 182 = .ok (.bipush 6, 2) := by decide +kernel
theorem dL_alike_184 : decode cL_alike 184 = .ok (.aload_n 0, 1) := by decide +kernel
theorem dL_alike_185 : decode cL_alike 185 = .ok (.iconst 2, 1) := by decide +kernel
theorem dL_alike_186 : decode cL_alike 186 = .ok (.invokestatic 127, 3) := by decide +kernel
theorem dL_alike_189 : decode cL_alike 189 = .ok (.imul, 1) := by decide +kernel
theorem dL_alike_190 : decode cL_alike 190 = .ok (.if_icmp .ge 46, 3) := by decide +kernel
theorem dL_alike_193 : decode cL_alike 193 = .ok (.iload_n 2, 1) := by decide +kernel
theorem dL_alike_194 : decode cL_alike 194 = .ok (.ifCond .eq 42, 3) := by decide +kernel
theorem dL_alike_197 : decode cL_alike 197 = .ok (.aload_n 0, 1) := by decide +kernel
theorem dL_alike_198 : decode cL_alike 198 = .ok (.iload_n 3, 1) := by decide +kernel
theorem dL_alike_199 : decode cL_alike 199 = .ok (.bipush 6, 2) := by decide +kernel
theorem dL_alike_201 : decode cL_alike 201 = .ok (.idiv, 1) := by decide +kernel
theorem dL_alike_202 : decode cL_alike 202 = .ok (.iload_n 3, 1) := by decide +kernel
theorem dL_alike_203 : decode cL_alike 203 = .ok (.bipush 6, 2) := by decide +kernel
theorem dL_alike_205 : decode cL_alike 205 = .ok (.irem, 1) := by decide +kernel
theorem dL_alike_206 : decode cL_alike 206 = .ok (.invokestatic 147, 3) := by decide +kernel
theorem dL_alike_209 : decode cL_alike 209 = .ok (.aload_n 1, 1) := by decide +kernel
theorem dL_alike_210 : decode cL_alike 210 = .ok (.iload_n 3, 1) := by decide +kernel
theorem dL_alike_211 : decode cL_alike 211 = .ok (.bipush 6, 2) := by decide +kernel
theorem dL_alike_213 : decode cL_alike 213 = .ok (.idiv, 1) := by decide +kernel
theorem dL_alike_214 : decode cL_alike 214 = .ok (.iload_n 3, 1) := by decide +kernel
theorem dL_alike_215 : decode cL_alike 215 = .ok (.bipush 6, 2) := by decide +kernel
theorem dL_alike_217 : decode cL_alike 217 = .ok (.irem, 1) := by decide +kernel
theorem dL_alike_218 : decode cL_alike 218 = .ok (.invokestatic 147, 3) := by decide +kernel
theorem dL_alike_221 : decode cL_alike 221 = .ok (.if_icmp .ne 7, 3) := by decide +kernel
theorem dL_alike_224 : decode cL_alike 224 = .ok (.iconst 1, 1) := by decide +kernel
theorem dL_alike_225 : decode cL_alike 225 = .ok (.goto 4, 3) := by decide +kernel
theorem dL_alike_228 : decode cL_alike 228 = .ok (.iconst 0, 1) := by decide +kernel
theorem dL_alike_229 : decode cL_alike 229 = .ok (.istore_n 2, 1) := by decide +kernel
theorem dL_alike_230 : decode cL_alike 230 = .ok (.iinc 3 1, 3) := by decide +kernel
theorem dL_alike_233 : decode cL_alike 233 = .ok (.goto (-52), 3) := by decide +kernel
theorem dL_alike_236 : decode cL_alike 236 = .ok (.iload_n 2, 1) := by decide +kernel
theorem dL_alike_237 : decode cL_alike 237 = .ok (.ireturn, 1) := by decide +kernel
theorem dL_refuses_0 : decode cL_refuses 0 = .ok (.aload_n 0, 1) := by decide +kernel
theorem dL_refuses_1 : decode cL_refuses 1 = .ok (.iconst 0, 1) := by decide +kernel
theorem dL_refuses_2 : decode cL_refuses 2 = .ok (.invokestatic 127, 3) := by decide +kernel
theorem dL_refuses_5 : decode cL_refuses 5 = .ok (.istore_n 1, 1) := by decide +kernel
theorem dL_refuses_6 : decode cL_refuses 6 = .ok (.aload_n 0, 1) := by decide +kernel
theorem dL_refuses_7 : decode cL_refuses 7 = .ok (.iconst 1, 1) := by decide +kernel
theorem dL_refuses_8 : decode cL_refuses 8 = .ok (.invokestatic 127, 3) := by decide +kernel
theorem dL_refuses_11 : decode cL_refuses 11 = .ok (.istore_n 2, 1) := by decide +kernel
theorem dL_refuses_12 : decode cL_refuses 12 = .ok (.aload_n 0, 1) := by decide +kernel
theorem dL_refuses_13 : decode cL_refuses 13 = .ok (.iconst 2, 1) := by decide +kernel
theorem dL_refuses_14 : decode cL_refuses 14 = .ok (.invokestatic 127, 3) := by decide +kernel
theorem dL_refuses_17 : decode cL_refuses 17 = .ok (.istore_n 3, 1) := by decide +kernel
theorem dL_refuses_18 : decode cL_refuses 18 = .ok (.aload_n 0, 1) := by decide +kernel
theorem dL_refuses_19 : decode cL_refuses 19 = .ok (.iconst 0, 1) := by decide +kernel
theorem dL_refuses_20 : decode cL_refuses 20 = .ok (.iconst 2, 1) := by decide +kernel
theorem dL_refuses_21 : decode cL_refuses 21 = .ok (.invokestatic 130, 3) := by decide +kernel
theorem dL_refuses_24 : decode cL_refuses 24 = .ok (.istore 4, 2) := by decide +kernel
theorem dL_refuses_26 : decode cL_refuses 26 = .ok (.aload_n 0, 1) := by decide +kernel
theorem dL_refuses_27 : decode cL_refuses 27 = .ok (.bipush 11, 2) := by decide +kernel
theorem dL_refuses_29 : decode cL_refuses 29 = .ok (.invokestatic 127, 3) := by decide +kernel
theorem dL_refuses_32 : decode cL_refuses 32 = .ok (.ldc 15, 2) := by decide +kernel
theorem dL_refuses_34 : decode cL_refuses 34 = .ok (.if_icmp .ne 342, 3) := by decide +kernel
theorem dL_refuses_37 : decode cL_refuses 37 = .ok (.aload_n 0, 1) := by decide +kernel
theorem dL_refuses_38 : decode cL_refuses 38 = .ok (.iload_n 2, 1) := by decide +kernel
theorem dL_refuses_39 : decode cL_refuses 39 = .ok (.iconst 4, 1) := by decide +kernel
theorem dL_refuses_40 : decode cL_refuses 40 = .ok (.invokestatic 144, 3) := by decide +kernel
theorem dL_refuses_43 : decode cL_refuses 43 = .ok (.ldc 32, 2) := by decide +kernel
theorem dL_refuses_45 : decode cL_refuses 45 = .ok (.if_icmp .ne 331, 3) := by decide +kernel
theorem dL_refuses_48 : decode cL_refuses 48 = .ok (.iload_n 2, 1) := by decide +kernel
theorem dL_refuses_49 : decode cL_refuses 49 = .ok (.ifCond .eq 14, 3) := by decide +kernel
theorem dL_refuses_52 : decode cL_refuses 52 = .ok (.aload_n 0, 1) := by decide +kernel
theorem dL_refuses_53 : decode cL_refuses 53 = .ok (.iconst 0, 1) := by decide +kernel
theorem dL_refuses_54 : decode cL_refuses 54 = .ok (.iconst 4, 1) := by decide +kernel
theorem dL_refuses_55 : decode cL_refuses 55 = .ok (.invokestatic 144, 3) := by decide +kernel
theorem dL_refuses_58 : decode cL_refuses 58 = .ok (.ldc 15, 2) := by decide +kernel
theorem dL_refuses_60 : decode cL_refuses 60 = .ok (.if_icmp .ne 316, 3) := by decide +kernel
theorem dL_refuses_63 : decode cL_refuses 63 = .ok (.aload_n 0, 1) := by decide +kernel
theorem dL_refuses_64 : decode cL_refuses 64 = .ok (.iconst 4, 1) := by decide +kernel
theorem dL_refuses_65 : decode cL_refuses 65 = .ok (.bipush 7, 2) := by decide +kernel
theorem dL_refuses_67 : decode cL_refuses 67 = .ok (.invokestatic 130, 3) := by decide +kernel
theorem dL_refuses_70 : decode cL_refuses 70 = .ok (.ldc 32, 2) := by decide +kernel
theorem dL_refuses_72 : decode cL_refuses 72 = .ok (.if_icmp .ne 304, 3) := by decide +kernel
theorem dL_refuses_75 : decode cL_refuses 75 = .ok (.aload_n 0, 1) := by decide +kernel
theorem dL_refuses_76 : decode cL_refuses 76 = .ok (.iconst 0, 1) := by decide +kernel
theorem dL_refuses_77 : decode cL_refuses 77 = .ok (.bipush 7, 2) := by decide +kernel
theorem dL_refuses_79 : decode cL_refuses 79 = .ok (.invokestatic 130, 3) := by decide +kernel
theorem dL_refuses_82 : decode cL_refuses 82 = .ok (.ldc 15, 2) := by decide +kernel
theorem dL_refuses_84 : decode cL_refuses 84 = .ok (.if_icmp .ne 292, 3) := by decide +kernel
theorem dL_refuses_87 : decode cL_refuses 87 = .ok (.aload_n 0, 1) := by decide +kernel
theorem dL_refuses_88 : decode cL_refuses 88 = .ok (.iconst 0, 1) := by decide +kernel
theorem dL_refuses_89 : decode cL_refuses 89 = .ok (.iload 4, 2) := by decide +kernel
theorem dL_refuses_91 : decode cL_refuses 91 = .ok (.iconst 2, 1) := by decide +kernel
theorem dL_refuses_92 : decode cL_refuses 92 = .ok (.invokestatic 140, 3) := by decide +kernel
theorem dL_refuses_95 : decode cL_refuses 95 = .ok (.ldc 32, 2) := by decide +kernel
theorem dL_refuses_97 : decode cL_refuses 97 = .ok (.if_icmp .ne 279, 3) := by decide +kernel
theorem dL_refuses_100 : decode cL_refuses 100 = .ok (.iload 4, 2) := by decide +kernel
theorem dL_refuses_102 : decode cL_refuses 102 = .ok (.ifCond .eq 15, 3) := by decide +kernel
theorem dL_refuses_105 : decode cL_refuses 105 = .ok (.aload_n 0, 1) := by decide +kernel
theorem dL_refuses_106 : decode cL_refuses 106 = .ok (.iconst 0, 1) := by decide +kernel
theorem dL_refuses_107 : decode cL_refuses 107 = .ok (.iconst 0, 1) := by decide +kernel
theorem dL_refuses_108 : decode cL_refuses 108 = .ok (.iconst 2, 1) := by decide +kernel
theorem dL_refuses_109 : decode cL_refuses 109 = .ok (.invokestatic 140, 3) := by decide +kernel
theorem dL_refuses_112 : decode cL_refuses 112 = .ok (.ldc 15, 2) := by decide +kernel
theorem dL_refuses_114 : decode cL_refuses 114 = .ok (.if_icmp .ne 262, 3) := by decide +kernel
theorem dL_refuses_117 : decode cL_refuses 117 = .ok (.aload_n 0, 1) := by decide +kernel
theorem dL_refuses_118 : decode cL_refuses 118 = .ok (.iload_n 3, 1) := by decide +kernel
theorem dL_refuses_119 : decode cL_refuses 119 = .ok (.bipush 6, 2) := by decide +kernel
theorem dL_refuses_121 : decode cL_refuses 121 = .ok (.invokestatic 147, 3) := by decide +kernel
theorem dL_refuses_124 : decode cL_refuses 124 = .ok (.ldc 32, 2) := by decide +kernel
theorem dL_refuses_126 : decode cL_refuses 126 = .ok (.if_icmp .ne 250, 3) := by decide +kernel
theorem dL_refuses_129 : decode cL_refuses 129 = .ok (.iload_n 3, 1) := by decide +kernel
theorem dL_refuses_130 : decode cL_refuses 130 = .ok (.ifCond .eq 15, 3) := by decide +kernel
theorem dL_refuses_133 : decode cL_refuses 133 = .ok (.aload_n 0, 1) := by decide +kernel
theorem dL_refuses_134 : decode cL_refuses 134 = .ok (.iconst 0, 1) := by decide +kernel
theorem dL_refuses_135 : decode cL_refuses 135 = .ok (.bipush 6, 2) := by decide +kernel
theorem dL_refuses_137 : decode cL_refuses 137 = .ok (.invokestatic 147, 3) := by decide +kernel
theorem dL_refuses_140 : decode cL_refuses 140 = .ok (.ldc 15, 2) := by decide +kernel
theorem dL_refuses_142 : decode cL_refuses 142 = .ok (.if_icmp .ne 234, 3) := by decide +kernel
theorem dL_refuses_145 : decode cL_refuses 145 = .ok (.aload_n 0, 1) := by decide +kernel
theorem dL_refuses_146 : decode cL_refuses 146 = .ok (.iconst 4, 1) := by decide +kernel
theorem dL_refuses_147 : decode cL_refuses 147 = .ok (.iconst 0, 1) := by decide +kernel
theorem dL_refuses_148 : decode cL_refuses 148 = .ok (.invokestatic 150, 3) := by decide +kernel
theorem dL_refuses_151 : decode cL_refuses 151 = .ok (.ldc 32, 2) := by decide +kernel
theorem dL_refuses_153 : decode cL_refuses 153 = .ok (.if_icmp .ne 223, 3) := by decide +kernel
theorem dL_refuses_156 : decode cL_refuses 156 = .ok (.aload_n 0, 1) := by decide +kernel
theorem dL_refuses_157 : decode cL_refuses 157 = .ok (.iconst 0, 1) := by decide +kernel
theorem dL_refuses_158 : decode cL_refuses 158 = .ok (.iload_n 2, 1) := by decide +kernel
theorem dL_refuses_159 : decode cL_refuses 159 = .ok (.invokestatic 150, 3) := by decide +kernel
theorem dL_refuses_162 : decode cL_refuses 162 = .ok (.ldc 32, 2) := by decide +kernel
theorem dL_refuses_164 : decode cL_refuses 164 = .ok (.if_icmp .ne 212, 3) := by decide +kernel
theorem dL_refuses_167 : decode cL_refuses 167 = .ok (.aload_n 0, 1) := by decide +kernel
theorem dL_refuses_168 : decode cL_refuses 168 = .ok (.iconst 4, 1) := by decide +kernel
theorem dL_refuses_169 : decode cL_refuses 169 = .ok (.iconst 0, 1) := by decide +kernel
theorem dL_refuses_170 : decode cL_refuses 170 = .ok (.invokestatic 153, 3) := by decide +kernel
theorem dL_refuses_173 : decode cL_refuses 173 = .ok (.ldc 32, 2) := by decide +kernel
theorem dL_refuses_175 : decode cL_refuses 175 = .ok (.if_icmp .ne 201, 3) := by decide +kernel
theorem dL_refuses_178 : decode cL_refuses 178 = .ok (.aload_n 0, 1) := by decide +kernel
theorem dL_refuses_179 : decode cL_refuses 179 = .ok (.iconst 0, 1) := by decide +kernel
theorem dL_refuses_180 : decode cL_refuses 180 = .ok (.iconst 0, 1) := by decide +kernel
theorem dL_refuses_181 : decode cL_refuses 181 = .ok (.invokestatic 153, 3) := by decide +kernel
theorem dL_refuses_184 : decode cL_refuses 184 = .ok (.ldc 15, 2) := by decide +kernel
theorem dL_refuses_186 : decode cL_refuses 186 = .ok (.if_icmp .ne 190, 3) := by decide +kernel
theorem dL_refuses_189 : decode cL_refuses 189 = .ok (.aload_n 0, 1) := by decide +kernel
theorem dL_refuses_190 : decode cL_refuses 190 = .ok (.iconst 0, 1) := by decide +kernel
theorem dL_refuses_191 : decode cL_refuses 191 = .ok (.bipush 7, 2) := by decide +kernel
theorem dL_refuses_193 : decode cL_refuses 193 = .ok (.invokestatic 153, 3) := by decide +kernel
theorem dL_refuses_196 : decode cL_refuses 196 = .ok (.ldc 15, 2) := by decide +kernel
theorem dL_refuses_198 : decode cL_refuses 198 = .ok (.if_icmp .ne 178, 3) := by decide +kernel
theorem dL_refuses_201 : decode cL_refuses 201 = .ok (.aload_n 0, 1) := by decide +kernel
theorem dL_refuses_202 : decode cL_refuses 202 = .ok (.iconst 3, 1) := by decide +kernel
theorem dL_refuses_203 : decode cL_refuses 203 = .ok (.invokestatic 127, 3) := by decide +kernel
theorem dL_refuses_206 : decode cL_refuses 206 = .ok (.iconst 3, 1) := by decide +kernel
theorem dL_refuses_207 : decode cL_refuses 207 = .ok (.if_icmp .gt 15, 3) := by decide +kernel
theorem dL_refuses_210 : decode cL_refuses 210 = .ok (.aload_n 0, 1) := by decide +kernel
theorem dL_refuses_211 : decode cL_refuses 211 = .ok (.iconst 0, 1) := by decide +kernel
theorem dL_refuses_212 : decode cL_refuses 212 = .ok (.bipush 6, 2) := by decide +kernel
theorem dL_refuses_214 : decode cL_refuses 214 = .ok (.invokestatic 153, 3) := by decide +kernel
theorem dL_refuses_217 : decode cL_refuses 217 = .ok (.ldc 18, 2) := by decide +kernel
theorem dL_refuses_219 : decode cL_refuses 219 = .ok (.if_icmp .ne 157, 3) := by decide +kernel
theorem dL_refuses_222 : decode cL_refuses 222 = .ok (.iload 4, 2) := by decide +kernel
theorem dL_refuses_224 : decode cL_refuses 224 = .ok (.iconst 4, 1) := by decide +kernel
theorem dL_refuses_225 : decode cL_refuses 225 = .ok (.if_icmp .lt 18, 3) := by decide +kernel
theorem dL_refuses_228 : decode cL_refuses 228 = .ok (.aload_n 0, 1) := by decide +kernel
theorem dL_refuses_229 : decode cL_refuses 229 = .ok (.iconst 0, 1) := by decide +kernel
theorem dL_refuses_230 : decode cL_refuses 230 = .ok (.aload_n 0, 1) := by decide +kernel
theorem dL_refuses_231 : decode cL_refuses 231 = .ok (.iconst 3, 1) := by decide +kernel
theorem dL_refuses_232 : decode cL_refuses 232 = .ok (.invokestatic 127, 3) := by decide +kernel
theorem dL_refuses_235 : decode cL_refuses 235 = .ok (.invokestatic 153, 3) := by decide +kernel
theorem dL_refuses_238 : decode cL_refuses 238 = .ok (.ldc 18, 2) := by decide +kernel
theorem dL_refuses_240 : decode cL_refuses 240 = .ok (.if_icmp .ne 136, 3) := by decide +kernel
theorem dL_refuses_243 : decode cL_refuses 243 = .ok (.aload_n 0, 1) := by decide +kernel
theorem dL_refuses_244 : decode cL_refuses 244 = .ok (.iconst (-1), 1) := by decide +kernel
theorem dL_refuses_245 : decode cL_refuses 245 = .ok (.bipush 10, 2) := by decide +kernel
theorem dL_refuses_247 : decode cL_refuses 247 = .ok (.invokestatic 156, 3) := by decide +kernel
theorem dL_refuses_250 : decode cL_refuses 250 = .ok (.ldc 32, 2) := by decide +kernel
theorem dL_refuses_252 : decode cL_refuses 252 = .ok (.if_icmp .ne 124, 3) := by decide +kernel
theorem dL_refuses_255 : decode cL_refuses 255 = .ok (.aload_n 0, 1) := by decide +kernel
theorem dL_refuses_256 : decode cL_refuses 256 = .ok (.iconst 0, 1) := by decide +kernel
theorem dL_refuses_257 : decode cL_refuses 257 = .ok (.bipush 10, 2) := by decide +kernel
theorem dL_refuses_259 : decode cL_refuses 259 = .ok (.invokestatic 156, 3) := by decide +kernel
theorem dL_refuses_262 : decode cL_refuses 262 = .ok (.ldc 15, 2) := by decide +kernel
theorem dL_refuses_264 : decode cL_refuses 264 = .ok (.if_icmp .ne 112, 3) := by decide +kernel
theorem dL_refuses_267 : decode cL_refuses 267 = .ok (.aload_n 0, 1) := by decide +kernel
theorem dL_refuses_268 : decode cL_refuses 268 = .ok (.iload_n 1, 1) := by decide +kernel
theorem dL_refuses_269 : decode cL_refuses 269 = .ok (.iconst 0, 1) := by decide +kernel
theorem dL_refuses_270 : decode cL_refuses 270 = .ok (.iconst 0, 1) := by decide +kernel
theorem dL_refuses_271 : decode cL_refuses 271 = .ok (.iconst 0, 1) := by decide +kernel
theorem dL_refuses_272 : decode cL_refuses 272 = .ok (.invokestatic 159, 3) := by decide +kernel
theorem dL_refuses_275 : decode cL_refuses 275 = .ok (.ldc 32, 2) := by decide +kernel
theorem dL_refuses_277 : decode cL_refuses 277 = .ok (.if_icmp .ne 99, 3) := by decide +kernel
theorem dL_refuses_280 : decode cL_refuses 280 = .ok (.aload_n 0, 1) := by decide +kernel
theorem dL_refuses_281 : decode cL_refuses 281 = .ok (.iconst 0, 1) := by decide +kernel
theorem dL_refuses_282 : decode cL_refuses 282 = .ok (.iconst 0, 1) := by decide +kernel
theorem dL_refuses_283 : decode cL_refuses 283 = .ok (.iconst 1, 1) := by decide +kernel
theorem dL_refuses_284 : decode cL_refuses 284 = .ok (.iconst 1, 1) := by decide +kernel
theorem dL_refuses_285 : decode cL_refuses 285 = .ok (.invokestatic 159, 3) := by decide +kernel
theorem dL_refuses_288 : decode cL_refuses 288 = .ok (.ldc 15, 2) := by decide +kernel
theorem dL_refuses_290 : decode cL_refuses 290 = .ok (.if_icmp .ne 86, 3) := by decide +kernel
theorem dL_refuses_293 : decode cL_refuses 293 = .ok (.aload_n 0, 1) := by decide +kernel
theorem dL_refuses_294 : decode cL_refuses 294 = .ok (.iconst 0, 1) := by decide +kernel
theorem dL_refuses_295 : decode cL_refuses 295 = .ok (.iconst 1, 1) := by decide +kernel
theorem dL_refuses_296 : decode cL_refuses 296 = .ok (.iconst 0, 1) := by decide +kernel
theorem dL_refuses_297 : decode cL_refuses 297 = .ok (.iconst 1, 1) := by decide +kernel
theorem dL_refuses_298 : decode cL_refuses 298 = .ok (.invokestatic 159, 3) := by decide +kernel
theorem dL_refuses_301 : decode cL_refuses 301 = .ok (.ldc 15, 2) := by decide +kernel
theorem dL_refuses_303 : decode cL_refuses 303 = .ok (.if_icmp .ne 73, 3) := by decide +kernel
theorem dL_refuses_306 : decode cL_refuses 306 = .ok (.aload_n 0, 1) := by decide +kernel
theorem dL_refuses_307 : decode cL_refuses 307 = .ok (.iconst 0, 1) := by decide +kernel
theorem dL_refuses_308 : decode cL_refuses 308 = .ok (.iconst 1, 1) := by decide +kernel
theorem dL_refuses_309 : decode cL_refuses 309 = .ok (.iconst 1, 1) := by decide +kernel
theorem dL_refuses_310 : decode cL_refuses 310 = .ok (.bipush 10, 2) := by decide +kernel
theorem dL_refuses_312 : decode cL_refuses 312 = .ok (.invokestatic 159, 3) := by decide +kernel
theorem dL_refuses_315 : decode cL_refuses 315 = .ok (.ldc 15, 2) := by decide +kernel
theorem dL_refuses_317 : decode cL_refuses 317 = .ok (.if_icmp .ne 59, 3) := by decide +kernel
theorem dL_refuses_320 : decode cL_refuses 320 = .ok (.iload_n 3, 1) := by decide +kernel
theorem dL_refuses_321 : decode cL_refuses 321 = .ok (.bipush 8, 2) := by decide +kernel
theorem dL_refuses_323 : decode cL_refuses 323 = .ok (.if_icmp .lt 16, 3) := by decide +kernel
theorem dL_refuses_326 : decode cL_refuses 326 = .ok (.aload_n 0, 1) := by decide +kernel
theorem dL_refuses_327 : decode cL_refuses 327 = .ok (.iconst 0, 1) := by decide +kernel
theorem dL_refuses_328 : decode cL_refuses 328 = .ok (.iconst 1, 1) := by decide +kernel
theorem dL_refuses_329 : decode cL_refuses 329 = .ok (.iconst 1, 1) := by decide +kernel
theorem dL_refuses_330 : decode cL_refuses 330 = .ok (.iconst 1, 1) := by decide +kernel
theorem dL_refuses_331 : decode cL_refuses 331 = .ok (.invokestatic 159, 3) := by decide +kernel
theorem dL_refuses_334 : decode cL_refuses 334 = .ok (.ldc 18, 2) := by decide +kernel
theorem dL_refuses_336 : decode cL_refuses 336 = .ok (.if_icmp .ne 40, 3) := by decide +kernel
theorem dL_refuses_339 : decode cL_refuses 339 = .ok (.aload_n 0, 1) := by decide +kernel
theorem dL_refuses_340 : decode cL_refuses 340 = .ok (.iconst 4, 1) := by decide +kernel
theorem dL_refuses_341 : decode cL_refuses 341 = .ok (.iconst 0, 1) := by decide +kernel
theorem dL_refuses_342 : decode cL_refuses 342 = .ok (.invokestatic 163, 3) := by decide +kernel
theorem dL_refuses_345 : decode cL_refuses 345 = .ok (.ldc 32, 2) := by decide +kernel
theorem dL_refuses_347 : decode cL_refuses 347 = .ok (.if_icmp .ne 29, 3) := by decide +kernel
theorem dL_refuses_350 : decode cL_refuses 350 = .ok (.aload_n 0, 1) := by decide +kernel
theorem dL_refuses_351 : decode cL_refuses 351 = .ok (.iconst 0, 1) := by decide +kernel
theorem dL_refuses_352 : decode cL_refuses 352 = .ok (.iload_n 3, 1) := by decide +kernel
theorem dL_refuses_353 : decode cL_refuses 353 = .ok (.invokestatic 163, 3) := by decide +kernel
theorem dL_refuses_356 : decode cL_refuses 356 = .ok (.ldc 32, 2) := by decide +kernel
theorem dL_refuses_358 : decode cL_refuses 358 = .ok (.if_icmp .ne 18, 3) := by decide +kernel
theorem dL_refuses_361 : decode cL_refuses 361 = .ok (.aload_n 0, 1) := by decide +kernel
theorem dL_refuses_362 : decode cL_refuses 362 = .ok (.iload_n 3, 1) := by decide +kernel
theorem dL_refuses_363 : decode cL_refuses 363 = .ok (.iconst 0, 1) := by decide +kernel
theorem dL_refuses_364 : decode cL_refuses 364 = .ok (.invokestatic 166, 3) := by decide +kernel
theorem dL_refuses_367 : decode cL_refuses 367 = .ok (.ldc 32, 2) := by decide +kernel
theorem dL_refuses_369 : decode cL_refuses 369 = .ok (.if_icmp .ne 7, 3) := by decide +kernel
theorem dL_refuses_372 : decode cL_refuses 372 = .ok (.iconst 1, 1) := by decide +kernel
theorem dL_refuses_373 : decode cL_refuses 373 = .ok (.goto 4, 3) := by decide +kernel
theorem dL_refuses_376 : decode cL_refuses 376 = .ok (.iconst 0, 1) := by decide +kernel
theorem dL_refuses_377 : decode cL_refuses 377 = .ok (.istore 5, 2) := by decide +kernel
theorem dL_refuses_379 : decode cL_refuses 379 = .ok (.iload 5, 2) := by decide +kernel
theorem dL_refuses_381 : decode cL_refuses 381 = .ok (.ifCond .eq 233, 3) := by decide +kernel
theorem dL_refuses_384 : decode cL_refuses 384 = .ok (.aload_n 0, 1) := by decide +kernel
theorem dL_refuses_385 : decode cL_refuses 385 = .ok (.iconst 4, 1) := by decide +kernel
theorem dL_refuses_386 : decode cL_refuses 386 = .ok (.iconst 0, 1) := by decide +kernel
theorem dL_refuses_387 : decode cL_refuses 387 = .ok (.iconst 0, 1) := by decide +kernel
theorem dL_refuses_388 : decode cL_refuses 388 = .ok (.iconst 0, 1) := by decide +kernel
theorem dL_refuses_389 : decode cL_refuses 389 = .ok (.iconst 0, 1) := by decide +kernel
theorem dL_refuses_390 : decode cL_refuses 390 = .ok (.invokestatic 169, 3) := by decide +kernel
theorem dL_refuses_393 : decode cL_refuses 393 = .ok (.ldc 32, 2) := by decide +kernel
theorem dL_refuses_395 : decode cL_refuses 395 = .ok (.if_icmp .ne 219, 3) := by decide +kernel
theorem dL_refuses_398 : decode cL_refuses 398 = .ok (.aload_n 0, 1) := by decide +kernel
theorem dL_refuses_399 : decode cL_refuses 399 = .ok (.iconst 0, 1) := by decide +kernel
theorem dL_refuses_400 : decode cL_refuses 400 = .ok (.iload_n 1, 1) := by decide +kernel
theorem dL_refuses_401 : decode cL_refuses 401 = .ok (.iconst 0, 1) := by decide +kernel
theorem dL_refuses_402 : decode cL_refuses 402 = .ok (.iconst 0, 1) := by decide +kernel
theorem dL_refuses_403 : decode cL_refuses 403 = .ok (.iconst 0, 1) := by decide +kernel
theorem dL_refuses_404 : decode cL_refuses 404 = .ok (.invokestatic 169, 3) := by decide +kernel
theorem dL_refuses_407 : decode cL_refuses 407 = .ok (.ldc 32, 2) := by decide +kernel
theorem dL_refuses_409 : decode cL_refuses 409 = .ok (.if_icmp .ne 205, 3) := by decide +kernel
theorem dL_refuses_412 : decode cL_refuses 412 = .ok (.aload_n 0, 1) := by decide +kernel
theorem dL_refuses_413 : decode cL_refuses 413 = .ok (.iconst 0, 1) := by decide +kernel
theorem dL_refuses_414 : decode cL_refuses 414 = .ok (.iconst 1, 1) := by decide +kernel
theorem dL_refuses_415 : decode cL_refuses 415 = .ok (.iconst 1, 1) := by decide +kernel
theorem dL_refuses_416 : decode cL_refuses 416 = .ok (.iconst 1, 1) := by decide +kernel
theorem dL_refuses_417 : decode cL_refuses 417 = .ok (.iconst 0, 1) := by decide +kernel
theorem dL_refuses_418 : decode cL_refuses 418 = .ok (.invokestatic 169, 3) := by decide +kernel
theorem dL_refuses_421 : decode cL_refuses 421 = .ok (.ldc 15, 2) := by decide +kernel
theorem dL_refuses_423 : decode cL_refuses 423 = .ok (.if_icmp .ne 191, 3) := by decide +kernel
theorem dL_refuses_426 : decode cL_refuses 426 = .ok (.aload_n 0, 1) := by decide +kernel
theorem dL_refuses_427 : decode cL_refuses 427 = .ok (.iconst 0, 1) := by decide +kernel
theorem dL_refuses_428 : decode cL_refuses 428 = .ok (.iconst 0, 1) := by decide +kernel
theorem dL_refuses_429 : decode cL_refuses 429 = .ok (.iconst 1, 1) := by decide +kernel
theorem dL_refuses_430 : decode cL_refuses 430 = .ok (.bipush 25, 2) := by decide +kernel
theorem dL_refuses_432 : decode cL_refuses 432 = .ok (.iconst 0, 1) := by decide +kernel
theorem dL_refuses_433 : decode cL_refuses 433 = .ok (.invokestatic 169, 3) := by decide +kernel
theorem dL_refuses_436 : decode cL_refuses 436 = .ok (.ldc 15, 2) := by decide +kernel
theorem dL_refuses_438 : decode cL_refuses 438 = .ok (.if_icmp .ne 176, 3) := by decide +kernel
theorem dL_refuses_441 : decode cL_refuses 441 = .ok (.aload_n 0, 1) := by decide +kernel
theorem dL_refuses_442 : decode cL_refuses 442 = .ok (.iconst 0, 1) := by decide +kernel
theorem dL_refuses_443 : decode cL_refuses 443 = .ok (.iconst 0, 1) := by decide +kernel
theorem dL_refuses_444 : decode cL_refuses 444 = .ok (.iconst 1, 1) := by decide +kernel
theorem dL_refuses_445 : decode cL_refuses 445 = .ok (.iconst 1, 1) := by decide +kernel
theorem dL_refuses_446 : decode cL_refuses 446 = .ok (.iconst 4, 1) := by decide +kernel
theorem dL_refuses_447 : decode cL_refuses 447 = .ok (.invokestatic 169, 3) := by decide +kernel
theorem dL_refuses_450 : decode cL_refuses 450 = .ok (.ldc 15, 2) := by decide +kernel
theorem dL_refuses_452 : decode cL_refuses 452 = .ok (.if_icmp .ne 162, 3) := by decide +kernel
theorem dL_refuses_455 : decode cL_refuses 455 = .ok (.aload_n 0, 1) := by decide +kernel
theorem dL_refuses_456 : decode cL_refuses 456 = .ok (.iload_n 3, 1) := by decide +kernel
theorem dL_refuses_457 : decode cL_refuses 457 = .ok (.iconst 0, 1) := by decide +kernel
theorem dL_refuses_458 : decode cL_refuses 458 = .ok (.invokestatic 173, 3) := by decide +kernel
theorem dL_refuses_461 : decode cL_refuses 461 = .ok (.ldc 32, 2) := by decide +kernel
theorem dL_refuses_463 : decode cL_refuses 463 = .ok (.if_icmp .ne 151, 3) := by decide +kernel
theorem dL_refuses_466 : decode cL_refuses 466 = .ok (.aload_n 0, 1) := by decide +kernel
theorem dL_refuses_467 : decode cL_refuses 467 = .ok (.iconst 4, 1) := by decide +kernel
theorem dL_refuses_468 : decode cL_refuses 468 = .ok (.iconst 0, 1) := by decide +kernel
theorem dL_refuses_469 : decode cL_refuses 469 = .ok (.invokestatic 176, 3) := by decide +kernel
theorem dL_refuses_472 : decode cL_refuses 472 = .ok (.ldc 32, 2) := by decide +kernel
theorem dL_refuses_474 : decode cL_refuses 474 = .ok (.if_icmp .ne 140, 3) := by decide +kernel
theorem dL_refuses_477 : decode cL_refuses 477 = .ok (.aload_n 0, 1) := by decide +kernel
theorem dL_refuses_478 : decode cL_refuses 478 = .ok (.iconst 0, 1) := by decide +kernel
theorem dL_refuses_479 : decode cL_refuses 479 = .ok (.iload_n 3, 1) := by decide +kernel
theorem dL_refuses_480 : decode cL_refuses 480 = .ok (.invokestatic 176, 3) := by decide +kernel
theorem dL_refuses_483 : decode cL_refuses 483 = .ok (.ldc 32, 2) := by decide +kernel
theorem dL_refuses_485 : decode cL_refuses 485 = .ok (.if_icmp .ne 129, 3) := by decide +kernel
theorem dL_refuses_488 : decode cL_refuses 488 = .ok (.aload_n 0, 1) := by decide +kernel
theorem dL_refuses_489 : decode cL_refuses 489 = .ok (.iconst (-1), 1) := by decide +kernel
theorem dL_refuses_490 : decode cL_refuses 490 = .ok (.invokestatic 179, 3) := by decide +kernel
theorem dL_refuses_493 : decode cL_refuses 493 = .ok (.ldc 32, 2) := by decide +kernel
theorem dL_refuses_495 : decode cL_refuses 495 = .ok (.if_icmp .ne 119, 3) := by decide +kernel
theorem dL_refuses_498 : decode cL_refuses 498 = .ok (.aload_n 0, 1) := by decide +kernel
theorem dL_refuses_499 : decode cL_refuses 499 = .ok (.iconst 4, 1) := by decide +kernel
theorem dL_refuses_500 : decode cL_refuses 500 = .ok (.bipush 51, 2) := by decide +kernel
theorem dL_refuses_502 : decode cL_refuses 502 = .ok (.invokestatic 182, 3) := by decide +kernel
theorem dL_refuses_505 : decode cL_refuses 505 = .ok (.ldc 32, 2) := by decide +kernel
theorem dL_refuses_507 : decode cL_refuses 507 = .ok (.if_icmp .ne 107, 3) := by decide +kernel
theorem dL_refuses_510 : decode cL_refuses 510 = .ok (.aload_n 0, 1) := by decide +kernel
theorem dL_refuses_511 : decode cL_refuses 511 = .ok (.iconst 0, 1) := by decide +kernel
theorem dL_refuses_512 : decode cL_refuses 512 = .ok (.bipush 51, 2) := by decide +kernel
theorem dL_refuses_514 : decode cL_refuses 514 = .ok (.invokestatic 182, 3) := by decide +kernel
theorem dL_refuses_517 : decode cL_refuses 517 = .ok (.ldc 15, 2) := by decide +kernel
theorem dL_refuses_519 : decode cL_refuses 519 = .ok (.if_icmp .ne 95, 3) := by decide +kernel
theorem dL_refuses_522 : decode cL_refuses 522 = .ok (.aload_n 0, 1) := by decide +kernel
theorem dL_refuses_523 : decode cL_refuses 523 = .ok (.iconst 4, 1) := by decide +kernel
theorem dL_refuses_524 : decode cL_refuses 524 = .ok (.invokestatic 185, 3) := by decide +kernel
theorem dL_refuses_527 : decode cL_refuses 527 = .ok (.ldc 32, 2) := by decide +kernel
theorem dL_refuses_529 : decode cL_refuses 529 = .ok (.if_icmp .ne 85, 3) := by decide +kernel
theorem dL_refuses_532 : decode cL_refuses 532 = .ok (.aload_n 0, 1) := by decide +kernel
theorem dL_refuses_533 : decode cL_refuses 533 = .ok (.iconst (-1), 1) := by decide +kernel
theorem dL_refuses_534 : decode cL_refuses 534 = .ok (.invokestatic 188, 3) := by decide +kernel
theorem dL_refuses_537 : decode cL_refuses 537 = .ok (.ldc 32, 2) := by decide +kernel
theorem dL_refuses_539 : decode cL_refuses 539 = .ok (.if_icmp .ne 75, 3) := by decide +kernel
theorem dL_refuses_542 : decode cL_refuses 542 = .ok (.aload_n 0, 1) := by decide +kernel
theorem dL_refuses_543 : decode cL_refuses 543 = .ok (.iconst 4, 1) := by decide +kernel
theorem dL_refuses_544 : decode cL_refuses 544 = .ok (.lconst 0, 1) := by decide +kernel
theorem dL_refuses_545 : decode cL_refuses 545 = .ok (.invokestatic 191, 3) := by decide +kernel
theorem dL_refuses_548 : decode cL_refuses 548 = .ok (.ldc 15, 2) := by decide +kernel
theorem dL_refuses_550 : decode cL_refuses 550 = .ok (.if_icmp .ne 64, 3) := by decide +kernel
theorem dL_refuses_553 : decode cL_refuses 553 = .ok (.aload_n 0, 1) := by decide +kernel
theorem dL_refuses_554 : decode cL_refuses 554 = .ok (.iconst 1, 1) := by decide +kernel
theorem dL_refuses_555 : decode cL_refuses 555 = .ok (.ldc2_w 195, 3) := by decide +kernel
theorem dL_refuses_558 : decode cL_refuses 558 = .ok (.invokestatic 191, 3) := by decide +kernel
theorem dL_refuses_561 : decode cL_refuses 561 = .ok (.ldc 15, 2) := by decide +kernel
theorem dL_refuses_563 : decode cL_refuses 563 = .ok (.if_icmp .ne 51, 3) := by decide +kernel
theorem dL_refuses_566 : decode cL_refuses 566 = .ok (.aload_n 0, 1) := by decide +kernel
theorem dL_refuses_567 : decode cL_refuses 567 = .ok (.lconst 1, 1) := by decide +kernel
theorem dL_refuses_568 : decode cL_refuses 568 = .ok (.bipush 51, 2) := by decide +kernel
theorem dL_refuses_570 : decode cL_refuses 570 = .ok (.invokestatic 197, 3) := by decide +kernel
theorem dL_refuses_573 : decode cL_refuses 573 = .ok (.ldc 15, 2) := by decide +kernel
theorem dL_refuses_575 : decode cL_refuses 575 = .ok (.if_icmp .ne 39, 3) := by decide +kernel
theorem dL_refuses_578 : decode cL_refuses 578 = .ok (.aload_n 0, 1) := by decide +kernel
theorem dL_refuses_579 : decode cL_refuses 579 = .ok (.iconst 2, 1) := by decide +kernel
theorem dL_refuses_580 : decode cL_refuses 580 = .ok (.invokestatic 201, 3) := by decide +kernel
theorem dL_refuses_583 : decode cL_refuses 583 = .ok (.ldc 32, 2) := by decide +kernel
theorem dL_refuses_585 : decode cL_refuses 585 = .ok (.if_icmp .ne 29, 3) := by decide +kernel
theorem dL_refuses_588 : decode cL_refuses 588 = .ok (.aload_n 0, 1) := by decide +kernel
theorem dL_refuses_589 : decode cL_refuses 589 = .ok (.iconst (-1), 1) := by decide +kernel
theorem dL_refuses_590 : decode cL_refuses 590 = .ok (.invokestatic 137, 3) := by decide +kernel
theorem dL_refuses_593 : decode cL_refuses 593 = .ok (.ldc 32, 2) := by decide +kernel
theorem dL_refuses_595 : decode cL_refuses 595 = .ok (.if_icmp .ne 19, 3) := by decide +kernel
theorem dL_refuses_598 : decode cL_refuses 598 = .ok (.aload_n 0, 1) := by decide +kernel
theorem dL_refuses_599 : decode cL_refuses 599 = .ok (.sipush 256, 3) := by decide +kernel
theorem dL_refuses_602 : decode cL_refuses 602 = .ok (.invokestatic 103, 3) := by decide +kernel
theorem dL_refuses_605 : decode cL_refuses 605 = .ok (.ldc 15, 2) := by decide +kernel
theorem dL_refuses_607 : decode cL_refuses 607 = .ok (.if_icmp .ne 7, 3) := by decide +kernel
theorem dL_refuses_610 : decode cL_refuses 610 = .ok (.iconst 1, 1) := by decide +kernel
theorem dL_refuses_611 : decode cL_refuses 611 = .ok (.goto 4, 3) := by decide +kernel
theorem dL_refuses_614 : decode cL_refuses 614 = .ok (.iconst 0, 1) := by decide +kernel
theorem dL_refuses_615 : decode cL_refuses 615 = .ok (.ireturn, 1) := by decide +kernel
theorem dL_sound_0 : decode cL_sound 0 = .ok (.aload_n 0, 1) := by decide +kernel
theorem dL_sound_1 : decode cL_sound 1 = .ok (.iconst 5, 1) := by decide +kernel
theorem dL_sound_2 : decode cL_sound 2 = .ok (.invokestatic 127, 3) := by decide +kernel
theorem dL_sound_5 : decode cL_sound 5 = .ok (.istore_n 1, 1) := by decide +kernel
theorem dL_sound_6 : decode cL_sound 6 = .ok (.iconst 0, 1) := by decide +kernel
theorem dL_sound_7 : decode cL_sound 7 = .ok (.istore_n 2, 1) := by decide +kernel
theorem dL_sound_8 : decode cL_sound 8 = .ok (.iconst 0, 1) := by decide +kernel
theorem dL_sound_9 : decode cL_sound 9 = .ok (.istore_n 3, 1) := by decide +kernel
theorem dL_sound_10 : decode cL_sound 10 = .ok (.aload_n 0, 1) := by decide +kernel
theorem dL_sound_11 : decode cL_sound 11 = .ok (.iconst 3, 1) := by decide +kernel
theorem dL_sound_12 : decode cL_sound 12 = .ok (.invokestatic 127, 3) := by decide +kernel
theorem dL_sound_15 : decode cL_sound 15 = .ok (.istore 4, 2) := by decide +kernel
theorem dL_sound_17 : decode cL_sound 17 = .ok (.iload 4, 2) := by decide +kernel
theorem dL_sound_19 : decode cL_sound 19 = .ok (.iconst 1, 1) := by decide +kernel
theorem dL_sound_20 : decode cL_sound 20 = .ok (.if_icmp .lt 14, 3) := by decide +kernel
theorem dL_sound_23 : decode cL_sound 23 = .ok (.iload 4, 2) := by decide +kernel
theorem dL_sound_25 : decode cL_sound 25 = .ok (.bipush 6, 2) := by decide +kernel
theorem dL_sound_27 : decode cL_sound 27 = .ok (.if_icmp .gt 7, 3) := by decide +kernel
theorem dL_sound_30 : decode cL_sound 30 = .ok (.iconst 1, 1) := by decide +kernel
theorem dL_sound_31 : decode cL_sound 31 = .ok (.goto 4, 3) := by decide +kernel
theorem dL_sound_34 : decode cL_sound 34 = .ok (.iconst 0, 1) := by decide +kernel
theorem dL_sound_35 : decode cL_sound 35 = .ok (.istore 5, 2) := by decide +kernel
theorem dL_sound_37 : decode cL_sound 37 = .ok (.iconst 0, 1) := by decide +kernel
theorem dL_sound_38 : decode cL_sound 38 = .ok (.istore 6, 2) := by decide +kernel
theorem dL_sound_40 : decode cL_sound 40 = .ok (.iload 6, 2) := by decide +kernel
theorem dL_sound_42 : decode cL_sound 42 = .ok (.iconst 4, 1) := by decide +kernel
theorem dL_sound_43 : decode cL_sound 43 = .ok (.if_icmp .ge 330, 3) := by decide +kernel
theorem dL_sound_46 : decode cL_sound 46 = .ok (.iload 5, 2) := by decide +kernel
theorem dL_sound_48 : decode cL_sound 48 = .ok (.ifCond .eq 325, 3) := by decide +kernel
theorem dL_sound_51 : decode cL_sound 51 = .ok (.iconst 0, 1) := by decide +kernel
theorem dL_sound_52 : decode cL_sound 52 = .ok (.istore 7, 2) := by decide +kernel
theorem dL_sound_54 : decode cL_sound 54 = .ok (.iconst 0, 1) := by decide +kernel
theorem dL_sound_55 : decode cL_sound 55 = .ok (.istore 8, 2) := by decide +kernel
theorem dL_sound_57 : decode cL_sound 57 = .ok (.iconst 0, 1) := by decide +kernel
theorem dL_sound_58 : decode cL_sound 58 = .ok (.istore 9, 2) := by decide +kernel
theorem dL_sound_60 : decode cL_sound 60 = .ok (.iconst 0, 1) := by decide +kernel
theorem dL_sound_61 : decode cL_sound 61 = .ok (.istore 10, 2) := by decide +kernel
theorem dL_sound_63 : decode cL_sound 63 = .ok (.iload_n 1, 1) := by decide +kernel
theorem dL_sound_64 : decode cL_sound 64 = .ok (.aload_n 0, 1) := by decide +kernel
theorem dL_sound_65 : decode cL_sound 65 = .ok (.iload 6, 2) := by decide +kernel
theorem dL_sound_67 : decode cL_sound 67 = .ok (.iconst 0, 1) := by decide +kernel
theorem dL_sound_68 : decode cL_sound 68 = .ok (.invokestatic 130, 3) := by decide +kernel
theorem dL_sound_71 : decode cL_sound 71 = .ok (.iadd, 1) := by decide +kernel
theorem dL_sound_72 : decode cL_sound 72 = .ok (.istore_n 1, 1) := by decide +kernel
theorem dL_sound_73 : decode cL_sound 73 = .ok (.iload_n 2, 1) := by decide +kernel
theorem dL_sound_74 : decode cL_sound 74 = .ok (.aload_n 0, 1) := by decide +kernel
theorem dL_sound_75 : decode cL_sound 75 = .ok (.iload 6, 2) := by decide +kernel
theorem dL_sound_77 : decode cL_sound 77 = .ok (.iconst 5, 1) := by decide +kernel
theorem dL_sound_78 : decode cL_sound 78 = .ok (.invokestatic 130, 3) := by decide +kernel
theorem dL_sound_81 : decode cL_sound 81 = .ok (.iadd, 1) := by decide +kernel
theorem dL_sound_82 : decode cL_sound 82 = .ok (.istore_n 2, 1) := by decide +kernel
theorem dL_sound_83 : decode cL_sound 83 = .ok (.iload_n 3, 1) := by decide +kernel
theorem dL_sound_84 : decode cL_sound 84 = .ok (.aload_n 0, 1) := by decide +kernel
theorem dL_sound_85 : decode cL_sound 85 = .ok (.iload 6, 2) := by decide +kernel
theorem dL_sound_87 : decode cL_sound 87 = .ok (.bipush 6, 2) := by decide +kernel
theorem dL_sound_89 : decode cL_sound 89 = .ok (.invokestatic 130, 3) := by decide +kernel
theorem dL_sound_92 : decode cL_sound 92 = .ok (.iadd, 1) := by decide +kernel
theorem dL_sound_93 : decode cL_sound 93 = .ok (.istore_n 3, 1) := by decide +kernel
theorem dL_sound_94 : decode cL_sound 94 = .ok (.iconst 0, 1) := by decide +kernel
theorem dL_sound_95 : decode cL_sound 95 = .ok (.istore 11, 2) := by decide +kernel
theorem dL_sound_97 : decode cL_sound 97 = .ok (.iload 11, 2) := by decide +kernel
theorem dL_sound_99 : decode cL_sound 99 = .ok (.aload_n 0, 1) := by decide +kernel
theorem dL_sound_100 : decode cL_sound 100 = .ok (.iload 6, 2) := by decide +kernel
theorem dL_sound_102 : decode cL_sound 102 = .ok (.iconst 2, 1) := by decide +kernel
theorem dL_sound_103 : decode cL_sound 103 = .ok (.invokestatic 130, 3) := by decide +kernel
theorem dL_sound_106 : decode cL_sound 106 = .ok (.if_icmp .ge 77, 3) := by decide +kernel
theorem dL_sound_109 : decode cL_sound 109 = .ok (.iload 5, 2) := by decide +kernel
theorem dL_sound_111 : decode cL_sound 111 = .ok (.ifCond .eq 72, 3) := by decide +kernel
theorem dL_sound_114 : decode cL_sound 114 = .ok (.iload 7, 2) := by decide +kernel
theorem dL_sound_116 : decode cL_sound 116 = .ok (.aload_n 0, 1) := by decide +kernel
theorem dL_sound_117 : decode cL_sound 117 = .ok (.iload 6, 2) := by decide +kernel
theorem dL_sound_119 : decode cL_sound 119 = .ok (.iload 11, 2) := by decide +kernel
theorem dL_sound_121 : decode cL_sound 121 = .ok (.iconst 0, 1) := by decide +kernel
theorem dL_sound_122 : decode cL_sound 122 = .ok (.invokestatic 140, 3) := by decide +kernel
theorem dL_sound_125 : decode cL_sound 125 = .ok (.iadd, 1) := by decide +kernel
theorem dL_sound_126 : decode cL_sound 126 = .ok (.istore 7, 2) := by decide +kernel
theorem dL_sound_128 : decode cL_sound 128 = .ok (.aload_n 0, 1) := by decide +kernel
theorem dL_sound_129 : decode cL_sound 129 = .ok (.iload 6, 2) := by decide +kernel
theorem dL_sound_131 : decode cL_sound 131 = .ok (.iload 11, 2) := by decide +kernel
theorem dL_sound_133 : decode cL_sound 133 = .ok (.iconst 0, 1) := by decide +kernel
theorem dL_sound_134 : decode cL_sound 134 = .ok (.invokestatic 140, 3) := by decide +kernel
theorem dL_sound_137 : decode cL_sound 137 = .ok (.iload 4, 2) := by decide +kernel
theorem dL_sound_139 : decode cL_sound 139 = .ok (.iconst 1, 1) := by decide +kernel
theorem dL_sound_140 : decode cL_sound 140 = .ok (.isub, 1) := by decide +kernel
theorem dL_sound_141 : decode cL_sound 141 = .ok (.if_icmp .lt 33, 3) := by decide +kernel
theorem dL_sound_144 : decode cL_sound 144 = .ok (.aload_n 0, 1) := by decide +kernel
theorem dL_sound_145 : decode cL_sound 145 = .ok (.iload 6, 2) := by decide +kernel
theorem dL_sound_147 : decode cL_sound 147 = .ok (.iload 11, 2) := by decide +kernel
theorem dL_sound_149 : decode cL_sound 149 = .ok (.iconst 0, 1) := by decide +kernel
theorem dL_sound_150 : decode cL_sound 150 = .ok (.invokestatic 140, 3) := by decide +kernel
theorem dL_sound_153 : decode cL_sound 153 = .ok (.iload 4, 2) := by decide +kernel
theorem dL_sound_155 : decode cL_sound 155 = .ok (.if_icmp .gt 19, 3) := by decide +kernel
theorem dL_sound_158 : decode cL_sound 158 = .ok (.aload_n 0, 1) := by decide +kernel
theorem dL_sound_159 : decode cL_sound 159 = .ok (.iload 6, 2) := by decide +kernel
theorem dL_sound_161 : decode cL_sound 161 = .ok (.iload 11, 2) := by decide +kernel
theorem dL_sound_163 : decode cL_sound 163 = .ok (.iconst 0, 1) := by decide +kernel
theorem dL_sound_164 : decode cL_sound 164 = .ok (.invokestatic 140, 3) := by decide +kernel
theorem dL_sound_167 : decode cL_sound 167 = .ok (.ifCond .le 7, 3) := by decide +kernel
theorem dL_sound_170 : decode cL_sound 170 = .ok (.iconst 1, 1) := by decide +kernel
theorem dL_sound_171 : decode cL_sound 171 = .ok (.goto 4, 3) := by decide +kernel
theorem dL_sound_174 : decode cL_sound 174 = .ok (.iconst 0, 1) := by decide +kernel
theorem dL_sound_175 : decode cL_sound 175 = .ok (.istore 5, 2) := by decide +kernel
theorem dL_sound_177 : decode cL_sound 177 = .ok (.iinc 11 1, 3) := by decide +kernel
theorem dL_sound_180 : decode cL_sound 180 = .ok (.goto (-83), 3) := by decide +kernel
theorem dL_sound_183 : decode cL_sound 183 = .ok (.iconst 0, 1) := by decide +kernel
theorem dL_sound_184 : decode cL_sound 184 = .ok (.istore 11, 2) := by decide +kernel
theorem dL_sound_186 : decode cL_sound 186 = .ok (.iload 11, 2) := by decide +kernel
theorem dL_sound_188 : decode cL_sound 188 = .ok (.aload_n 0, 1) := by decide +kernel
theorem dL_sound_189 : decode cL_sound 189 = .ok (.iconst 1, 1) := by decide +kernel
theorem dL_sound_190 : decode cL_sound 190 = .ok (.invokestatic 127, 3) := by decide +kernel
theorem dL_sound_193 : decode cL_sound 193 = .ok (.if_icmp .ge 59, 3) := by decide +kernel
theorem dL_sound_196 : decode cL_sound 196 = .ok (.iload 9, 2) := by decide +kernel
theorem dL_sound_198 : decode cL_sound 198 = .ok (.aload_n 0, 1) := by decide +kernel
theorem dL_sound_199 : decode cL_sound 199 = .ok (.iload 11, 2) := by decide +kernel
theorem dL_sound_201 : decode cL_sound 201 = .ok (.iconst 3, 1) := by decide +kernel
theorem dL_sound_202 : decode cL_sound 202 = .ok (.invokestatic 144, 3) := by decide +kernel
theorem dL_sound_205 : decode cL_sound 205 = .ok (.iload 6, 2) := by decide +kernel
theorem dL_sound_207 : decode cL_sound 207 = .ok (.if_icmp .ne 7, 3) := by decide +kernel
theorem dL_sound_210 : decode cL_sound 210 = .ok (.iconst 1, 1) := by decide +kernel
theorem dL_sound_211 : decode cL_sound 211 = .ok (.goto 4, 3) := by decide +kernel
theorem dL_sound_214 : decode cL_sound 214 = .ok (.iconst 0, 1) := by decide +kernel
theorem dL_sound_215 : decode cL_sound 215 = .ok (.iadd, 1) := by decide +kernel
theorem dL_sound_216 : decode cL_sound 216 = .ok (.istore 9, 2) := by decide +kernel
theorem dL_sound_218 : decode cL_sound 218 = .ok (.iload 8, 2) := by decide +kernel
theorem dL_sound_220 : decode cL_sound 220 = .ok (.aload_n 0, 1) := by decide +kernel
theorem dL_sound_221 : decode cL_sound 221 = .ok (.iload 11, 2) := by decide +kernel
theorem dL_sound_223 : decode cL_sound 223 = .ok (.iconst 3, 1) := by decide +kernel
theorem dL_sound_224 : decode cL_sound 224 = .ok (.invokestatic 144, 3) := by decide +kernel
theorem dL_sound_227 : decode cL_sound 227 = .ok (.iload 6, 2) := by decide +kernel
theorem dL_sound_229 : decode cL_sound 229 = .ok (.if_icmp .ne 13, 3) := by decide +kernel
theorem dL_sound_232 : decode cL_sound 232 = .ok (.aload_n 0, 1) := by decide +kernel
theorem dL_sound_233 : decode cL_sound 233 = .ok (.iload 11, 2) := by decide +kernel
theorem dL_sound_235 : decode cL_sound 235 = .ok (.iconst 2, 1) := by decide +kernel
theorem dL_sound_236 : decode cL_sound 236 = .ok (.invokestatic 144, 3) := by decide +kernel
theorem dL_sound_239 : decode cL_sound 239 = .ok (.goto 4, 3) := by decide +kernel
theorem dL_sound_242 : decode cL_sound 242 = .ok (.iconst 0, 1) := by decide +kernel
theorem dL_sound_243 : decode cL_sound 243 = .ok (.iadd, 1) := by decide +kernel
theorem dL_sound_244 : decode cL_sound 244 = .ok (.istore 8, 2) := by decide +kernel
theorem dL_sound_246 : decode cL_sound 246 = .ok (.iinc 11 1, 3) := by decide +kernel
theorem dL_sound_249 : decode cL_sound 249 = .ok (.goto (-63), 3) := by decide +kernel
theorem dL_sound_252 : decode cL_sound 252 = .ok (.iconst 0, 1) := by decide +kernel
theorem dL_sound_253 : decode cL_sound 253 = .ok (.istore 11, 2) := by decide +kernel
theorem dL_sound_255 : decode cL_sound 255 = .ok (.iload 11, 2) := by decide +kernel
theorem dL_sound_257 : decode cL_sound 257 = .ok (.aload_n 0, 1) := by decide +kernel
theorem dL_sound_258 : decode cL_sound 258 = .ok (.iconst 2, 1) := by decide +kernel
theorem dL_sound_259 : decode cL_sound 259 = .ok (.invokestatic 127, 3) := by decide +kernel
theorem dL_sound_262 : decode cL_sound 262 = .ok (.if_icmp .ge 31, 3) := by decide +kernel
theorem dL_sound_265 : decode cL_sound 265 = .ok (.iload 10, 2) := by decide +kernel
theorem dL_sound_267 : decode cL_sound 267 = .ok (.aload_n 0, 1) := by decide +kernel
theorem dL_sound_268 : decode cL_sound 268 = .ok (.iload 11, 2) := by decide +kernel
theorem dL_sound_270 : decode cL_sound 270 = .ok (.iconst 4, 1) := by decide +kernel
theorem dL_sound_271 : decode cL_sound 271 = .ok (.invokestatic 147, 3) := by decide +kernel
theorem dL_sound_274 : decode cL_sound 274 = .ok (.iload 6, 2) := by decide +kernel
theorem dL_sound_276 : decode cL_sound 276 = .ok (.if_icmp .ne 7, 3) := by decide +kernel
theorem dL_sound_279 : decode cL_sound 279 = .ok (.iconst 1, 1) := by decide +kernel
theorem dL_sound_280 : decode cL_sound 280 = .ok (.goto 4, 3) := by decide +kernel
theorem dL_sound_283 : decode cL_sound 283 = .ok (.iconst 0, 1) := by decide +kernel
theorem dL_sound_284 : decode cL_sound 284 = .ok (.iadd, 1) := by decide +kernel
theorem dL_sound_285 : decode cL_sound 285 = .ok (.istore 10, 2) := by decide +kernel
theorem dL_sound_287 : decode cL_sound 287 = .ok (.iinc 11 1, 3) := by decide +kernel
theorem dL_sound_290 : decode cL_sound 290 = .ok (.goto (-35), 3) := by decide +kernel
theorem dL_sound_293 : decode cL_sound 293 = .ok (.iload 5, 2) := by decide +kernel
theorem dL_sound_295 : decode cL_sound 295 = .ok (.ifCond .eq 69, 3) := by decide +kernel
theorem dL_sound_298 : decode cL_sound 298 = .ok (.aload_n 0, 1) := by decide +kernel
theorem dL_sound_299 : decode cL_sound 299 = .ok (.iload 6, 2) := by decide +kernel
theorem dL_sound_301 : decode cL_sound 301 = .ok (.iconst 3, 1) := by decide +kernel
theorem dL_sound_302 : decode cL_sound 302 = .ok (.invokestatic 130, 3) := by decide +kernel
theorem dL_sound_305 : decode cL_sound 305 = .ok (.iload 9, 2) := by decide +kernel
theorem dL_sound_307 : decode cL_sound 307 = .ok (.if_icmp .ne 57, 3) := by decide +kernel
theorem dL_sound_310 : decode cL_sound 310 = .ok (.aload_n 0, 1) := by decide +kernel
theorem dL_sound_311 : decode cL_sound 311 = .ok (.iload 6, 2) := by decide +kernel
theorem dL_sound_313 : decode cL_sound 313 = .ok (.iconst 4, 1) := by decide +kernel
theorem dL_sound_314 : decode cL_sound 314 = .ok (.invokestatic 130, 3) := by decide +kernel
theorem dL_sound_317 : decode cL_sound 317 = .ok (.iload 10, 2) := by decide +kernel
theorem dL_sound_319 : decode cL_sound 319 = .ok (.if_icmp .ne 45, 3) := by decide +kernel
theorem dL_sound_322 : decode cL_sound 322 = .ok (.aload_n 0, 1) := by decide +kernel
theorem dL_sound_323 : decode cL_sound 323 = .ok (.iload 6, 2) := by decide +kernel
theorem dL_sound_325 : decode cL_sound 325 = .ok (.iconst 2, 1) := by decide +kernel
theorem dL_sound_326 : decode cL_sound 326 = .ok (.invokestatic 130, 3) := by decide +kernel
theorem dL_sound_329 : decode cL_sound 329 = .ok (.iconst 4, 1) := by decide +kernel
theorem dL_sound_330 : decode cL_sound 330 = .ok (.if_icmp .gt 34, 3) := by decide +kernel
theorem dL_sound_333 : decode cL_sound 333 = .ok (.aload_n 0, 1) := by decide +kernel
theorem dL_sound_334 : decode cL_sound 334 = .ok (.iload 6, 2) := by decide +kernel
theorem dL_sound_336 : decode cL_sound 336 = .ok (.invokestatic 188, 3) := by decide +kernel
theorem dL_sound_339 : decode cL_sound 339 = .ok (.aload_n 0, 1) := by decide +kernel
theorem dL_sound_340 : decode cL_sound 340 = .ok (.iload 6, 2) := by decide +kernel
theorem dL_sound_342 : decode cL_sound 342 = .ok (.iconst 0, 1) := by decide +kernel
theorem dL_sound_343 : decode cL_sound 343 = .ok (.invokestatic 130, 3) := by decide +kernel
theorem dL_sound_346 : decode cL_sound 346 = .ok (.iconst 3, 1) := by decide +kernel
theorem dL_sound_347 : decode cL_sound 347 = .ok (.iload 8, 2) := by decide +kernel
theorem dL_sound_349 : decode cL_sound 349 = .ok (.imul, 1) := by decide +kernel
theorem dL_sound_350 : decode cL_sound 350 = .ok (.iadd, 1) := by decide +kernel
theorem dL_sound_351 : decode cL_sound 351 = .ok (.bipush 10, 2) := by decide +kernel
theorem dL_sound_353 : decode cL_sound 353 = .ok (.iload 7, 2) := by decide +kernel
theorem dL_sound_355 : decode cL_sound 355 = .ok (.imul, 1) := by decide +kernel
theorem dL_sound_356 : decode cL_sound 356 = .ok (.iadd, 1) := by decide +kernel
theorem dL_sound_357 : decode cL_sound 357 = .ok (.if_icmp .ne 7, 3) := by decide +kernel
theorem dL_sound_360 : decode cL_sound 360 = .ok (.iconst 1, 1) := by decide +kernel
theorem dL_sound_361 : decode cL_sound 361 = .ok (.goto 4, 3) := by decide +kernel
theorem dL_sound_364 : decode cL_sound 364 = .ok (.iconst 0, 1) := by decide +kernel
theorem dL_sound_365 : decode cL_sound 365 = .ok (.istore 5, 2) := by decide +kernel
theorem dL_sound_367 : decode cL_sound 367 = .ok (.iinc 6 1, 3) := by decide +kernel
theorem dL_sound_370 : decode cL_sound 370 = .ok (.goto (-330), 3) := by decide +kernel
theorem dL_sound_373 : decode cL_sound 373 = .ok (.iconst 0, 1) := by decide +kernel
theorem dL_sound_374 : decode cL_sound 374 = .ok (.istore 6, 2) := by decide +kernel
theorem dL_sound_376 : decode cL_sound 376 = .ok (.iload 6, 2) := by decide +kernel
theorem dL_sound_378 : decode cL_sound 378 = .ok (.aload_n 0, 1) := by decide +kernel
theorem dL_sound_379 : decode cL_sound 379 = .ok (.iconst 2, 1) := by decide +kernel
theorem dL_sound_380 : decode cL_sound 380 = .ok (.invokestatic 127, 3) := by decide +kernel
theorem dL_sound_383 : decode cL_sound 383 = .ok (.if_icmp .ge 82, 3) := by decide +kernel
theorem dL_sound_386 : decode cL_sound 386 = .ok (.iload 5, 2) := by decide +kernel
theorem dL_sound_388 : decode cL_sound 388 = .ok (.ifCond .eq 77, 3) := by decide +kernel
theorem dL_sound_391 : decode cL_sound 391 = .ok (.aload_n 0, 1) := by decide +kernel
theorem dL_sound_392 : decode cL_sound 392 = .ok (.iload 6, 2) := by decide +kernel
theorem dL_sound_394 : decode cL_sound 394 = .ok (.iconst 0, 1) := by decide +kernel
theorem dL_sound_395 : decode cL_sound 395 = .ok (.invokestatic 147, 3) := by decide +kernel
theorem dL_sound_398 : decode cL_sound 398 = .ok (.aload_n 0, 1) := by decide +kernel
theorem dL_sound_399 : decode cL_sound 399 = .ok (.iload 6, 2) := by decide +kernel
theorem dL_sound_401 : decode cL_sound 401 = .ok (.iconst 1, 1) := by decide +kernel
theorem dL_sound_402 : decode cL_sound 402 = .ok (.invokestatic 147, 3) := by decide +kernel
theorem dL_sound_405 : decode cL_sound 405 = .ok (.if_icmp .eq 51, 3) := by decide +kernel
theorem dL_sound_408 : decode cL_sound 408 = .ok (.aload_n 0, 1) := by decide +kernel
theorem dL_sound_409 : decode cL_sound 409 = .ok (.iload 6, 2) := by decide +kernel
theorem dL_sound_411 : decode cL_sound 411 = .ok (.iconst 3, 1) := by decide +kernel
theorem dL_sound_412 : decode cL_sound 412 = .ok (.invokestatic 147, 3) := by decide +kernel
theorem dL_sound_415 : decode cL_sound 415 = .ok (.ifCond .le 41, 3) := by decide +kernel
theorem dL_sound_418 : decode cL_sound 418 = .ok (.aload_n 0, 1) := by decide +kernel
theorem dL_sound_419 : decode cL_sound 419 = .ok (.iload 6, 2) := by decide +kernel
theorem dL_sound_421 : decode cL_sound 421 = .ok (.iconst 3, 1) := by decide +kernel
theorem dL_sound_422 : decode cL_sound 422 = .ok (.invokestatic 147, 3) := by decide +kernel
theorem dL_sound_425 : decode cL_sound 425 = .ok (.bipush 10, 2) := by decide +kernel
theorem dL_sound_427 : decode cL_sound 427 = .ok (.if_icmp .ge 29, 3) := by decide +kernel
theorem dL_sound_430 : decode cL_sound 430 = .ok (.aload_n 0, 1) := by decide +kernel
theorem dL_sound_431 : decode cL_sound 431 = .ok (.iload 6, 2) := by decide +kernel
theorem dL_sound_433 : decode cL_sound 433 = .ok (.iconst 5, 1) := by decide +kernel
theorem dL_sound_434 : decode cL_sound 434 = .ok (.invokestatic 147, 3) := by decide +kernel
theorem dL_sound_437 : decode cL_sound 437 = .ok (.ifCond .eq 15, 3) := by decide +kernel
theorem dL_sound_440 : decode cL_sound 440 = .ok (.aload_n 0, 1) := by decide +kernel
theorem dL_sound_441 : decode cL_sound 441 = .ok (.iload 6, 2) := by decide +kernel
theorem dL_sound_443 : decode cL_sound 443 = .ok (.iconst 4, 1) := by decide +kernel
theorem dL_sound_444 : decode cL_sound 444 = .ok (.invokestatic 147, 3) := by decide +kernel
theorem dL_sound_447 : decode cL_sound 447 = .ok (.bipush (-9), 2) := by decide +kernel
theorem dL_sound_449 : decode cL_sound 449 = .ok (.if_icmp .eq 7, 3) := by decide +kernel
theorem dL_sound_452 : decode cL_sound 452 = .ok (.iconst 1, 1) := by decide +kernel
theorem dL_sound_453 : decode cL_sound 453 = .ok (.goto 4, 3) := by decide +kernel
theorem dL_sound_456 : decode cL_sound 456 = .ok (.iconst 0, 1) := by decide +kernel
theorem dL_sound_457 : decode cL_sound 457 = .ok (.istore 5, 2) := by decide +kernel
theorem dL_sound_459 : decode cL_sound 459 = .ok (.iinc 6 1, 3) := by decide +kernel
theorem dL_sound_462 : decode cL_sound 462 = .ok (.goto (-86), 3) := by decide +kernel
theorem dL_sound_465 : decode cL_sound 465 = .ok (.iload 5, 2) := by decide +kernel
theorem dL_sound_467 : decode cL_sound 467 = .ok (.ifCond .eq 42, 3) := by decide +kernel
theorem dL_sound_470 : decode cL_sound 470 = .ok (.iload_n 1, 1) := by decide +kernel
theorem dL_sound_471 : decode cL_sound 471 = .ok (.ifCond .ne 38, 3) := by decide +kernel
theorem dL_sound_474 : decode cL_sound 474 = .ok (.iload_n 2, 1) := by decide +kernel
theorem dL_sound_475 : decode cL_sound 475 = .ok (.aload_n 0, 1) := by decide +kernel
theorem dL_sound_476 : decode cL_sound 476 = .ok (.bipush 6, 2) := by decide +kernel
theorem dL_sound_478 : decode cL_sound 478 = .ok (.invokestatic 127, 3) := by decide +kernel
theorem dL_sound_481 : decode cL_sound 481 = .ok (.if_icmp .gt 28, 3) := by decide +kernel
theorem dL_sound_484 : decode cL_sound 484 = .ok (.iload_n 3, 1) := by decide +kernel
theorem dL_sound_485 : decode cL_sound 485 = .ok (.aload_n 0, 1) := by decide +kernel
theorem dL_sound_486 : decode cL_sound 486 = .ok (.bipush 9, 2) := by decide +kernel
theorem dL_sound_488 : decode cL_sound 488 = .ok (.invokestatic 127, 3) := by decide +kernel
theorem dL_sound_491 : decode cL_sound 491 = .ok (.if_icmp .ne 18, 3) := by decide +kernel
theorem dL_sound_494 : decode cL_sound 494 = .ok (.aload_n 0, 1) := by decide +kernel
theorem dL_sound_495 : decode cL_sound 495 = .ok (.bipush 8, 2) := by decide +kernel
theorem dL_sound_497 : decode cL_sound 497 = .ok (.invokestatic 127, 3) := by decide +kernel
theorem dL_sound_500 : decode cL_sound 500 = .ok (.iconst 5, 1) := by decide +kernel
theorem dL_sound_501 : decode cL_sound 501 = .ok (.irem, 1) := by decide +kernel
theorem dL_sound_502 : decode cL_sound 502 = .ok (.ifCond .ne 7, 3) := by decide +kernel
theorem dL_sound_505 : decode cL_sound 505 = .ok (.iconst 1, 1) := by decide +kernel
theorem dL_sound_506 : decode cL_sound 506 = .ok (.goto 4, 3) := by decide +kernel
theorem dL_sound_509 : decode cL_sound 509 = .ok (.iconst 0, 1) := by decide +kernel
theorem dL_sound_510 : decode cL_sound 510 = .ok (.ireturn, 1) := by decide +kernel
theorem dL_ways_0 : decode cL_ways 0 = .ok (.aload_n 0, 1) := by decide +kernel
theorem dL_ways_1 : decode cL_ways 1 = .ok (.iconst 0, 1) := by decide +kernel
theorem dL_ways_2 : decode cL_ways 2 = .ok (.invokestatic 127, 3) := by decide +kernel
theorem dL_ways_5 : decode cL_ways 5 = .ok (.istore_n 2, 1) := by decide +kernel
theorem dL_ways_6 : decode cL_ways 6 = .ok (.iload_n 1, 1) := by decide +kernel
theorem dL_ways_7 : decode cL_ways 7 = .ok (.iconst 4, 1) := by decide +kernel
theorem dL_ways_8 : decode cL_ways 8 = .ok (.irem, 1) := by decide +kernel
theorem dL_ways_9 : decode cL_ways 9 = .ok (.istore_n 3, 1) := by decide +kernel
theorem dL_ways_10 : decode cL_ways 10 = .ok (.iload_n 1, 1) := by decide +kernel
theorem dL_ways_11 : decode cL_ways 11 = .ok (.iconst 4, 1) := by decide +kernel
theorem dL_ways_12 : decode cL_ways 12 = .ok (.idiv, 1) := by decide +kernel
theorem dL_ways_13 : decode cL_ways 13 = .ok (.iload_n 2, 1) := by decide +kernel
theorem dL_ways_14 : decode cL_ways 14 = .ok (.irem, 1) := by decide +kernel
theorem dL_ways_15 : decode cL_ways 15 = .ok (.istore 4, 2) := by decide +kernel
theorem dL_ways_17 : decode cL_ways 17 = .ok (.iload 4, 2) := by decide +kernel
theorem dL_ways_19 : decode cL_ways 19 = .ok (.iconst 1, 1) := by decide +kernel
theorem dL_ways_20 : decode cL_ways 20 = .ok (.iadd, 1) := by decide +kernel
theorem dL_ways_21 : decode cL_ways 21 = .ok (.iload_n 1, 1) := by decide +kernel
theorem dL_ways_22 : decode cL_ways 22 = .ok (.bipush 64, 2) := by decide +kernel
theorem dL_ways_24 : decode cL_ways 24 = .ok (.idiv, 1) := by decide +kernel
theorem dL_ways_25 : decode cL_ways 25 = .ok (.iload_n 2, 1) := by decide +kernel
theorem dL_ways_26 : decode cL_ways 26 = .ok (.iconst 1, 1) := by decide +kernel
theorem dL_ways_27 : decode cL_ways 27 = .ok (.isub, 1) := by decide +kernel
theorem dL_ways_28 : decode cL_ways 28 = .ok (.irem, 1) := by decide +kernel
theorem dL_ways_29 : decode cL_ways 29 = .ok (.iadd, 1) := by decide +kernel
theorem dL_ways_30 : decode cL_ways 30 = .ok (.iload_n 2, 1) := by decide +kernel
theorem dL_ways_31 : decode cL_ways 31 = .ok (.irem, 1) := by decide +kernel
theorem dL_ways_32 : decode cL_ways 32 = .ok (.istore 5, 2) := by decide +kernel
theorem dL_ways_34 : decode cL_ways 34 = .ok (.iconst 1, 1) := by decide +kernel
theorem dL_ways_35 : decode cL_ways 35 = .ok (.iload_n 1, 1) := by decide +kernel
theorem dL_ways_36 : decode cL_ways 36 = .ok (.sipush 1024, 3) := by decide +kernel
theorem dL_ways_39 : decode cL_ways 39 = .ok (.idiv, 1) := by decide +kernel
theorem dL_ways_40 : decode cL_ways 40 = .ok (.bipush 24, 2) := by decide +kernel
theorem dL_ways_42 : decode cL_ways 42 = .ok (.irem, 1) := by decide +kernel
theorem dL_ways_43 : decode cL_ways 43 = .ok (.iadd, 1) := by decide +kernel
theorem dL_ways_44 : decode cL_ways 44 = .ok (.istore 6, 2) := by decide +kernel
theorem dL_ways_46 : decode cL_ways 46 = .ok (.aload_n 0, 1) := by decide +kernel
theorem dL_ways_47 : decode cL_ways 47 = .ok (.iload_n 3, 1) := by decide +kernel
theorem dL_ways_48 : decode cL_ways 48 = .ok (.iload 4, 2) := by decide +kernel
theorem dL_ways_50 : decode cL_ways 50 = .ok (.iload 5, 2) := by decide +kernel
theorem dL_ways_52 : decode cL_ways 52 = .ok (.iload 6, 2) := by decide +kernel
theorem dL_ways_54 : decode cL_ways 54 = .ok (.iconst 0, 1) := by decide +kernel
theorem dL_ways_55 : decode cL_ways 55 = .ok (.invokestatic 169, 3) := by decide +kernel
theorem dL_ways_58 : decode cL_ways 58 = .ok (.istore 7, 2) := by decide +kernel
theorem dL_ways_60 : decode cL_ways 60 = .ok (.aload_n 0, 1) := by decide +kernel
theorem dL_ways_61 : decode cL_ways 61 = .ok (.iload_n 3, 1) := by decide +kernel
theorem dL_ways_62 : decode cL_ways 62 = .ok (.iload 4, 2) := by decide +kernel
theorem dL_ways_64 : decode cL_ways 64 = .ok (.iload 5, 2) := by decide +kernel
theorem dL_ways_66 : decode cL_ways 66 = .ok (.iload 6, 2) := by decide +kernel
theorem dL_ways_68 : decode cL_ways 68 = .ok (.iconst 1, 1) := by decide +kernel
theorem dL_ways_69 : decode cL_ways 69 = .ok (.invokestatic 169, 3) := by decide +kernel
theorem dL_ways_72 : decode cL_ways 72 = .ok (.istore 8, 2) := by decide +kernel
theorem dL_ways_74 : decode cL_ways 74 = .ok (.aload_n 0, 1) := by decide +kernel
theorem dL_ways_75 : decode cL_ways 75 = .ok (.iload_n 3, 1) := by decide +kernel
theorem dL_ways_76 : decode cL_ways 76 = .ok (.iload 4, 2) := by decide +kernel
theorem dL_ways_78 : decode cL_ways 78 = .ok (.iload 5, 2) := by decide +kernel
theorem dL_ways_80 : decode cL_ways 80 = .ok (.iload 6, 2) := by decide +kernel
theorem dL_ways_82 : decode cL_ways 82 = .ok (.iconst 3, 1) := by decide +kernel
theorem dL_ways_83 : decode cL_ways 83 = .ok (.invokestatic 169, 3) := by decide +kernel
theorem dL_ways_86 : decode cL_ways 86 = .ok (.istore 9, 2) := by decide +kernel
theorem dL_ways_88 : decode cL_ways 88 = .ok (.iload 7, 2) := by decide +kernel
theorem dL_ways_90 : decode cL_ways 90 = .ok (.aload_n 0, 1) := by decide +kernel
theorem dL_ways_91 : decode cL_ways 91 = .ok (.iload_n 3, 1) := by decide +kernel
theorem dL_ways_92 : decode cL_ways 92 = .ok (.iload 5, 2) := by decide +kernel
theorem dL_ways_94 : decode cL_ways 94 = .ok (.iload 4, 2) := by decide +kernel
theorem dL_ways_96 : decode cL_ways 96 = .ok (.iload 6, 2) := by decide +kernel
theorem dL_ways_98 : decode cL_ways 98 = .ok (.iconst 0, 1) := by decide +kernel
theorem dL_ways_99 : decode cL_ways 99 = .ok (.invokestatic 169, 3) := by decide +kernel
theorem dL_ways_102 : decode cL_ways 102 = .ok (.if_icmp .ne 77, 3) := by decide +kernel
theorem dL_ways_105 : decode cL_ways 105 = .ok (.iload 8, 2) := by decide +kernel
theorem dL_ways_107 : decode cL_ways 107 = .ok (.aload_n 0, 1) := by decide +kernel
theorem dL_ways_108 : decode cL_ways 108 = .ok (.iload_n 3, 1) := by decide +kernel
theorem dL_ways_109 : decode cL_ways 109 = .ok (.iload 5, 2) := by decide +kernel
theorem dL_ways_111 : decode cL_ways 111 = .ok (.iload 4, 2) := by decide +kernel
theorem dL_ways_113 : decode cL_ways 113 = .ok (.iload 6, 2) := by decide +kernel
theorem dL_ways_115 : decode cL_ways 115 = .ok (.iconst 1, 1) := by decide +kernel
theorem dL_ways_116 : decode cL_ways 116 = .ok (.invokestatic 169, 3) := by decide +kernel
theorem dL_ways_119 : decode cL_ways 119 = .ok (.if_icmp .ne 60, 3) := by decide +kernel
theorem dL_ways_122 : decode cL_ways 122 = .ok (.iload 7, 2) := by decide +kernel
theorem dL_ways_124 : decode cL_ways 124 = .ok (.bipush (-9), 2) := by decide +kernel
theorem dL_ways_126 : decode cL_ways 126 = .ok (.if_icmp .eq 49, 3) := by decide +kernel
theorem dL_ways_129 : decode cL_ways 129 = .ok (.iload 8, 2) := by decide +kernel
theorem dL_ways_131 : decode cL_ways 131 = .ok (.iload 6, 2) := by decide +kernel
theorem dL_ways_133 : decode cL_ways 133 = .ok (.if_icmp .gt 46, 3) := by decide +kernel
theorem dL_ways_136 : decode cL_ways 136 = .ok (.iload 7, 2) := by decide +kernel
theorem dL_ways_138 : decode cL_ways 138 = .ok (.ifCond .lt 41, 3) := by decide +kernel
theorem dL_ways_141 : decode cL_ways 141 = .ok (.aload_n 0, 1) := by decide +kernel
theorem dL_ways_142 : decode cL_ways 142 = .ok (.iload_n 3, 1) := by decide +kernel
theorem dL_ways_143 : decode cL_ways 143 = .ok (.iload 4, 2) := by decide +kernel
theorem dL_ways_145 : decode cL_ways 145 = .ok (.iload 5, 2) := by decide +kernel
theorem dL_ways_147 : decode cL_ways 147 = .ok (.iload 6, 2) := by decide +kernel
theorem dL_ways_149 : decode cL_ways 149 = .ok (.iconst 2, 1) := by decide +kernel
theorem dL_ways_150 : decode cL_ways 150 = .ok (.invokestatic 169, 3) := by decide +kernel
theorem dL_ways_153 : decode cL_ways 153 = .ok (.iload 8, 2) := by decide +kernel
theorem dL_ways_155 : decode cL_ways 155 = .ok (.if_icmp .gt 24, 3) := by decide +kernel
theorem dL_ways_158 : decode cL_ways 158 = .ok (.aload_n 0, 1) := by decide +kernel
theorem dL_ways_159 : decode cL_ways 159 = .ok (.iload_n 3, 1) := by decide +kernel
theorem dL_ways_160 : decode cL_ways 160 = .ok (.iload 4, 2) := by decide +kernel
theorem dL_ways_162 : decode cL_ways 162 = .ok (.iload 5, 2) := by decide +kernel
theorem dL_ways_164 : decode cL_ways 164 = .ok (.iload 8, 2) := by decide +kernel
theorem dL_ways_166 : decode cL_ways 166 = .ok (.iconst 0, 1) := by decide +kernel
theorem dL_ways_167 : decode cL_ways 167 = .ok (.invokestatic 169, 3) := by decide +kernel
theorem dL_ways_170 : decode cL_ways 170 = .ok (.iload 7, 2) := by decide +kernel
theorem dL_ways_172 : decode cL_ways 172 = .ok (.if_icmp .ne 7, 3) := by decide +kernel
theorem dL_ways_175 : decode cL_ways 175 = .ok (.iconst 1, 1) := by decide +kernel
theorem dL_ways_176 : decode cL_ways 176 = .ok (.goto 4, 3) := by decide +kernel
theorem dL_ways_179 : decode cL_ways 179 = .ok (.iconst 0, 1) := by decide +kernel
theorem dL_ways_180 : decode cL_ways 180 = .ok (.istore 10, 2) := by decide +kernel
theorem dL_ways_182 : decode cL_ways 182 = .ok (.iload 6, 2) := by decide +kernel
theorem dL_ways_184 : decode cL_ways 184 = .ok (.iconst 1, 1) := by decide +kernel
theorem dL_ways_185 : decode cL_ways 185 = .ok (.if_icmp .le 52, 3) := by decide +kernel
theorem dL_ways_188 : decode cL_ways 188 = .ok (.iload 10, 2) := by decide +kernel
theorem dL_ways_190 : decode cL_ways 190 = .ok (.ifCond .eq 47, 3) := by decide +kernel
theorem dL_ways_193 : decode cL_ways 193 = .ok (.aload_n 0, 1) := by decide +kernel
theorem dL_ways_194 : decode cL_ways 194 = .ok (.iload_n 3, 1) := by decide +kernel
theorem dL_ways_195 : decode cL_ways 195 = .ok (.iload 4, 2) := by decide +kernel
theorem dL_ways_197 : decode cL_ways 197 = .ok (.iload 5, 2) := by decide +kernel
theorem dL_ways_199 : decode cL_ways 199 = .ok (.iload 6, 2) := by decide +kernel
theorem dL_ways_201 : decode cL_ways 201 = .ok (.iconst 1, 1) := by decide +kernel
theorem dL_ways_202 : decode cL_ways 202 = .ok (.isub, 1) := by decide +kernel
theorem dL_ways_203 : decode cL_ways 203 = .ok (.iconst 0, 1) := by decide +kernel
theorem dL_ways_204 : decode cL_ways 204 = .ok (.invokestatic 169, 3) := by decide +kernel
theorem dL_ways_207 : decode cL_ways 207 = .ok (.istore 11, 2) := by decide +kernel
theorem dL_ways_209 : decode cL_ways 209 = .ok (.iload 11, 2) := by decide +kernel
theorem dL_ways_211 : decode cL_ways 211 = .ok (.bipush (-9), 2) := by decide +kernel
theorem dL_ways_213 : decode cL_ways 213 = .ok (.if_icmp .eq 17, 3) := by decide +kernel
theorem dL_ways_216 : decode cL_ways 216 = .ok (.iload 7, 2) := by decide +kernel
theorem dL_ways_218 : decode cL_ways 218 = .ok (.bipush (-9), 2) := by decide +kernel
theorem dL_ways_220 : decode cL_ways 220 = .ok (.if_icmp .eq 14, 3) := by decide +kernel
theorem dL_ways_223 : decode cL_ways 223 = .ok (.iload 7, 2) := by decide +kernel
theorem dL_ways_225 : decode cL_ways 225 = .ok (.iload 11, 2) := by decide +kernel
theorem dL_ways_227 : decode cL_ways 227 = .ok (.if_icmp .gt 7, 3) := by decide +kernel
theorem dL_ways_230 : decode cL_ways 230 = .ok (.iconst 1, 1) := by decide +kernel
theorem dL_ways_231 : decode cL_ways 231 = .ok (.goto 4, 3) := by decide +kernel
theorem dL_ways_234 : decode cL_ways 234 = .ok (.iconst 0, 1) := by decide +kernel
theorem dL_ways_235 : decode cL_ways 235 = .ok (.istore 10, 2) := by decide +kernel
theorem dL_ways_237 : decode cL_ways 237 = .ok (.bipush (-9), 2) := by decide +kernel
theorem dL_ways_239 : decode cL_ways 239 = .ok (.istore 11, 2) := by decide +kernel
theorem dL_ways_241 : decode cL_ways 241 = .ok (.iconst 0, 1) := by decide +kernel
theorem dL_ways_242 : decode cL_ways 242 = .ok (.istore 12, 2) := by decide +kernel
theorem dL_ways_244 : decode cL_ways 244 = .ok (.iload 12, 2) := by decide +kernel
theorem dL_ways_246 : decode cL_ways 246 = .ok (.aload_n 0, 1) := by decide +kernel
theorem dL_ways_247 : decode cL_ways 247 = .ok (.iconst 1, 1) := by decide +kernel
theorem dL_ways_248 : decode cL_ways 248 = .ok (.invokestatic 127, 3) := by decide +kernel
theorem dL_ways_251 : decode cL_ways 251 = .ok (.if_icmp .ge 281, 3) := by decide +kernel
theorem dL_ways_254 : decode cL_ways 254 = .ok (.iload 10, 2) := by decide +kernel
theorem dL_ways_256 : decode cL_ways 256 = .ok (.ifCond .eq 276, 3) := by decide +kernel
theorem dL_ways_259 : decode cL_ways 259 = .ok (.aload_n 0, 1) := by decide +kernel
theorem dL_ways_260 : decode cL_ways 260 = .ok (.iload 12, 2) := by decide +kernel
theorem dL_ways_262 : decode cL_ways 262 = .ok (.iconst 0, 1) := by decide +kernel
theorem dL_ways_263 : decode cL_ways 263 = .ok (.invokestatic 144, 3) := by decide +kernel
theorem dL_ways_266 : decode cL_ways 266 = .ok (.iload 4, 2) := by decide +kernel
theorem dL_ways_268 : decode cL_ways 268 = .ok (.if_icmp .ne 13, 3) := by decide +kernel
theorem dL_ways_271 : decode cL_ways 271 = .ok (.aload_n 0, 1) := by decide +kernel
theorem dL_ways_272 : decode cL_ways 272 = .ok (.iload 12, 2) := by decide +kernel
theorem dL_ways_274 : decode cL_ways 274 = .ok (.iconst 1, 1) := by decide +kernel
theorem dL_ways_275 : decode cL_ways 275 = .ok (.invokestatic 144, 3) := by decide +kernel
theorem dL_ways_278 : decode cL_ways 278 = .ok (.goto 27, 3) := by decide +kernel
theorem dL_ways_281 : decode cL_ways 281 = .ok (.aload_n 0, 1) := by decide +kernel
theorem dL_ways_282 : decode cL_ways 282 = .ok (.iload 12, 2) := by decide +kernel
theorem dL_ways_284 : decode cL_ways 284 = .ok (.iconst 1, 1) := by decide +kernel
theorem dL_ways_285 : decode cL_ways 285 = .ok (.invokestatic 144, 3) := by decide +kernel
theorem dL_ways_288 : decode cL_ways 288 = .ok (.iload 4, 2) := by decide +kernel
theorem dL_ways_290 : decode cL_ways 290 = .ok (.if_icmp .ne 13, 3) := by decide +kernel
theorem dL_ways_293 : decode cL_ways 293 = .ok (.aload_n 0, 1) := by decide +kernel
theorem dL_ways_294 : decode cL_ways 294 = .ok (.iload 12, 2) := by decide +kernel
theorem dL_ways_296 : decode cL_ways 296 = .ok (.iconst 0, 1) := by decide +kernel
theorem dL_ways_297 : decode cL_ways 297 = .ok (.invokestatic 144, 3) := by decide +kernel
theorem dL_ways_300 : decode cL_ways 300 = .ok (.goto 5, 3) := by decide +kernel
theorem dL_ways_303 : decode cL_ways 303 = .ok (.bipush (-9), 2) := by decide +kernel
theorem dL_ways_305 : decode cL_ways 305 = .ok (.istore 13, 2) := by decide +kernel
theorem dL_ways_307 : decode cL_ways 307 = .ok (.iload 6, 2) := by decide +kernel
theorem dL_ways_309 : decode cL_ways 309 = .ok (.aload_n 0, 1) := by decide +kernel
theorem dL_ways_310 : decode cL_ways 310 = .ok (.iload 12, 2) := by decide +kernel
theorem dL_ways_312 : decode cL_ways 312 = .ok (.iconst 2, 1) := by decide +kernel
theorem dL_ways_313 : decode cL_ways 313 = .ok (.invokestatic 144, 3) := by decide +kernel
theorem dL_ways_316 : decode cL_ways 316 = .ok (.isub, 1) := by decide +kernel
theorem dL_ways_317 : decode cL_ways 317 = .ok (.istore 14, 2) := by decide +kernel
theorem dL_ways_319 : decode cL_ways 319 = .ok (.aload_n 0, 1) := by decide +kernel
theorem dL_ways_320 : decode cL_ways 320 = .ok (.iload 12, 2) := by decide +kernel
theorem dL_ways_322 : decode cL_ways 322 = .ok (.iconst 3, 1) := by decide +kernel
theorem dL_ways_323 : decode cL_ways 323 = .ok (.invokestatic 144, 3) := by decide +kernel
theorem dL_ways_326 : decode cL_ways 326 = .ok (.istore 15, 2) := by decide +kernel
theorem dL_ways_328 : decode cL_ways 328 = .ok (.iload 15, 2) := by decide +kernel
theorem dL_ways_330 : decode cL_ways 330 = .ok (.iload_n 3, 1) := by decide +kernel
theorem dL_ways_331 : decode cL_ways 331 = .ok (.if_icmp .ne 7, 3) := by decide +kernel
theorem dL_ways_334 : decode cL_ways 334 = .ok (.iconst 0, 1) := by decide +kernel
theorem dL_ways_335 : decode cL_ways 335 = .ok (.goto 21, 3) := by decide +kernel
theorem dL_ways_338 : decode cL_ways 338 = .ok (.iload 15, 2) := by decide +kernel
theorem dL_ways_340 : decode cL_ways 340 = .ok (.bipush (-9), 2) := by decide +kernel
theorem dL_ways_342 : decode cL_ways 342 = .ok (.if_icmp .ne 7, 3) := by decide +kernel
theorem dL_ways_345 : decode cL_ways 345 = .ok (.iconst 1, 1) := by decide +kernel
theorem dL_ways_346 : decode cL_ways 346 = .ok (.goto 10, 3) := by decide +kernel
theorem dL_ways_349 : decode cL_ways 349 = .ok (.aload_n 0, 1) := by decide +kernel
theorem dL_ways_350 : decode cL_ways 350 = .ok (.iload 15, 2) := by decide +kernel
theorem dL_ways_352 : decode cL_ways 352 = .ok (.iconst 1, 1) := by decide +kernel
theorem dL_ways_353 : decode cL_ways 353 = .ok (.invokestatic 130, 3) := by decide +kernel
theorem dL_ways_356 : decode cL_ways 356 = .ok (.istore 16, 2) := by decide +kernel
theorem dL_ways_358 : decode cL_ways 358 = .ok (.iload 16, 2) := by decide +kernel
theorem dL_ways_360 : decode cL_ways 360 = .ok (.aload_n 0, 1) := by decide +kernel
theorem dL_ways_361 : decode cL_ways 361 = .ok (.iload 12, 2) := by decide +kernel
theorem dL_ways_363 : decode cL_ways 363 = .ok (.iconst 2, 1) := by decide +kernel
theorem dL_ways_364 : decode cL_ways 364 = .ok (.invokestatic 144, 3) := by decide +kernel
theorem dL_ways_367 : decode cL_ways 367 = .ok (.imul, 1) := by decide +kernel
theorem dL_ways_368 : decode cL_ways 368 = .ok (.istore 17, 2) := by decide +kernel
theorem dL_ways_370 : decode cL_ways 370 = .ok (.iload 13, 2) := by decide +kernel
theorem dL_ways_372 : decode cL_ways 372 = .ok (.iload 5, 2) := by decide +kernel
theorem dL_ways_374 : decode cL_ways 374 = .ok (.if_icmp .ne 12, 3) := by decide +kernel
theorem dL_ways_377 : decode cL_ways 377 = .ok (.iload 14, 2) := by decide +kernel
theorem dL_ways_379 : decode cL_ways 379 = .ok (.ifCond .lt 7, 3) := by decide +kernel
theorem dL_ways_382 : decode cL_ways 382 = .ok (.iconst 0, 1) := by decide +kernel
theorem dL_ways_383 : decode cL_ways 383 = .ok (.goto 33, 3) := by decide +kernel
theorem dL_ways_386 : decode cL_ways 386 = .ok (.iload 13, 2) := by decide +kernel
theorem dL_ways_388 : decode cL_ways 388 = .ok (.bipush (-9), 2) := by decide +kernel
theorem dL_ways_390 : decode cL_ways 390 = .ok (.if_icmp .eq 9, 3) := by decide +kernel
theorem dL_ways_393 : decode cL_ways 393 = .ok (.iload 14, 2) := by decide +kernel
theorem dL_ways_395 : decode cL_ways 395 = .ok (.iconst 1, 1) := by decide +kernel
theorem dL_ways_396 : decode cL_ways 396 = .ok (.if_icmp .ge 8, 3) := by decide +kernel
theorem dL_ways_399 : decode cL_ways 399 = .ok (.bipush (-9), 2) := by decide +kernel
theorem dL_ways_401 : decode cL_ways 401 = .ok (.goto 15, 3) := by decide +kernel
theorem dL_ways_404 : decode cL_ways 404 = .ok (.aload_n 0, 1) := by decide +kernel
theorem dL_ways_405 : decode cL_ways 405 = .ok (.iload_n 3, 1) := by decide +kernel
theorem dL_ways_406 : decode cL_ways 406 = .ok (.iload 13, 2) := by decide +kernel
theorem dL_ways_408 : decode cL_ways 408 = .ok (.iload 5, 2) := by decide +kernel
theorem dL_ways_410 : decode cL_ways 410 = .ok (.iload 14, 2) := by decide +kernel
theorem dL_ways_412 : decode cL_ways 412 = .ok (.iconst 0, 1) := by decide +kernel
theorem dL_ways_413 : decode cL_ways 413 = .ok (.invokestatic 169, 3) := by decide +kernel
theorem dL_ways_416 : decode cL_ways 416 = .ok (.istore 18, 2) := by decide +kernel
theorem dL_ways_418 : decode cL_ways 418 = .ok (.iload 13, 2) := by decide +kernel
theorem dL_ways_420 : decode cL_ways 420 = .ok (.bipush (-9), 2) := by decide +kernel
theorem dL_ways_422 : decode cL_ways 422 = .ok (.if_icmp .eq 15, 3) := by decide +kernel
theorem dL_ways_425 : decode cL_ways 425 = .ok (.iload 14, 2) := by decide +kernel
theorem dL_ways_427 : decode cL_ways 427 = .ok (.ifCond .lt 10, 3) := by decide +kernel
theorem dL_ways_430 : decode cL_ways 430 = .ok (.iload 18, 2) := by decide +kernel
theorem dL_ways_432 : decode cL_ways 432 = .ok (.bipush (-9), 2) := by decide +kernel
theorem dL_ways_434 : decode cL_ways 434 = .ok (.if_icmp .ne 8, 3) := by decide +kernel
theorem dL_ways_437 : decode cL_ways 437 = .ok (.bipush (-9), 2) := by decide +kernel
theorem dL_ways_439 : decode cL_ways 439 = .ok (.goto 8, 3) := by decide +kernel
theorem dL_ways_442 : decode cL_ways 442 = .ok (.iload 17, 2) := by decide +kernel
theorem dL_ways_444 : decode cL_ways 444 = .ok (.iload 18, 2) := by decide +kernel
theorem dL_ways_446 : decode cL_ways 446 = .ok (.iadd, 1) := by decide +kernel
theorem dL_ways_447 : decode cL_ways 447 = .ok (.istore 19, 2) := by decide +kernel
theorem dL_ways_449 : decode cL_ways 449 = .ok (.iload 19, 2) := by decide +kernel
theorem dL_ways_451 : decode cL_ways 451 = .ok (.bipush (-9), 2) := by decide +kernel
theorem dL_ways_453 : decode cL_ways 453 = .ok (.if_icmp .ne 8, 3) := by decide +kernel
theorem dL_ways_456 : decode cL_ways 456 = .ok (.iload 11, 2) := by decide +kernel
theorem dL_ways_458 : decode cL_ways 458 = .ok (.goto 24, 3) := by decide +kernel
theorem dL_ways_461 : decode cL_ways 461 = .ok (.iload 11, 2) := by decide +kernel
theorem dL_ways_463 : decode cL_ways 463 = .ok (.bipush (-9), 2) := by decide +kernel
theorem dL_ways_465 : decode cL_ways 465 = .ok (.if_icmp .eq 10, 3) := by decide +kernel
theorem dL_ways_468 : decode cL_ways 468 = .ok (.iload 19, 2) := by decide +kernel
theorem dL_ways_470 : decode cL_ways 470 = .ok (.iload 11, 2) := by decide +kernel
theorem dL_ways_472 : decode cL_ways 472 = .ok (.if_icmp .ge 8, 3) := by decide +kernel
theorem dL_ways_475 : decode cL_ways 475 = .ok (.iload 19, 2) := by decide +kernel
theorem dL_ways_477 : decode cL_ways 477 = .ok (.goto 5, 3) := by decide +kernel
theorem dL_ways_480 : decode cL_ways 480 = .ok (.iload 11, 2) := by decide +kernel
theorem dL_ways_482 : decode cL_ways 482 = .ok (.istore 11, 2) := by decide +kernel
theorem dL_ways_484 : decode cL_ways 484 = .ok (.iload 19, 2) := by decide +kernel
theorem dL_ways_486 : decode cL_ways 486 = .ok (.bipush (-9), 2) := by decide +kernel
theorem dL_ways_488 : decode cL_ways 488 = .ok (.if_icmp .eq 31, 3) := by decide +kernel
theorem dL_ways_491 : decode cL_ways 491 = .ok (.iload 7, 2) := by decide +kernel
theorem dL_ways_493 : decode cL_ways 493 = .ok (.bipush (-9), 2) := by decide +kernel
theorem dL_ways_495 : decode cL_ways 495 = .ok (.if_icmp .eq 28, 3) := by decide +kernel
theorem dL_ways_498 : decode cL_ways 498 = .ok (.iload 7, 2) := by decide +kernel
theorem dL_ways_500 : decode cL_ways 500 = .ok (.iload 19, 2) := by decide +kernel
theorem dL_ways_502 : decode cL_ways 502 = .ok (.if_icmp .gt 21, 3) := by decide +kernel
theorem dL_ways_505 : decode cL_ways 505 = .ok (.iload 12, 2) := by decide +kernel
theorem dL_ways_507 : decode cL_ways 507 = .ok (.iload 9, 2) := by decide +kernel
theorem dL_ways_509 : decode cL_ways 509 = .ok (.if_icmp .ne 10, 3) := by decide +kernel
theorem dL_ways_512 : decode cL_ways 512 = .ok (.iload 19, 2) := by decide +kernel
theorem dL_ways_514 : decode cL_ways 514 = .ok (.iload 7, 2) := by decide +kernel
theorem dL_ways_516 : decode cL_ways 516 = .ok (.if_icmp .ne 7, 3) := by decide +kernel
theorem dL_ways_519 : decode cL_ways 519 = .ok (.iconst 1, 1) := by decide +kernel
theorem dL_ways_520 : decode cL_ways 520 = .ok (.goto 4, 3) := by decide +kernel
theorem dL_ways_523 : decode cL_ways 523 = .ok (.iconst 0, 1) := by decide +kernel
theorem dL_ways_524 : decode cL_ways 524 = .ok (.istore 10, 2) := by decide +kernel
theorem dL_ways_526 : decode cL_ways 526 = .ok (.iinc 12 1, 3) := by decide +kernel
theorem dL_ways_529 : decode cL_ways 529 = .ok (.goto (-285), 3) := by decide +kernel
theorem dL_ways_532 : decode cL_ways 532 = .ok (.iload 10, 2) := by decide +kernel
theorem dL_ways_534 : decode cL_ways 534 = .ok (.ifCond .eq 14, 3) := by decide +kernel
theorem dL_ways_537 : decode cL_ways 537 = .ok (.iload 11, 2) := by decide +kernel
theorem dL_ways_539 : decode cL_ways 539 = .ok (.iload 7, 2) := by decide +kernel
theorem dL_ways_541 : decode cL_ways 541 = .ok (.if_icmp .ne 7, 3) := by decide +kernel
theorem dL_ways_544 : decode cL_ways 544 = .ok (.iconst 1, 1) := by decide +kernel
theorem dL_ways_545 : decode cL_ways 545 = .ok (.goto 4, 3) := by decide +kernel
theorem dL_ways_548 : decode cL_ways 548 = .ok (.iconst 0, 1) := by decide +kernel
theorem dL_ways_549 : decode cL_ways 549 = .ok (.ireturn, 1) := by decide +kernel
theorem dL_hands_0 : decode cL_hands 0 = .ok (.aload_n 0, 1) := by decide +kernel
theorem dL_hands_1 : decode cL_hands 1 = .ok (.iconst 4, 1) := by decide +kernel
theorem dL_hands_2 : decode cL_hands 2 = .ok (.invokestatic 127, 3) := by decide +kernel
theorem dL_hands_5 : decode cL_hands 5 = .ok (.istore_n 2, 1) := by decide +kernel
theorem dL_hands_6 : decode cL_hands 6 = .ok (.iload_n 1, 1) := by decide +kernel
theorem dL_hands_7 : decode cL_hands 7 = .ok (.iconst 4, 1) := by decide +kernel
theorem dL_hands_8 : decode cL_hands 8 = .ok (.irem, 1) := by decide +kernel
theorem dL_hands_9 : decode cL_hands 9 = .ok (.istore_n 3, 1) := by decide +kernel
theorem dL_hands_10 : decode cL_hands 10 = .ok (.aload_n 0, 1) := by decide +kernel
theorem dL_hands_11 : decode cL_hands 11 = .ok (.iload_n 3, 1) := by decide +kernel
theorem dL_hands_12 : decode cL_hands 12 = .ok (.iconst 0, 1) := by decide +kernel
theorem dL_hands_13 : decode cL_hands 13 = .ok (.invokestatic 130, 3) := by decide +kernel
theorem dL_hands_16 : decode cL_hands 16 = .ok (.istore 4, 2) := by decide +kernel
theorem dL_hands_18 : decode cL_hands 18 = .ok (.aload_n 0, 1) := by decide +kernel
theorem dL_hands_19 : decode cL_hands 19 = .ok (.iconst 5, 1) := by decide +kernel
theorem dL_hands_20 : decode cL_hands 20 = .ok (.invokestatic 127, 3) := by decide +kernel
theorem dL_hands_23 : decode cL_hands 23 = .ok (.istore 5, 2) := by decide +kernel
theorem dL_hands_25 : decode cL_hands 25 = .ok (.aload_n 0, 1) := by decide +kernel
theorem dL_hands_26 : decode cL_hands 26 = .ok (.iconst 0, 1) := by decide +kernel
theorem dL_hands_27 : decode cL_hands 27 = .ok (.invokestatic 201, 3) := by decide +kernel
theorem dL_hands_30 : decode cL_hands 30 = .ok (.iload_n 2, 1) := by decide +kernel
theorem dL_hands_31 : decode cL_hands 31 = .ok (.if_icmp .ne 15, 3) := by decide +kernel
theorem dL_hands_34 : decode cL_hands 34 = .ok (.aload_n 0, 1) := by decide +kernel
theorem dL_hands_35 : decode cL_hands 35 = .ok (.iload_n 1, 1) := by decide +kernel
theorem dL_hands_36 : decode cL_hands 36 = .ok (.invokestatic 204, 3) := by decide +kernel
theorem dL_hands_39 : decode cL_hands 39 = .ok (.ifCond .eq 7, 3) := by decide +kernel
theorem dL_hands_42 : decode cL_hands 42 = .ok (.iconst 1, 1) := by decide +kernel
theorem dL_hands_43 : decode cL_hands 43 = .ok (.goto 4, 3) := by decide +kernel
theorem dL_hands_46 : decode cL_hands 46 = .ok (.iconst 0, 1) := by decide +kernel
theorem dL_hands_47 : decode cL_hands 47 = .ok (.istore 6, 2) := by decide +kernel
theorem dL_hands_49 : decode cL_hands 49 = .ok (.aload_n 0, 1) := by decide +kernel
theorem dL_hands_50 : decode cL_hands 50 = .ok (.iconst 1, 1) := by decide +kernel
theorem dL_hands_51 : decode cL_hands 51 = .ok (.invokestatic 127, 3) := by decide +kernel
theorem dL_hands_54 : decode cL_hands 54 = .ok (.istore 7, 2) := by decide +kernel
theorem dL_hands_56 : decode cL_hands 56 = .ok (.iload_n 1, 1) := by decide +kernel
theorem dL_hands_57 : decode cL_hands 57 = .ok (.iconst 4, 1) := by decide +kernel
theorem dL_hands_58 : decode cL_hands 58 = .ok (.idiv, 1) := by decide +kernel
theorem dL_hands_59 : decode cL_hands 59 = .ok (.iload 7, 2) := by decide +kernel
theorem dL_hands_61 : decode cL_hands 61 = .ok (.irem, 1) := by decide +kernel
theorem dL_hands_62 : decode cL_hands 62 = .ok (.istore 8, 2) := by decide +kernel
theorem dL_hands_64 : decode cL_hands 64 = .ok (.iconst 3, 1) := by decide +kernel
theorem dL_hands_65 : decode cL_hands 65 = .ok (.aload_n 0, 1) := by decide +kernel
theorem dL_hands_66 : decode cL_hands 66 = .ok (.iload 8, 2) := by decide +kernel
theorem dL_hands_68 : decode cL_hands 68 = .ok (.iconst 2, 1) := by decide +kernel
theorem dL_hands_69 : decode cL_hands 69 = .ok (.invokestatic 144, 3) := by decide +kernel
theorem dL_hands_72 : decode cL_hands 72 = .ok (.imul, 1) := by decide +kernel
theorem dL_hands_73 : decode cL_hands 73 = .ok (.istore 9, 2) := by decide +kernel
theorem dL_hands_75 : decode cL_hands 75 = .ok (.aload_n 0, 1) := by decide +kernel
theorem dL_hands_76 : decode cL_hands 76 = .ok (.iload 8, 2) := by decide +kernel
theorem dL_hands_78 : decode cL_hands 78 = .ok (.iconst 3, 1) := by decide +kernel
theorem dL_hands_79 : decode cL_hands 79 = .ok (.invokestatic 144, 3) := by decide +kernel
theorem dL_hands_82 : decode cL_hands 82 = .ok (.istore 10, 2) := by decide +kernel
theorem dL_hands_84 : decode cL_hands 84 = .ok (.iload 10, 2) := by decide +kernel
theorem dL_hands_86 : decode cL_hands 86 = .ok (.bipush (-9), 2) := by decide +kernel
theorem dL_hands_88 : decode cL_hands 88 = .ok (.if_icmp .ne 14, 3) := by decide +kernel
theorem dL_hands_91 : decode cL_hands 91 = .ok (.iload 4, 2) := by decide +kernel
theorem dL_hands_93 : decode cL_hands 93 = .ok (.iload 9, 2) := by decide +kernel
theorem dL_hands_95 : decode cL_hands 95 = .ok (.if_icmp .lt 7, 3) := by decide +kernel
theorem dL_hands_98 : decode cL_hands 98 = .ok (.iconst 1, 1) := by decide +kernel
theorem dL_hands_99 : decode cL_hands 99 = .ok (.goto 4, 3) := by decide +kernel
theorem dL_hands_102 : decode cL_hands 102 = .ok (.iconst 0, 1) := by decide +kernel
theorem dL_hands_103 : decode cL_hands 103 = .ok (.istore 11, 2) := by decide +kernel
theorem dL_hands_105 : decode cL_hands 105 = .ok (.iload 6, 2) := by decide +kernel
theorem dL_hands_107 : decode cL_hands 107 = .ok (.ifCond .eq 91, 3) := by decide +kernel
theorem dL_hands_110 : decode cL_hands 110 = .ok (.aload_n 0, 1) := by decide +kernel
theorem dL_hands_111 : decode cL_hands 111 = .ok (.iload_n 3, 1) := by decide +kernel
theorem dL_hands_112 : decode cL_hands 112 = .ok (.iload 8, 2) := by decide +kernel
theorem dL_hands_114 : decode cL_hands 114 = .ok (.invokestatic 150, 3) := by decide +kernel
theorem dL_hands_117 : decode cL_hands 117 = .ok (.iload 11, 2) := by decide +kernel
theorem dL_hands_119 : decode cL_hands 119 = .ok (.ifCond .eq 11, 3) := by decide +kernel
theorem dL_hands_122 : decode cL_hands 122 = .ok (.iload 4, 2) := by decide +kernel
theorem dL_hands_124 : decode cL_hands 124 = .ok (.iload 9, 2) := by decide +kernel
theorem dL_hands_126 : decode cL_hands 126 = .ok (.isub, 1) := by decide +kernel
theorem dL_hands_127 : decode cL_hands 127 = .ok (.goto 5, 3) := by decide +kernel
theorem dL_hands_130 : decode cL_hands 130 = .ok (.ldc 18, 2) := by decide +kernel
theorem dL_hands_132 : decode cL_hands 132 = .ok (.if_icmp .ne 66, 3) := by decide +kernel
theorem dL_hands_135 : decode cL_hands 135 = .ok (.aload_n 0, 1) := by decide +kernel
theorem dL_hands_136 : decode cL_hands 136 = .ok (.iconst 5, 1) := by decide +kernel
theorem dL_hands_137 : decode cL_hands 137 = .ok (.invokestatic 127, 3) := by decide +kernel
theorem dL_hands_140 : decode cL_hands 140 = .ok (.iload 5, 2) := by decide +kernel
theorem dL_hands_142 : decode cL_hands 142 = .ok (.iload 11, 2) := by decide +kernel
theorem dL_hands_144 : decode cL_hands 144 = .ok (.ifCond .eq 8, 3) := by decide +kernel
theorem dL_hands_147 : decode cL_hands 147 = .ok (.iload 9, 2) := by decide +kernel
theorem dL_hands_149 : decode cL_hands 149 = .ok (.goto 4, 3) := by decide +kernel
theorem dL_hands_152 : decode cL_hands 152 = .ok (.iconst 0, 1) := by decide +kernel
theorem dL_hands_153 : decode cL_hands 153 = .ok (.iadd, 1) := by decide +kernel
theorem dL_hands_154 : decode cL_hands 154 = .ok (.if_icmp .ne 44, 3) := by decide +kernel
theorem dL_hands_157 : decode cL_hands 157 = .ok (.aload_n 0, 1) := by decide +kernel
theorem dL_hands_158 : decode cL_hands 158 = .ok (.iload 8, 2) := by decide +kernel
theorem dL_hands_160 : decode cL_hands 160 = .ok (.iconst 3, 1) := by decide +kernel
theorem dL_hands_161 : decode cL_hands 161 = .ok (.invokestatic 144, 3) := by decide +kernel
theorem dL_hands_164 : decode cL_hands 164 = .ok (.iload 11, 2) := by decide +kernel
theorem dL_hands_166 : decode cL_hands 166 = .ok (.ifCond .eq 7, 3) := by decide +kernel
theorem dL_hands_169 : decode cL_hands 169 = .ok (.iload_n 3, 1) := by decide +kernel
theorem dL_hands_170 : decode cL_hands 170 = .ok (.goto 5, 3) := by decide +kernel
theorem dL_hands_173 : decode cL_hands 173 = .ok (.iload 10, 2) := by decide +kernel
theorem dL_hands_175 : decode cL_hands 175 = .ok (.if_icmp .ne 23, 3) := by decide +kernel
theorem dL_hands_178 : decode cL_hands 178 = .ok (.aload_n 0, 1) := by decide +kernel
theorem dL_hands_179 : decode cL_hands 179 = .ok (.invokestatic 208, 3) := by decide +kernel
theorem dL_hands_182 : decode cL_hands 182 = .ok (.ifCond .eq 16, 3) := by decide +kernel
theorem dL_hands_185 : decode cL_hands 185 = .ok (.aload_n 0, 1) := by decide +kernel
theorem dL_hands_186 : decode cL_hands 186 = .ok (.iconst 0, 1) := by decide +kernel
theorem dL_hands_187 : decode cL_hands 187 = .ok (.invokestatic 137, 3) := by decide +kernel
theorem dL_hands_190 : decode cL_hands 190 = .ok (.iload_n 2, 1) := by decide +kernel
theorem dL_hands_191 : decode cL_hands 191 = .ok (.if_icmp .ne 7, 3) := by decide +kernel
theorem dL_hands_194 : decode cL_hands 194 = .ok (.iconst 1, 1) := by decide +kernel
theorem dL_hands_195 : decode cL_hands 195 = .ok (.goto 4, 3) := by decide +kernel
theorem dL_hands_198 : decode cL_hands 198 = .ok (.iconst 0, 1) := by decide +kernel
theorem dL_hands_199 : decode cL_hands 199 = .ok (.istore 6, 2) := by decide +kernel
theorem dL_hands_201 : decode cL_hands 201 = .ok (.aload_n 0, 1) := by decide +kernel
theorem dL_hands_202 : decode cL_hands 202 = .ok (.iconst 3, 1) := by decide +kernel
theorem dL_hands_203 : decode cL_hands 203 = .ok (.invokestatic 127, 3) := by decide +kernel
theorem dL_hands_206 : decode cL_hands 206 = .ok (.istore 12, 2) := by decide +kernel
theorem dL_hands_208 : decode cL_hands 208 = .ok (.iconst 1, 1) := by decide +kernel
theorem dL_hands_209 : decode cL_hands 209 = .ok (.iload_n 1, 1) := by decide +kernel
theorem dL_hands_210 : decode cL_hands 210 = .ok (.bipush 64, 2) := by decide +kernel
theorem dL_hands_212 : decode cL_hands 212 = .ok (.idiv, 1) := by decide +kernel
theorem dL_hands_213 : decode cL_hands 213 = .ok (.bipush 6, 2) := by decide +kernel
theorem dL_hands_215 : decode cL_hands 215 = .ok (.irem, 1) := by decide +kernel
theorem dL_hands_216 : decode cL_hands 216 = .ok (.iadd, 1) := by decide +kernel
theorem dL_hands_217 : decode cL_hands 217 = .ok (.istore 13, 2) := by decide +kernel
theorem dL_hands_219 : decode cL_hands 219 = .ok (.aload_n 0, 1) := by decide +kernel
theorem dL_hands_220 : decode cL_hands 220 = .ok (.iload_n 3, 1) := by decide +kernel
theorem dL_hands_221 : decode cL_hands 221 = .ok (.iconst 2, 1) := by decide +kernel
theorem dL_hands_222 : decode cL_hands 222 = .ok (.invokestatic 130, 3) := by decide +kernel
theorem dL_hands_225 : decode cL_hands 225 = .ok (.istore 14, 2) := by decide +kernel
theorem dL_hands_227 : decode cL_hands 227 = .ok (.aload_n 0, 1) := by decide +kernel
theorem dL_hands_228 : decode cL_hands 228 = .ok (.bipush 10, 2) := by decide +kernel
theorem dL_hands_230 : decode cL_hands 230 = .ok (.invokestatic 127, 3) := by decide +kernel
theorem dL_hands_233 : decode cL_hands 233 = .ok (.istore 15, 2) := by decide +kernel
theorem dL_hands_235 : decode cL_hands 235 = .ok (.iload 13, 2) := by decide +kernel
theorem dL_hands_237 : decode cL_hands 237 = .ok (.iload 12, 2) := by decide +kernel
theorem dL_hands_239 : decode cL_hands 239 = .ok (.iconst 1, 1) := by decide +kernel
theorem dL_hands_240 : decode cL_hands 240 = .ok (.isub, 1) := by decide +kernel
theorem dL_hands_241 : decode cL_hands 241 = .ok (.if_icmp .lt 32, 3) := by decide +kernel
theorem dL_hands_244 : decode cL_hands 244 = .ok (.iload 13, 2) := by decide +kernel
theorem dL_hands_246 : decode cL_hands 246 = .ok (.iload 12, 2) := by decide +kernel
theorem dL_hands_248 : decode cL_hands 248 = .ok (.iconst 1, 1) := by decide +kernel
theorem dL_hands_249 : decode cL_hands 249 = .ok (.iadd, 1) := by decide +kernel
theorem dL_hands_250 : decode cL_hands 250 = .ok (.if_icmp .gt 23, 3) := by decide +kernel
theorem dL_hands_253 : decode cL_hands 253 = .ok (.iload 14, 2) := by decide +kernel
theorem dL_hands_255 : decode cL_hands 255 = .ok (.iconst 4, 1) := by decide +kernel
theorem dL_hands_256 : decode cL_hands 256 = .ok (.if_icmp .ge 17, 3) := by decide +kernel
theorem dL_hands_259 : decode cL_hands 259 = .ok (.iload 4, 2) := by decide +kernel
theorem dL_hands_261 : decode cL_hands 261 = .ok (.bipush 20, 2) := by decide +kernel
theorem dL_hands_263 : decode cL_hands 263 = .ok (.iload 13, 2) := by decide +kernel
theorem dL_hands_265 : decode cL_hands 265 = .ok (.imul, 1) := by decide +kernel
theorem dL_hands_266 : decode cL_hands 266 = .ok (.if_icmp .lt 7, 3) := by decide +kernel
theorem dL_hands_269 : decode cL_hands 269 = .ok (.iconst 1, 1) := by decide +kernel
theorem dL_hands_270 : decode cL_hands 270 = .ok (.goto 4, 3) := by decide +kernel
theorem dL_hands_273 : decode cL_hands 273 = .ok (.iconst 0, 1) := by decide +kernel
theorem dL_hands_274 : decode cL_hands 274 = .ok (.istore 16, 2) := by decide +kernel
theorem dL_hands_276 : decode cL_hands 276 = .ok (.iconst 0, 1) := by decide +kernel
theorem dL_hands_277 : decode cL_hands 277 = .ok (.istore 17, 2) := by decide +kernel
theorem dL_hands_279 : decode cL_hands 279 = .ok (.iconst 0, 1) := by decide +kernel
theorem dL_hands_280 : decode cL_hands 280 = .ok (.istore 18, 2) := by decide +kernel
theorem dL_hands_282 : decode cL_hands 282 = .ok (.iconst 0, 1) := by decide +kernel
theorem dL_hands_283 : decode cL_hands 283 = .ok (.istore 19, 2) := by decide +kernel
theorem dL_hands_285 : decode cL_hands 285 = .ok (.iload 19, 2) := by decide +kernel
theorem dL_hands_287 : decode cL_hands 287 = .ok (.iconst 4, 1) := by decide +kernel
theorem dL_hands_288 : decode cL_hands 288 = .ok (.if_icmp .ge 64, 3) := by decide +kernel
theorem dL_hands_291 : decode cL_hands 291 = .ok (.iconst 0, 1) := by decide +kernel
theorem dL_hands_292 : decode cL_hands 292 = .ok (.istore 20, 2) := by decide +kernel
theorem dL_hands_294 : decode cL_hands 294 = .ok (.iload 20, 2) := by decide +kernel
theorem dL_hands_296 : decode cL_hands 296 = .ok (.aload_n 0, 1) := by decide +kernel
theorem dL_hands_297 : decode cL_hands 297 = .ok (.iload 19, 2) := by decide +kernel
theorem dL_hands_299 : decode cL_hands 299 = .ok (.iconst 2, 1) := by decide +kernel
theorem dL_hands_300 : decode cL_hands 300 = .ok (.invokestatic 130, 3) := by decide +kernel
theorem dL_hands_303 : decode cL_hands 303 = .ok (.if_icmp .ge 43, 3) := by decide +kernel
theorem dL_hands_306 : decode cL_hands 306 = .ok (.iinc 17 1, 3) := by decide +kernel
theorem dL_hands_309 : decode cL_hands 309 = .ok (.iload 18, 2) := by decide +kernel
theorem dL_hands_311 : decode cL_hands 311 = .ok (.iload 13, 2) := by decide +kernel
theorem dL_hands_313 : decode cL_hands 313 = .ok (.iload 12, 2) := by decide +kernel
theorem dL_hands_315 : decode cL_hands 315 = .ok (.if_icmp .le 21, 3) := by decide +kernel
theorem dL_hands_318 : decode cL_hands 318 = .ok (.aload_n 0, 1) := by decide +kernel
theorem dL_hands_319 : decode cL_hands 319 = .ok (.iload 19, 2) := by decide +kernel
theorem dL_hands_321 : decode cL_hands 321 = .ok (.iload 20, 2) := by decide +kernel
theorem dL_hands_323 : decode cL_hands 323 = .ok (.iconst 0, 1) := by decide +kernel
theorem dL_hands_324 : decode cL_hands 324 = .ok (.invokestatic 140, 3) := by decide +kernel
theorem dL_hands_327 : decode cL_hands 327 = .ok (.iload 12, 2) := by decide +kernel
theorem dL_hands_329 : decode cL_hands 329 = .ok (.if_icmp .ge 7, 3) := by decide +kernel
theorem dL_hands_332 : decode cL_hands 332 = .ok (.iconst 1, 1) := by decide +kernel
theorem dL_hands_333 : decode cL_hands 333 = .ok (.goto 4, 3) := by decide +kernel
theorem dL_hands_336 : decode cL_hands 336 = .ok (.iconst 0, 1) := by decide +kernel
theorem dL_hands_337 : decode cL_hands 337 = .ok (.iadd, 1) := by decide +kernel
theorem dL_hands_338 : decode cL_hands 338 = .ok (.istore 18, 2) := by decide +kernel
theorem dL_hands_340 : decode cL_hands 340 = .ok (.iinc 20 1, 3) := by decide +kernel
theorem dL_hands_343 : decode cL_hands 343 = .ok (.goto (-49), 3) := by decide +kernel
theorem dL_hands_346 : decode cL_hands 346 = .ok (.iinc 19 1, 3) := by decide +kernel
theorem dL_hands_349 : decode cL_hands 349 = .ok (.goto (-64), 3) := by decide +kernel
theorem dL_hands_352 : decode cL_hands 352 = .ok (.iload 6, 2) := by decide +kernel
theorem dL_hands_354 : decode cL_hands 354 = .ok (.ifCond .eq 112, 3) := by decide +kernel
theorem dL_hands_357 : decode cL_hands 357 = .ok (.aload_n 0, 1) := by decide +kernel
theorem dL_hands_358 : decode cL_hands 358 = .ok (.iload_n 3, 1) := by decide +kernel
theorem dL_hands_359 : decode cL_hands 359 = .ok (.iload 13, 2) := by decide +kernel
theorem dL_hands_361 : decode cL_hands 361 = .ok (.invokestatic 153, 3) := by decide +kernel
theorem dL_hands_364 : decode cL_hands 364 = .ok (.iload 16, 2) := by decide +kernel
theorem dL_hands_366 : decode cL_hands 366 = .ok (.ifCond .eq 8, 3) := by decide +kernel
theorem dL_hands_369 : decode cL_hands 369 = .ok (.iload 18, 2) := by decide +kernel
theorem dL_hands_371 : decode cL_hands 371 = .ok (.goto 5, 3) := by decide +kernel
theorem dL_hands_374 : decode cL_hands 374 = .ok (.ldc 18, 2) := by decide +kernel
theorem dL_hands_376 : decode cL_hands 376 = .ok (.if_icmp .ne 90, 3) := by decide +kernel
theorem dL_hands_379 : decode cL_hands 379 = .ok (.aload_n 0, 1) := by decide +kernel
theorem dL_hands_380 : decode cL_hands 380 = .ok (.iconst 3, 1) := by decide +kernel
theorem dL_hands_381 : decode cL_hands 381 = .ok (.invokestatic 127, 3) := by decide +kernel
theorem dL_hands_384 : decode cL_hands 384 = .ok (.iload 16, 2) := by decide +kernel
theorem dL_hands_386 : decode cL_hands 386 = .ok (.ifCond .eq 15, 3) := by decide +kernel
theorem dL_hands_389 : decode cL_hands 389 = .ok (.iload 13, 2) := by decide +kernel
theorem dL_hands_391 : decode cL_hands 391 = .ok (.iload 12, 2) := by decide +kernel
theorem dL_hands_393 : decode cL_hands 393 = .ok (.if_icmp .le 8, 3) := by decide +kernel
theorem dL_hands_396 : decode cL_hands 396 = .ok (.iload 13, 2) := by decide +kernel
theorem dL_hands_398 : decode cL_hands 398 = .ok (.goto 5, 3) := by decide +kernel
theorem dL_hands_401 : decode cL_hands 401 = .ok (.iload 12, 2) := by decide +kernel
theorem dL_hands_403 : decode cL_hands 403 = .ok (.if_icmp .ne 63, 3) := by decide +kernel
theorem dL_hands_406 : decode cL_hands 406 = .ok (.aload_n 0, 1) := by decide +kernel
theorem dL_hands_407 : decode cL_hands 407 = .ok (.bipush 10, 2) := by decide +kernel
theorem dL_hands_409 : decode cL_hands 409 = .ok (.invokestatic 127, 3) := by decide +kernel
theorem dL_hands_412 : decode cL_hands 412 = .ok (.iload 15, 2) := by decide +kernel
theorem dL_hands_414 : decode cL_hands 414 = .ok (.iload 16, 2) := by decide +kernel
theorem dL_hands_416 : decode cL_hands 416 = .ok (.ifCond .eq 8, 3) := by decide +kernel
theorem dL_hands_419 : decode cL_hands 419 = .ok (.iload 18, 2) := by decide +kernel
theorem dL_hands_421 : decode cL_hands 421 = .ok (.goto 4, 3) := by decide +kernel
theorem dL_hands_424 : decode cL_hands 424 = .ok (.iconst 0, 1) := by decide +kernel
theorem dL_hands_425 : decode cL_hands 425 = .ok (.iadd, 1) := by decide +kernel
theorem dL_hands_426 : decode cL_hands 426 = .ok (.if_icmp .ne 40, 3) := by decide +kernel
theorem dL_hands_429 : decode cL_hands 429 = .ok (.aload_n 0, 1) := by decide +kernel
theorem dL_hands_430 : decode cL_hands 430 = .ok (.iload_n 3, 1) := by decide +kernel
theorem dL_hands_431 : decode cL_hands 431 = .ok (.iconst 0, 1) := by decide +kernel
theorem dL_hands_432 : decode cL_hands 432 = .ok (.invokestatic 130, 3) := by decide +kernel
theorem dL_hands_435 : decode cL_hands 435 = .ok (.iload 4, 2) := by decide +kernel
theorem dL_hands_437 : decode cL_hands 437 = .ok (.iload 16, 2) := by decide +kernel
theorem dL_hands_439 : decode cL_hands 439 = .ok (.ifCond .eq 11, 3) := by decide +kernel
theorem dL_hands_442 : decode cL_hands 442 = .ok (.bipush 20, 2) := by decide +kernel
theorem dL_hands_444 : decode cL_hands 444 = .ok (.iload 13, 2) := by decide +kernel
theorem dL_hands_446 : decode cL_hands 446 = .ok (.imul, 1) := by decide +kernel
theorem dL_hands_447 : decode cL_hands 447 = .ok (.goto 4, 3) := by decide +kernel
theorem dL_hands_450 : decode cL_hands 450 = .ok (.iconst 0, 1) := by decide +kernel
theorem dL_hands_451 : decode cL_hands 451 = .ok (.isub, 1) := by decide +kernel
theorem dL_hands_452 : decode cL_hands 452 = .ok (.if_icmp .ne 14, 3) := by decide +kernel
theorem dL_hands_455 : decode cL_hands 455 = .ok (.aload_n 0, 1) := by decide +kernel
theorem dL_hands_456 : decode cL_hands 456 = .ok (.invokestatic 208, 3) := by decide +kernel
theorem dL_hands_459 : decode cL_hands 459 = .ok (.ifCond .eq 7, 3) := by decide +kernel
theorem dL_hands_462 : decode cL_hands 462 = .ok (.iconst 1, 1) := by decide +kernel
theorem dL_hands_463 : decode cL_hands 463 = .ok (.goto 4, 3) := by decide +kernel
theorem dL_hands_466 : decode cL_hands 466 = .ok (.iconst 0, 1) := by decide +kernel
theorem dL_hands_467 : decode cL_hands 467 = .ok (.istore 6, 2) := by decide +kernel
theorem dL_hands_469 : decode cL_hands 469 = .ok (.iconst 0, 1) := by decide +kernel
theorem dL_hands_470 : decode cL_hands 470 = .ok (.istore 19, 2) := by decide +kernel
theorem dL_hands_472 : decode cL_hands 472 = .ok (.iconst 0, 1) := by decide +kernel
theorem dL_hands_473 : decode cL_hands 473 = .ok (.istore 20, 2) := by decide +kernel
theorem dL_hands_475 : decode cL_hands 475 = .ok (.iload 20, 2) := by decide +kernel
theorem dL_hands_477 : decode cL_hands 477 = .ok (.iconst 4, 1) := by decide +kernel
theorem dL_hands_478 : decode cL_hands 478 = .ok (.if_icmp .ge 21, 3) := by decide +kernel
theorem dL_hands_481 : decode cL_hands 481 = .ok (.iload 19, 2) := by decide +kernel
theorem dL_hands_483 : decode cL_hands 483 = .ok (.aload_n 0, 1) := by decide +kernel
theorem dL_hands_484 : decode cL_hands 484 = .ok (.iload 20, 2) := by decide +kernel
theorem dL_hands_486 : decode cL_hands 486 = .ok (.iconst 2, 1) := by decide +kernel
theorem dL_hands_487 : decode cL_hands 487 = .ok (.invokestatic 130, 3) := by decide +kernel
theorem dL_hands_490 : decode cL_hands 490 = .ok (.iadd, 1) := by decide +kernel
theorem dL_hands_491 : decode cL_hands 491 = .ok (.istore 19, 2) := by decide +kernel
theorem dL_hands_493 : decode cL_hands 493 = .ok (.iinc 20 1, 3) := by decide +kernel
theorem dL_hands_496 : decode cL_hands 496 = .ok (.goto (-21), 3) := by decide +kernel
theorem dL_hands_499 : decode cL_hands 499 = .ok (.iload 6, 2) := by decide +kernel
theorem dL_hands_501 : decode cL_hands 501 = .ok (.ifCond .eq 37, 3) := by decide +kernel
theorem dL_hands_504 : decode cL_hands 504 = .ok (.iload 19, 2) := by decide +kernel
theorem dL_hands_506 : decode cL_hands 506 = .ok (.iload 17, 2) := by decide +kernel
theorem dL_hands_508 : decode cL_hands 508 = .ok (.iload 16, 2) := by decide +kernel
theorem dL_hands_510 : decode cL_hands 510 = .ok (.ifCond .eq 10, 3) := by decide +kernel
theorem dL_hands_513 : decode cL_hands 513 = .ok (.iconst 1, 1) := by decide +kernel
theorem dL_hands_514 : decode cL_hands 514 = .ok (.iload 18, 2) := by decide +kernel
theorem dL_hands_516 : decode cL_hands 516 = .ok (.isub, 1) := by decide +kernel
theorem dL_hands_517 : decode cL_hands 517 = .ok (.goto 4, 3) := by decide +kernel
theorem dL_hands_520 : decode cL_hands 520 = .ok (.iconst 0, 1) := by decide +kernel
theorem dL_hands_521 : decode cL_hands 521 = .ok (.iadd, 1) := by decide +kernel
theorem dL_hands_522 : decode cL_hands 522 = .ok (.if_icmp .ne 16, 3) := by decide +kernel
theorem dL_hands_525 : decode cL_hands 525 = .ok (.aload_n 0, 1) := by decide +kernel
theorem dL_hands_526 : decode cL_hands 526 = .ok (.iconst 0, 1) := by decide +kernel
theorem dL_hands_527 : decode cL_hands 527 = .ok (.invokestatic 137, 3) := by decide +kernel
theorem dL_hands_530 : decode cL_hands 530 = .ok (.iload_n 2, 1) := by decide +kernel
theorem dL_hands_531 : decode cL_hands 531 = .ok (.if_icmp .ne 7, 3) := by decide +kernel
theorem dL_hands_534 : decode cL_hands 534 = .ok (.iconst 1, 1) := by decide +kernel
theorem dL_hands_535 : decode cL_hands 535 = .ok (.goto 4, 3) := by decide +kernel
theorem dL_hands_538 : decode cL_hands 538 = .ok (.iconst 0, 1) := by decide +kernel
theorem dL_hands_539 : decode cL_hands 539 = .ok (.istore 6, 2) := by decide +kernel
theorem dL_hands_541 : decode cL_hands 541 = .ok (.aload_n 0, 1) := by decide +kernel
theorem dL_hands_542 : decode cL_hands 542 = .ok (.iconst 2, 1) := by decide +kernel
theorem dL_hands_543 : decode cL_hands 543 = .ok (.invokestatic 127, 3) := by decide +kernel
theorem dL_hands_546 : decode cL_hands 546 = .ok (.istore 20, 2) := by decide +kernel
theorem dL_hands_548 : decode cL_hands 548 = .ok (.iload 20, 2) := by decide +kernel
theorem dL_hands_550 : decode cL_hands 550 = .ok (.ifCond .le 796, 3) := by decide +kernel
theorem dL_hands_553 : decode cL_hands 553 = .ok (.iload 6, 2) := by decide +kernel
theorem dL_hands_555 : decode cL_hands 555 = .ok (.ifCond .eq 791, 3) := by decide +kernel
theorem dL_hands_558 : decode cL_hands 558 = .ok (.iload_n 1, 1) := by decide +kernel
theorem dL_hands_559 : decode cL_hands 559 = .ok (.bipush 16, 2) := by decide +kernel
theorem dL_hands_561 : decode cL_hands 561 = .ok (.idiv, 1) := by decide +kernel
theorem dL_hands_562 : decode cL_hands 562 = .ok (.iload 20, 2) := by decide +kernel
theorem dL_hands_564 : decode cL_hands 564 = .ok (.irem, 1) := by decide +kernel
theorem dL_hands_565 : decode cL_hands 565 = .ok (.istore 21, 2) := by decide +kernel
theorem dL_hands_567 : decode cL_hands 567 = .ok (.aload_n 0, 1) := by decide +kernel
theorem dL_hands_568 : decode cL_hands 568 = .ok (.iload 21, 2) := by decide +kernel
theorem dL_hands_570 : decode cL_hands 570 = .ok (.iconst 4, 1) := by decide +kernel
theorem dL_hands_571 : decode cL_hands 571 = .ok (.invokestatic 147, 3) := by decide +kernel
theorem dL_hands_574 : decode cL_hands 574 = .ok (.istore 22, 2) := by decide +kernel
theorem dL_hands_576 : decode cL_hands 576 = .ok (.aload_n 0, 1) := by decide +kernel
theorem dL_hands_577 : decode cL_hands 577 = .ok (.iload_n 3, 1) := by decide +kernel
theorem dL_hands_578 : decode cL_hands 578 = .ok (.iconst 4, 1) := by decide +kernel
theorem dL_hands_579 : decode cL_hands 579 = .ok (.invokestatic 130, 3) := by decide +kernel
theorem dL_hands_582 : decode cL_hands 582 = .ok (.istore 23, 2) := by decide +kernel
theorem dL_hands_584 : decode cL_hands 584 = .ok (.aload_n 0, 1) := by decide +kernel
theorem dL_hands_585 : decode cL_hands 585 = .ok (.iload_n 3, 1) := by decide +kernel
theorem dL_hands_586 : decode cL_hands 586 = .ok (.iload 21, 2) := by decide +kernel
theorem dL_hands_588 : decode cL_hands 588 = .ok (.invokestatic 176, 3) := by decide +kernel
theorem dL_hands_591 : decode cL_hands 591 = .ok (.istore 24, 2) := by decide +kernel
theorem dL_hands_593 : decode cL_hands 593 = .ok (.aload_n 0, 1) := by decide +kernel
theorem dL_hands_594 : decode cL_hands 594 = .ok (.iload 21, 2) := by decide +kernel
theorem dL_hands_596 : decode cL_hands 596 = .ok (.iconst 0, 1) := by decide +kernel
theorem dL_hands_597 : decode cL_hands 597 = .ok (.invokestatic 147, 3) := by decide +kernel
theorem dL_hands_600 : decode cL_hands 600 = .ok (.istore 25, 2) := by decide +kernel
theorem dL_hands_602 : decode cL_hands 602 = .ok (.aload_n 0, 1) := by decide +kernel
theorem dL_hands_603 : decode cL_hands 603 = .ok (.iload 21, 2) := by decide +kernel
theorem dL_hands_605 : decode cL_hands 605 = .ok (.iconst 1, 1) := by decide +kernel
theorem dL_hands_606 : decode cL_hands 606 = .ok (.invokestatic 147, 3) := by decide +kernel
theorem dL_hands_609 : decode cL_hands 609 = .ok (.istore 26, 2) := by decide +kernel
theorem dL_hands_611 : decode cL_hands 611 = .ok (.iload 24, 2) := by decide +kernel
theorem dL_hands_613 : decode cL_hands 613 = .ok (.bipush (-9), 2) := by decide +kernel
theorem dL_hands_615 : decode cL_hands 615 = .ok (.if_icmp .ne 23, 3) := by decide +kernel
theorem dL_hands_618 : decode cL_hands 618 = .ok (.aload_n 0, 1) := by decide +kernel
theorem dL_hands_619 : decode cL_hands 619 = .ok (.iload_n 3, 1) := by decide +kernel
theorem dL_hands_620 : decode cL_hands 620 = .ok (.iload 25, 2) := by decide +kernel
theorem dL_hands_622 : decode cL_hands 622 = .ok (.iload 26, 2) := by decide +kernel
theorem dL_hands_624 : decode cL_hands 624 = .ok (.bipush 24, 2) := by decide +kernel
theorem dL_hands_626 : decode cL_hands 626 = .ok (.iconst 0, 1) := by decide +kernel
theorem dL_hands_627 : decode cL_hands 627 = .ok (.invokestatic 169, 3) := by decide +kernel
theorem dL_hands_630 : decode cL_hands 630 = .ok (.bipush (-9), 2) := by decide +kernel
theorem dL_hands_632 : decode cL_hands 632 = .ok (.if_icmp .ne 151, 3) := by decide +kernel
theorem dL_hands_635 : decode cL_hands 635 = .ok (.goto 49, 3) := by decide +kernel
theorem dL_hands_638 : decode cL_hands 638 = .ok (.aload_n 0, 1) := by decide +kernel
theorem dL_hands_639 : decode cL_hands 639 = .ok (.iload_n 3, 1) := by decide +kernel
theorem dL_hands_640 : decode cL_hands 640 = .ok (.iload 25, 2) := by decide +kernel
theorem dL_hands_642 : decode cL_hands 642 = .ok (.iload 26, 2) := by decide +kernel
theorem dL_hands_644 : decode cL_hands 644 = .ok (.iconst 4, 1) := by decide +kernel
theorem dL_hands_645 : decode cL_hands 645 = .ok (.iload 24, 2) := by decide +kernel
theorem dL_hands_647 : decode cL_hands 647 = .ok (.imul, 1) := by decide +kernel
theorem dL_hands_648 : decode cL_hands 648 = .ok (.iconst 0, 1) := by decide +kernel
theorem dL_hands_649 : decode cL_hands 649 = .ok (.invokestatic 169, 3) := by decide +kernel
theorem dL_hands_652 : decode cL_hands 652 = .ok (.bipush (-9), 2) := by decide +kernel
theorem dL_hands_654 : decode cL_hands 654 = .ok (.if_icmp .eq 129, 3) := by decide +kernel
theorem dL_hands_657 : decode cL_hands 657 = .ok (.iload 24, 2) := by decide +kernel
theorem dL_hands_659 : decode cL_hands 659 = .ok (.iconst 1, 1) := by decide +kernel
theorem dL_hands_660 : decode cL_hands 660 = .ok (.if_icmp .eq 24, 3) := by decide +kernel
theorem dL_hands_663 : decode cL_hands 663 = .ok (.aload_n 0, 1) := by decide +kernel
theorem dL_hands_664 : decode cL_hands 664 = .ok (.iload_n 3, 1) := by decide +kernel
theorem dL_hands_665 : decode cL_hands 665 = .ok (.iload 25, 2) := by decide +kernel
theorem dL_hands_667 : decode cL_hands 667 = .ok (.iload 26, 2) := by decide +kernel
theorem dL_hands_669 : decode cL_hands 669 = .ok (.iconst 4, 1) := by decide +kernel
theorem dL_hands_670 : decode cL_hands 670 = .ok (.iload 24, 2) := by decide +kernel
theorem dL_hands_672 : decode cL_hands 672 = .ok (.imul, 1) := by decide +kernel
theorem dL_hands_673 : decode cL_hands 673 = .ok (.iconst 4, 1) := by decide +kernel
theorem dL_hands_674 : decode cL_hands 674 = .ok (.isub, 1) := by decide +kernel
theorem dL_hands_675 : decode cL_hands 675 = .ok (.iconst 0, 1) := by decide +kernel
theorem dL_hands_676 : decode cL_hands 676 = .ok (.invokestatic 169, 3) := by decide +kernel
theorem dL_hands_679 : decode cL_hands 679 = .ok (.bipush (-9), 2) := by decide +kernel
theorem dL_hands_681 : decode cL_hands 681 = .ok (.if_icmp .ne 102, 3) := by decide +kernel
theorem dL_hands_684 : decode cL_hands 684 = .ok (.aload_n 0, 1) := by decide +kernel
theorem dL_hands_685 : decode cL_hands 685 = .ok (.iload_n 3, 1) := by decide +kernel
theorem dL_hands_686 : decode cL_hands 686 = .ok (.iload 21, 2) := by decide +kernel
theorem dL_hands_688 : decode cL_hands 688 = .ok (.invokestatic 163, 3) := by decide +kernel
theorem dL_hands_691 : decode cL_hands 691 = .ok (.iload 22, 2) := by decide +kernel
theorem dL_hands_693 : decode cL_hands 693 = .ok (.bipush (-9), 2) := by decide +kernel
theorem dL_hands_695 : decode cL_hands 695 = .ok (.if_icmp .ne 10, 3) := by decide +kernel
theorem dL_hands_698 : decode cL_hands 698 = .ok (.iload 23, 2) := by decide +kernel
theorem dL_hands_700 : decode cL_hands 700 = .ok (.iconst 1, 1) := by decide +kernel
theorem dL_hands_701 : decode cL_hands 701 = .ok (.iadd, 1) := by decide +kernel
theorem dL_hands_702 : decode cL_hands 702 = .ok (.goto 5, 3) := by decide +kernel
theorem dL_hands_705 : decode cL_hands 705 = .ok (.ldc 18, 2) := by decide +kernel
theorem dL_hands_707 : decode cL_hands 707 = .ok (.if_icmp .ne 76, 3) := by decide +kernel
theorem dL_hands_710 : decode cL_hands 710 = .ok (.aload_n 0, 1) := by decide +kernel
theorem dL_hands_711 : decode cL_hands 711 = .ok (.iload 21, 2) := by decide +kernel
theorem dL_hands_713 : decode cL_hands 713 = .ok (.iconst 4, 1) := by decide +kernel
theorem dL_hands_714 : decode cL_hands 714 = .ok (.invokestatic 147, 3) := by decide +kernel
theorem dL_hands_717 : decode cL_hands 717 = .ok (.iload 22, 2) := by decide +kernel
theorem dL_hands_719 : decode cL_hands 719 = .ok (.bipush (-9), 2) := by decide +kernel
theorem dL_hands_721 : decode cL_hands 721 = .ok (.if_icmp .ne 7, 3) := by decide +kernel
theorem dL_hands_724 : decode cL_hands 724 = .ok (.iload_n 3, 1) := by decide +kernel
theorem dL_hands_725 : decode cL_hands 725 = .ok (.goto 5, 3) := by decide +kernel
theorem dL_hands_728 : decode cL_hands 728 = .ok (.iload 22, 2) := by decide +kernel
theorem dL_hands_730 : decode cL_hands 730 = .ok (.if_icmp .ne 53, 3) := by decide +kernel
theorem dL_hands_733 : decode cL_hands 733 = .ok (.aload_n 0, 1) := by decide +kernel
theorem dL_hands_734 : decode cL_hands 734 = .ok (.invokestatic 208, 3) := by decide +kernel
theorem dL_hands_737 : decode cL_hands 737 = .ok (.ifCond .eq 46, 3) := by decide +kernel
theorem dL_hands_740 : decode cL_hands 740 = .ok (.aload_n 0, 1) := by decide +kernel
theorem dL_hands_741 : decode cL_hands 741 = .ok (.iconst 0, 1) := by decide +kernel
theorem dL_hands_742 : decode cL_hands 742 = .ok (.invokestatic 137, 3) := by decide +kernel
theorem dL_hands_745 : decode cL_hands 745 = .ok (.iload_n 2, 1) := by decide +kernel
theorem dL_hands_746 : decode cL_hands 746 = .ok (.if_icmp .ne 37, 3) := by decide +kernel
theorem dL_hands_749 : decode cL_hands 749 = .ok (.iload 22, 2) := by decide +kernel
theorem dL_hands_751 : decode cL_hands 751 = .ok (.bipush (-9), 2) := by decide +kernel
theorem dL_hands_753 : decode cL_hands 753 = .ok (.if_icmp .ne 26, 3) := by decide +kernel
theorem dL_hands_756 : decode cL_hands 756 = .ok (.aload_n 0, 1) := by decide +kernel
theorem dL_hands_757 : decode cL_hands 757 = .ok (.iload 21, 2) := by decide +kernel
theorem dL_hands_759 : decode cL_hands 759 = .ok (.iconst 0, 1) := by decide +kernel
theorem dL_hands_760 : decode cL_hands 760 = .ok (.invokestatic 173, 3) := by decide +kernel
theorem dL_hands_763 : decode cL_hands 763 = .ok (.iconst 1, 1) := by decide +kernel
theorem dL_hands_764 : decode cL_hands 764 = .ok (.if_icmp .ne 19, 3) := by decide +kernel
theorem dL_hands_767 : decode cL_hands 767 = .ok (.aload_n 0, 1) := by decide +kernel
theorem dL_hands_768 : decode cL_hands 768 = .ok (.iload 21, 2) := by decide +kernel
theorem dL_hands_770 : decode cL_hands 770 = .ok (.iconst 0, 1) := by decide +kernel
theorem dL_hands_771 : decode cL_hands 771 = .ok (.invokestatic 166, 3) := by decide +kernel
theorem dL_hands_774 : decode cL_hands 774 = .ok (.ldc 18, 2) := by decide +kernel
theorem dL_hands_776 : decode cL_hands 776 = .ok (.if_icmp .ne 7, 3) := by decide +kernel
theorem dL_hands_779 : decode cL_hands 779 = .ok (.iconst 1, 1) := by decide +kernel
theorem dL_hands_780 : decode cL_hands 780 = .ok (.goto 4, 3) := by decide +kernel
theorem dL_hands_783 : decode cL_hands 783 = .ok (.iconst 0, 1) := by decide +kernel
theorem dL_hands_784 : decode cL_hands 784 = .ok (.istore 6, 2) := by decide +kernel
theorem dL_hands_786 : decode cL_hands 786 = .ok (.iload 22, 2) := by decide +kernel
theorem dL_hands_788 : decode cL_hands 788 = .ok (.bipush (-9), 2) := by decide +kernel
theorem dL_hands_790 : decode cL_hands 790 = .ok (.if_icmp .ne 7, 3) := by decide +kernel
theorem dL_hands_793 : decode cL_hands 793 = .ok (.iconst 0, 1) := by decide +kernel
theorem dL_hands_794 : decode cL_hands 794 = .ok (.goto 10, 3) := by decide +kernel
theorem dL_hands_797 : decode cL_hands 797 = .ok (.aload_n 0, 1) := by decide +kernel
theorem dL_hands_798 : decode cL_hands 798 = .ok (.iload 22, 2) := by decide +kernel
theorem dL_hands_800 : decode cL_hands 800 = .ok (.iconst 2, 1) := by decide +kernel
theorem dL_hands_801 : decode cL_hands 801 = .ok (.invokestatic 130, 3) := by decide +kernel
theorem dL_hands_804 : decode cL_hands 804 = .ok (.istore 27, 2) := by decide +kernel
theorem dL_hands_806 : decode cL_hands 806 = .ok (.iload 6, 2) := by decide +kernel
theorem dL_hands_808 : decode cL_hands 808 = .ok (.ifCond .eq 27, 3) := by decide +kernel
theorem dL_hands_811 : decode cL_hands 811 = .ok (.iload 22, 2) := by decide +kernel
theorem dL_hands_813 : decode cL_hands 813 = .ok (.bipush (-9), 2) := by decide +kernel
theorem dL_hands_815 : decode cL_hands 815 = .ok (.if_icmp .eq 16, 3) := by decide +kernel
theorem dL_hands_818 : decode cL_hands 818 = .ok (.aload_n 0, 1) := by decide +kernel
theorem dL_hands_819 : decode cL_hands 819 = .ok (.iload 21, 2) := by decide +kernel
theorem dL_hands_821 : decode cL_hands 821 = .ok (.iload 27, 2) := by decide +kernel
theorem dL_hands_823 : decode cL_hands 823 = .ok (.invokestatic 173, 3) := by decide +kernel
theorem dL_hands_826 : decode cL_hands 826 = .ok (.ldc 32, 2) := by decide +kernel
theorem dL_hands_828 : decode cL_hands 828 = .ok (.if_icmp .ne 7, 3) := by decide +kernel
theorem dL_hands_831 : decode cL_hands 831 = .ok (.iconst 1, 1) := by decide +kernel
theorem dL_hands_832 : decode cL_hands 832 = .ok (.goto 4, 3) := by decide +kernel
theorem dL_hands_835 : decode cL_hands 835 = .ok (.iconst 0, 1) := by decide +kernel
theorem dL_hands_836 : decode cL_hands 836 = .ok (.istore 6, 2) := by decide +kernel
theorem dL_hands_838 : decode cL_hands 838 = .ok (.iload 27, 2) := by decide +kernel
theorem dL_hands_840 : decode cL_hands 840 = .ok (.ifCond .le 266, 3) := by decide +kernel
theorem dL_hands_843 : decode cL_hands 843 = .ok (.iload 6, 2) := by decide +kernel
theorem dL_hands_845 : decode cL_hands 845 = .ok (.ifCond .eq 261, 3) := by decide +kernel
theorem dL_hands_848 : decode cL_hands 848 = .ok (.iload_n 1, 1) := by decide +kernel
theorem dL_hands_849 : decode cL_hands 849 = .ok (.bipush 8, 2) := by decide +kernel
theorem dL_hands_851 : decode cL_hands 851 = .ok (.idiv, 1) := by decide +kernel
theorem dL_hands_852 : decode cL_hands 852 = .ok (.iload 27, 2) := by decide +kernel
theorem dL_hands_854 : decode cL_hands 854 = .ok (.irem, 1) := by decide +kernel
theorem dL_hands_855 : decode cL_hands 855 = .ok (.istore 28, 2) := by decide +kernel
theorem dL_hands_857 : decode cL_hands 857 = .ok (.aload_n 0, 1) := by decide +kernel
theorem dL_hands_858 : decode cL_hands 858 = .ok (.iload 21, 2) := by decide +kernel
theorem dL_hands_860 : decode cL_hands 860 = .ok (.iload 28, 2) := by decide +kernel
theorem dL_hands_862 : decode cL_hands 862 = .ok (.invokestatic 173, 3) := by decide +kernel
theorem dL_hands_865 : decode cL_hands 865 = .ok (.istore 29, 2) := by decide +kernel
theorem dL_hands_867 : decode cL_hands 867 = .ok (.aload_n 0, 1) := by decide +kernel
theorem dL_hands_868 : decode cL_hands 868 = .ok (.iload 21, 2) := by decide +kernel
theorem dL_hands_870 : decode cL_hands 870 = .ok (.iconst 2, 1) := by decide +kernel
theorem dL_hands_871 : decode cL_hands 871 = .ok (.invokestatic 147, 3) := by decide +kernel
theorem dL_hands_874 : decode cL_hands 874 = .ok (.istore 30, 2) := by decide +kernel
theorem dL_hands_876 : decode cL_hands 876 = .ok (.aload_n 0, 1) := by decide +kernel
theorem dL_hands_877 : decode cL_hands 877 = .ok (.iload 22, 2) := by decide +kernel
theorem dL_hands_879 : decode cL_hands 879 = .ok (.iconst 0, 1) := by decide +kernel
theorem dL_hands_880 : decode cL_hands 880 = .ok (.invokestatic 130, 3) := by decide +kernel
theorem dL_hands_883 : decode cL_hands 883 = .ok (.istore 31, 2) := by decide +kernel
theorem dL_hands_885 : decode cL_hands 885 = .ok (.aload_n 0, 1) := by decide +kernel
theorem dL_hands_886 : decode cL_hands 886 = .ok (.iload 22, 2) := by decide +kernel
theorem dL_hands_888 : decode cL_hands 888 = .ok (.iload 25, 2) := by decide +kernel
theorem dL_hands_890 : decode cL_hands 890 = .ok (.iload 26, 2) := by decide +kernel
theorem dL_hands_892 : decode cL_hands 892 = .ok (.iconst 4, 1) := by decide +kernel
theorem dL_hands_893 : decode cL_hands 893 = .ok (.aload_n 0, 1) := by decide +kernel
theorem dL_hands_894 : decode cL_hands 894 = .ok (.iload 22, 2) := by decide +kernel
theorem dL_hands_896 : decode cL_hands 896 = .ok (.iload 28, 2) := by decide +kernel
theorem dL_hands_898 : decode cL_hands 898 = .ok (.iconst 0, 1) := by decide +kernel
theorem dL_hands_899 : decode cL_hands 899 = .ok (.invokestatic 140, 3) := by decide +kernel
theorem dL_hands_902 : decode cL_hands 902 = .ok (.imul, 1) := by decide +kernel
theorem dL_hands_903 : decode cL_hands 903 = .ok (.iconst 0, 1) := by decide +kernel
theorem dL_hands_904 : decode cL_hands 904 = .ok (.invokestatic 169, 3) := by decide +kernel
theorem dL_hands_907 : decode cL_hands 907 = .ok (.istore 32, 2) := by decide +kernel
theorem dL_hands_909 : decode cL_hands 909 = .ok (.aload_n 0, 1) := by decide +kernel
theorem dL_hands_910 : decode cL_hands 910 = .ok (.iload 22, 2) := by decide +kernel
theorem dL_hands_912 : decode cL_hands 912 = .ok (.iconst 5, 1) := by decide +kernel
theorem dL_hands_913 : decode cL_hands 913 = .ok (.invokestatic 130, 3) := by decide +kernel
theorem dL_hands_916 : decode cL_hands 916 = .ok (.istore 33, 2) := by decide +kernel
theorem dL_hands_918 : decode cL_hands 918 = .ok (.aload_n 0, 1) := by decide +kernel
theorem dL_hands_919 : decode cL_hands 919 = .ok (.bipush 6, 2) := by decide +kernel
theorem dL_hands_921 : decode cL_hands 921 = .ok (.invokestatic 127, 3) := by decide +kernel
theorem dL_hands_924 : decode cL_hands 924 = .ok (.istore 34, 2) := by decide +kernel
theorem dL_hands_926 : decode cL_hands 926 = .ok (.aload_n 0, 1) := by decide +kernel
theorem dL_hands_927 : decode cL_hands 927 = .ok (.iload 21, 2) := by decide +kernel
theorem dL_hands_929 : decode cL_hands 929 = .ok (.iload 28, 2) := by decide +kernel
theorem dL_hands_931 : decode cL_hands 931 = .ok (.invokestatic 166, 3) := by decide +kernel
theorem dL_hands_934 : decode cL_hands 934 = .ok (.iload 29, 2) := by decide +kernel
theorem dL_hands_936 : decode cL_hands 936 = .ok (.ifCond .ne 8, 3) := by decide +kernel
theorem dL_hands_939 : decode cL_hands 939 = .ok (.iload 32, 2) := by decide +kernel
theorem dL_hands_941 : decode cL_hands 941 = .ok (.goto 5, 3) := by decide +kernel
theorem dL_hands_944 : decode cL_hands 944 = .ok (.ldc 18, 2) := by decide +kernel
theorem dL_hands_946 : decode cL_hands 946 = .ok (.if_icmp .ne 157, 3) := by decide +kernel
theorem dL_hands_949 : decode cL_hands 949 = .ok (.iload 29, 2) := by decide +kernel
theorem dL_hands_951 : decode cL_hands 951 = .ok (.ifCond .ne 83, 3) := by decide +kernel
theorem dL_hands_954 : decode cL_hands 954 = .ok (.aload_n 0, 1) := by decide +kernel
theorem dL_hands_955 : decode cL_hands 955 = .ok (.iload 22, 2) := by decide +kernel
theorem dL_hands_957 : decode cL_hands 957 = .ok (.iconst 0, 1) := by decide +kernel
theorem dL_hands_958 : decode cL_hands 958 = .ok (.invokestatic 130, 3) := by decide +kernel
theorem dL_hands_961 : decode cL_hands 961 = .ok (.iload 31, 2) := by decide +kernel
theorem dL_hands_963 : decode cL_hands 963 = .ok (.iload 32, 2) := by decide +kernel
theorem dL_hands_965 : decode cL_hands 965 = .ok (.isub, 1) := by decide +kernel
theorem dL_hands_966 : decode cL_hands 966 = .ok (.iload 30, 2) := by decide +kernel
theorem dL_hands_968 : decode cL_hands 968 = .ok (.iadd, 1) := by decide +kernel
theorem dL_hands_969 : decode cL_hands 969 = .ok (.if_icmp .ne 134, 3) := by decide +kernel
theorem dL_hands_972 : decode cL_hands 972 = .ok (.aload_n 0, 1) := by decide +kernel
theorem dL_hands_973 : decode cL_hands 973 = .ok (.iload 22, 2) := by decide +kernel
theorem dL_hands_975 : decode cL_hands 975 = .ok (.iconst 5, 1) := by decide +kernel
theorem dL_hands_976 : decode cL_hands 976 = .ok (.invokestatic 130, 3) := by decide +kernel
theorem dL_hands_979 : decode cL_hands 979 = .ok (.iload 33, 2) := by decide +kernel
theorem dL_hands_981 : decode cL_hands 981 = .ok (.if_icmp .ne 122, 3) := by decide +kernel
theorem dL_hands_984 : decode cL_hands 984 = .ok (.aload_n 0, 1) := by decide +kernel
theorem dL_hands_985 : decode cL_hands 985 = .ok (.bipush 6, 2) := by decide +kernel
theorem dL_hands_987 : decode cL_hands 987 = .ok (.invokestatic 127, 3) := by decide +kernel
theorem dL_hands_990 : decode cL_hands 990 = .ok (.iload 34, 2) := by decide +kernel
theorem dL_hands_992 : decode cL_hands 992 = .ok (.iload 32, 2) := by decide +kernel
theorem dL_hands_994 : decode cL_hands 994 = .ok (.iadd, 1) := by decide +kernel
theorem dL_hands_995 : decode cL_hands 995 = .ok (.if_icmp .ne 108, 3) := by decide +kernel
theorem dL_hands_998 : decode cL_hands 998 = .ok (.aload_n 0, 1) := by decide +kernel
theorem dL_hands_999 : decode cL_hands 999 = .ok (.iload 21, 2) := by decide +kernel
theorem dL_hands_1001 : decode cL_hands 1001 = .ok (.iconst 5, 1) := by decide +kernel
theorem dL_hands_1002 : decode cL_hands 1002 = .ok (.invokestatic 147, 3) := by decide +kernel
theorem dL_hands_1005 : decode cL_hands 1005 = .ok (.iconst 1, 1) := by decide +kernel
theorem dL_hands_1006 : decode cL_hands 1006 = .ok (.if_icmp .ne 97, 3) := by decide +kernel
theorem dL_hands_1009 : decode cL_hands 1009 = .ok (.aload_n 0, 1) := by decide +kernel
theorem dL_hands_1010 : decode cL_hands 1010 = .ok (.iload 22, 2) := by decide +kernel
theorem dL_hands_1012 : decode cL_hands 1012 = .ok (.iload 28, 2) := by decide +kernel
theorem dL_hands_1014 : decode cL_hands 1014 = .ok (.iconst 1, 1) := by decide +kernel
theorem dL_hands_1015 : decode cL_hands 1015 = .ok (.invokestatic 140, 3) := by decide +kernel
theorem dL_hands_1018 : decode cL_hands 1018 = .ok (.iconst 1, 1) := by decide +kernel
theorem dL_hands_1019 : decode cL_hands 1019 = .ok (.if_icmp .ne 84, 3) := by decide +kernel
theorem dL_hands_1022 : decode cL_hands 1022 = .ok (.aload_n 0, 1) := by decide +kernel
theorem dL_hands_1023 : decode cL_hands 1023 = .ok (.iload 21, 2) := by decide +kernel
theorem dL_hands_1025 : decode cL_hands 1025 = .ok (.iload 28, 2) := by decide +kernel
theorem dL_hands_1027 : decode cL_hands 1027 = .ok (.invokestatic 173, 3) := by decide +kernel
theorem dL_hands_1030 : decode cL_hands 1030 = .ok (.iconst 2, 1) := by decide +kernel
theorem dL_hands_1031 : decode cL_hands 1031 = .ok (.if_icmp .ne 72, 3) := by decide +kernel
theorem dL_hands_1034 : decode cL_hands 1034 = .ok (.iload 29, 2) := by decide +kernel
theorem dL_hands_1036 : decode cL_hands 1036 = .ok (.iconst 4, 1) := by decide +kernel
theorem dL_hands_1037 : decode cL_hands 1037 = .ok (.if_icmp .ne 10, 3) := by decide +kernel
theorem dL_hands_1040 : decode cL_hands 1040 = .ok (.iload 32, 2) := by decide +kernel
theorem dL_hands_1042 : decode cL_hands 1042 = .ok (.bipush (-9), 2) := by decide +kernel
theorem dL_hands_1044 : decode cL_hands 1044 = .ok (.if_icmp .ne 59, 3) := by decide +kernel
theorem dL_hands_1047 : decode cL_hands 1047 = .ok (.iload 29, 2) := by decide +kernel
theorem dL_hands_1049 : decode cL_hands 1049 = .ok (.iconst 2, 1) := by decide +kernel
theorem dL_hands_1050 : decode cL_hands 1050 = .ok (.if_icmp .ne 14, 3) := by decide +kernel
theorem dL_hands_1053 : decode cL_hands 1053 = .ok (.aload_n 0, 1) := by decide +kernel
theorem dL_hands_1054 : decode cL_hands 1054 = .ok (.iload 21, 2) := by decide +kernel
theorem dL_hands_1056 : decode cL_hands 1056 = .ok (.iconst 5, 1) := by decide +kernel
theorem dL_hands_1057 : decode cL_hands 1057 = .ok (.invokestatic 147, 3) := by decide +kernel
theorem dL_hands_1060 : decode cL_hands 1060 = .ok (.iconst 1, 1) := by decide +kernel
theorem dL_hands_1061 : decode cL_hands 1061 = .ok (.if_icmp .ne 42, 3) := by decide +kernel
theorem dL_hands_1064 : decode cL_hands 1064 = .ok (.iload 29, 2) := by decide +kernel
theorem dL_hands_1066 : decode cL_hands 1066 = .ok (.iconst 3, 1) := by decide +kernel
theorem dL_hands_1067 : decode cL_hands 1067 = .ok (.if_icmp .ne 16, 3) := by decide +kernel
theorem dL_hands_1070 : decode cL_hands 1070 = .ok (.aload_n 0, 1) := by decide +kernel
theorem dL_hands_1071 : decode cL_hands 1071 = .ok (.iload 22, 2) := by decide +kernel
theorem dL_hands_1073 : decode cL_hands 1073 = .ok (.iload 28, 2) := by decide +kernel
theorem dL_hands_1075 : decode cL_hands 1075 = .ok (.iconst 1, 1) := by decide +kernel
theorem dL_hands_1076 : decode cL_hands 1076 = .ok (.invokestatic 140, 3) := by decide +kernel
theorem dL_hands_1079 : decode cL_hands 1079 = .ok (.iconst 1, 1) := by decide +kernel
theorem dL_hands_1080 : decode cL_hands 1080 = .ok (.if_icmp .ne 23, 3) := by decide +kernel
theorem dL_hands_1083 : decode cL_hands 1083 = .ok (.aload_n 0, 1) := by decide +kernel
theorem dL_hands_1084 : decode cL_hands 1084 = .ok (.invokestatic 208, 3) := by decide +kernel
theorem dL_hands_1087 : decode cL_hands 1087 = .ok (.ifCond .eq 16, 3) := by decide +kernel
theorem dL_hands_1090 : decode cL_hands 1090 = .ok (.aload_n 0, 1) := by decide +kernel
theorem dL_hands_1091 : decode cL_hands 1091 = .ok (.iconst 0, 1) := by decide +kernel
theorem dL_hands_1092 : decode cL_hands 1092 = .ok (.invokestatic 137, 3) := by decide +kernel
theorem dL_hands_1095 : decode cL_hands 1095 = .ok (.iload_n 2, 1) := by decide +kernel
theorem dL_hands_1096 : decode cL_hands 1096 = .ok (.if_icmp .ne 7, 3) := by decide +kernel
theorem dL_hands_1099 : decode cL_hands 1099 = .ok (.iconst 1, 1) := by decide +kernel
theorem dL_hands_1100 : decode cL_hands 1100 = .ok (.goto 4, 3) := by decide +kernel
theorem dL_hands_1103 : decode cL_hands 1103 = .ok (.iconst 0, 1) := by decide +kernel
theorem dL_hands_1104 : decode cL_hands 1104 = .ok (.istore 6, 2) := by decide +kernel
theorem dL_hands_1106 : decode cL_hands 1106 = .ok (.aload_n 0, 1) := by decide +kernel
theorem dL_hands_1107 : decode cL_hands 1107 = .ok (.iload_n 3, 1) := by decide +kernel
theorem dL_hands_1108 : decode cL_hands 1108 = .ok (.invokestatic 179, 3) := by decide +kernel
theorem dL_hands_1111 : decode cL_hands 1111 = .ok (.istore 28, 2) := by decide +kernel
theorem dL_hands_1113 : decode cL_hands 1113 = .ok (.iconst 0, 1) := by decide +kernel
theorem dL_hands_1114 : decode cL_hands 1114 = .ok (.istore 29, 2) := by decide +kernel
theorem dL_hands_1116 : decode cL_hands 1116 = .ok (.iconst 0, 1) := by decide +kernel
theorem dL_hands_1117 : decode cL_hands 1117 = .ok (.istore 30, 2) := by decide +kernel
theorem dL_hands_1119 : decode cL_hands 1119 = .ok (.iload 30, 2) := by decide +kernel
theorem dL_hands_1121 : decode cL_hands 1121 = .ok (.iload 14, 2) := by decide +kernel
theorem dL_hands_1123 : decode cL_hands 1123 = .ok (.if_icmp .ge 37, 3) := by decide +kernel
theorem dL_hands_1126 : decode cL_hands 1126 = .ok (.aload_n 0, 1) := by decide +kernel
theorem dL_hands_1127 : decode cL_hands 1127 = .ok (.iload_n 3, 1) := by decide +kernel
theorem dL_hands_1128 : decode cL_hands 1128 = .ok (.iload 30, 2) := by decide +kernel
theorem dL_hands_1130 : decode cL_hands 1130 = .ok (.iconst 0, 1) := by decide +kernel
theorem dL_hands_1131 : decode cL_hands 1131 = .ok (.invokestatic 140, 3) := by decide +kernel
theorem dL_hands_1134 : decode cL_hands 1134 = .ok (.iload 29, 2) := by decide +kernel
theorem dL_hands_1136 : decode cL_hands 1136 = .ok (.if_icmp .le 14, 3) := by decide +kernel
theorem dL_hands_1139 : decode cL_hands 1139 = .ok (.aload_n 0, 1) := by decide +kernel
theorem dL_hands_1140 : decode cL_hands 1140 = .ok (.iload_n 3, 1) := by decide +kernel
theorem dL_hands_1141 : decode cL_hands 1141 = .ok (.iload 30, 2) := by decide +kernel
theorem dL_hands_1143 : decode cL_hands 1143 = .ok (.iconst 0, 1) := by decide +kernel
theorem dL_hands_1144 : decode cL_hands 1144 = .ok (.invokestatic 140, 3) := by decide +kernel
theorem dL_hands_1147 : decode cL_hands 1147 = .ok (.goto 5, 3) := by decide +kernel
theorem dL_hands_1150 : decode cL_hands 1150 = .ok (.iload 29, 2) := by decide +kernel
theorem dL_hands_1152 : decode cL_hands 1152 = .ok (.istore 29, 2) := by decide +kernel
theorem dL_hands_1154 : decode cL_hands 1154 = .ok (.iinc 30 1, 3) := by decide +kernel
theorem dL_hands_1157 : decode cL_hands 1157 = .ok (.goto (-38), 3) := by decide +kernel
theorem dL_hands_1160 : decode cL_hands 1160 = .ok (.iload 29, 2) := by decide +kernel
theorem dL_hands_1162 : decode cL_hands 1162 = .ok (.ifCond .ne 8, 3) := by decide +kernel
theorem dL_hands_1165 : decode cL_hands 1165 = .ok (.bipush (-9), 2) := by decide +kernel
theorem dL_hands_1167 : decode cL_hands 1167 = .ok (.goto 17, 3) := by decide +kernel
theorem dL_hands_1170 : decode cL_hands 1170 = .ok (.aload_n 0, 1) := by decide +kernel
theorem dL_hands_1171 : decode cL_hands 1171 = .ok (.iload_n 3, 1) := by decide +kernel
theorem dL_hands_1172 : decode cL_hands 1172 = .ok (.iload 25, 2) := by decide +kernel
theorem dL_hands_1174 : decode cL_hands 1174 = .ok (.iload 26, 2) := by decide +kernel
theorem dL_hands_1176 : decode cL_hands 1176 = .ok (.iconst 4, 1) := by decide +kernel
theorem dL_hands_1177 : decode cL_hands 1177 = .ok (.iload 29, 2) := by decide +kernel
theorem dL_hands_1179 : decode cL_hands 1179 = .ok (.imul, 1) := by decide +kernel
theorem dL_hands_1180 : decode cL_hands 1180 = .ok (.iconst 0, 1) := by decide +kernel
theorem dL_hands_1181 : decode cL_hands 1181 = .ok (.invokestatic 169, 3) := by decide +kernel
theorem dL_hands_1184 : decode cL_hands 1184 = .ok (.istore 30, 2) := by decide +kernel
theorem dL_hands_1186 : decode cL_hands 1186 = .ok (.iload 22, 2) := by decide +kernel
theorem dL_hands_1188 : decode cL_hands 1188 = .ok (.bipush (-9), 2) := by decide +kernel
theorem dL_hands_1190 : decode cL_hands 1190 = .ok (.if_icmp .ne 14, 3) := by decide +kernel
theorem dL_hands_1193 : decode cL_hands 1193 = .ok (.iload 30, 2) := by decide +kernel
theorem dL_hands_1195 : decode cL_hands 1195 = .ok (.bipush (-9), 2) := by decide +kernel
theorem dL_hands_1197 : decode cL_hands 1197 = .ok (.if_icmp .eq 7, 3) := by decide +kernel
theorem dL_hands_1200 : decode cL_hands 1200 = .ok (.iconst 1, 1) := by decide +kernel
theorem dL_hands_1201 : decode cL_hands 1201 = .ok (.goto 4, 3) := by decide +kernel
theorem dL_hands_1204 : decode cL_hands 1204 = .ok (.iconst 0, 1) := by decide +kernel
theorem dL_hands_1205 : decode cL_hands 1205 = .ok (.istore 31, 2) := by decide +kernel
theorem dL_hands_1207 : decode cL_hands 1207 = .ok (.iload 6, 2) := by decide +kernel
theorem dL_hands_1209 : decode cL_hands 1209 = .ok (.ifCond .eq 43, 3) := by decide +kernel
theorem dL_hands_1212 : decode cL_hands 1212 = .ok (.iload 31, 2) := by decide +kernel
theorem dL_hands_1214 : decode cL_hands 1214 = .ok (.ifCond .eq 10, 3) := by decide +kernel
theorem dL_hands_1217 : decode cL_hands 1217 = .ok (.iload 28, 2) := by decide +kernel
theorem dL_hands_1219 : decode cL_hands 1219 = .ok (.bipush (-9), 2) := by decide +kernel
theorem dL_hands_1221 : decode cL_hands 1221 = .ok (.if_icmp .eq 31, 3) := by decide +kernel
theorem dL_hands_1224 : decode cL_hands 1224 = .ok (.iload 28, 2) := by decide +kernel
theorem dL_hands_1226 : decode cL_hands 1226 = .ok (.bipush (-9), 2) := by decide +kernel
theorem dL_hands_1228 : decode cL_hands 1228 = .ok (.if_icmp .eq 20, 3) := by decide +kernel
theorem dL_hands_1231 : decode cL_hands 1231 = .ok (.aload_n 0, 1) := by decide +kernel
theorem dL_hands_1232 : decode cL_hands 1232 = .ok (.iload 28, 2) := by decide +kernel
theorem dL_hands_1234 : decode cL_hands 1234 = .ok (.iconst 4, 1) := by decide +kernel
theorem dL_hands_1235 : decode cL_hands 1235 = .ok (.invokestatic 147, 3) := by decide +kernel
theorem dL_hands_1238 : decode cL_hands 1238 = .ok (.bipush (-9), 2) := by decide +kernel
theorem dL_hands_1240 : decode cL_hands 1240 = .ok (.if_icmp .ne 12, 3) := by decide +kernel
theorem dL_hands_1243 : decode cL_hands 1243 = .ok (.iload 29, 2) := by decide +kernel
theorem dL_hands_1245 : decode cL_hands 1245 = .ok (.ifCond .le 7, 3) := by decide +kernel
theorem dL_hands_1248 : decode cL_hands 1248 = .ok (.iconst 1, 1) := by decide +kernel
theorem dL_hands_1249 : decode cL_hands 1249 = .ok (.goto 4, 3) := by decide +kernel
theorem dL_hands_1252 : decode cL_hands 1252 = .ok (.iconst 0, 1) := by decide +kernel
theorem dL_hands_1253 : decode cL_hands 1253 = .ok (.istore 6, 2) := by decide +kernel
theorem dL_hands_1255 : decode cL_hands 1255 = .ok (.iload 31, 2) := by decide +kernel
theorem dL_hands_1257 : decode cL_hands 1257 = .ok (.ifCond .eq 89, 3) := by decide +kernel
theorem dL_hands_1260 : decode cL_hands 1260 = .ok (.iload 28, 2) := by decide +kernel
theorem dL_hands_1262 : decode cL_hands 1262 = .ok (.bipush (-9), 2) := by decide +kernel
theorem dL_hands_1264 : decode cL_hands 1264 = .ok (.if_icmp .eq 82, 3) := by decide +kernel
theorem dL_hands_1267 : decode cL_hands 1267 = .ok (.iload 6, 2) := by decide +kernel
theorem dL_hands_1269 : decode cL_hands 1269 = .ok (.ifCond .eq 77, 3) := by decide +kernel
theorem dL_hands_1272 : decode cL_hands 1272 = .ok (.aload_n 0, 1) := by decide +kernel
theorem dL_hands_1273 : decode cL_hands 1273 = .ok (.iload 28, 2) := by decide +kernel
theorem dL_hands_1275 : decode cL_hands 1275 = .ok (.iconst 2, 1) := by decide +kernel
theorem dL_hands_1276 : decode cL_hands 1276 = .ok (.invokestatic 147, 3) := by decide +kernel
theorem dL_hands_1279 : decode cL_hands 1279 = .ok (.aload_n 0, 1) := by decide +kernel
theorem dL_hands_1280 : decode cL_hands 1280 = .ok (.iload_n 3, 1) := by decide +kernel
theorem dL_hands_1281 : decode cL_hands 1281 = .ok (.aload_n 0, 1) := by decide +kernel
theorem dL_hands_1282 : decode cL_hands 1282 = .ok (.iload 28, 2) := by decide +kernel
theorem dL_hands_1284 : decode cL_hands 1284 = .ok (.iconst 0, 1) := by decide +kernel
theorem dL_hands_1285 : decode cL_hands 1285 = .ok (.invokestatic 147, 3) := by decide +kernel
theorem dL_hands_1288 : decode cL_hands 1288 = .ok (.aload_n 0, 1) := by decide +kernel
theorem dL_hands_1289 : decode cL_hands 1289 = .ok (.iload 28, 2) := by decide +kernel
theorem dL_hands_1291 : decode cL_hands 1291 = .ok (.iconst 1, 1) := by decide +kernel
theorem dL_hands_1292 : decode cL_hands 1292 = .ok (.invokestatic 147, 3) := by decide +kernel
theorem dL_hands_1295 : decode cL_hands 1295 = .ok (.iconst 4, 1) := by decide +kernel
theorem dL_hands_1296 : decode cL_hands 1296 = .ok (.iload 29, 2) := by decide +kernel
theorem dL_hands_1298 : decode cL_hands 1298 = .ok (.imul, 1) := by decide +kernel
theorem dL_hands_1299 : decode cL_hands 1299 = .ok (.iconst 0, 1) := by decide +kernel
theorem dL_hands_1300 : decode cL_hands 1300 = .ok (.invokestatic 169, 3) := by decide +kernel
theorem dL_hands_1303 : decode cL_hands 1303 = .ok (.isub, 1) := by decide +kernel
theorem dL_hands_1304 : decode cL_hands 1304 = .ok (.istore 32, 2) := by decide +kernel
theorem dL_hands_1306 : decode cL_hands 1306 = .ok (.aload_n 0, 1) := by decide +kernel
theorem dL_hands_1307 : decode cL_hands 1307 = .ok (.iload 21, 2) := by decide +kernel
theorem dL_hands_1309 : decode cL_hands 1309 = .ok (.iconst 2, 1) := by decide +kernel
theorem dL_hands_1310 : decode cL_hands 1310 = .ok (.invokestatic 147, 3) := by decide +kernel
theorem dL_hands_1313 : decode cL_hands 1313 = .ok (.iload 30, 2) := by decide +kernel
theorem dL_hands_1315 : decode cL_hands 1315 = .ok (.isub, 1) := by decide +kernel
theorem dL_hands_1316 : decode cL_hands 1316 = .ok (.istore 33, 2) := by decide +kernel
theorem dL_hands_1318 : decode cL_hands 1318 = .ok (.iload 32, 2) := by decide +kernel
theorem dL_hands_1320 : decode cL_hands 1320 = .ok (.iload 33, 2) := by decide +kernel
theorem dL_hands_1322 : decode cL_hands 1322 = .ok (.if_icmp .gt 17, 3) := by decide +kernel
theorem dL_hands_1325 : decode cL_hands 1325 = .ok (.iload 32, 2) := by decide +kernel
theorem dL_hands_1327 : decode cL_hands 1327 = .ok (.iload 33, 2) := by decide +kernel
theorem dL_hands_1329 : decode cL_hands 1329 = .ok (.if_icmp .ne 14, 3) := by decide +kernel
theorem dL_hands_1332 : decode cL_hands 1332 = .ok (.iload 28, 2) := by decide +kernel
theorem dL_hands_1334 : decode cL_hands 1334 = .ok (.iload 21, 2) := by decide +kernel
theorem dL_hands_1336 : decode cL_hands 1336 = .ok (.if_icmp .gt 7, 3) := by decide +kernel
theorem dL_hands_1339 : decode cL_hands 1339 = .ok (.iconst 1, 1) := by decide +kernel
theorem dL_hands_1340 : decode cL_hands 1340 = .ok (.goto 4, 3) := by decide +kernel
theorem dL_hands_1343 : decode cL_hands 1343 = .ok (.iconst 0, 1) := by decide +kernel
theorem dL_hands_1344 : decode cL_hands 1344 = .ok (.istore 6, 2) := by decide +kernel
theorem dL_hands_1346 : decode cL_hands 1346 = .ok (.iload 6, 2) := by decide +kernel
theorem dL_hands_1348 : decode cL_hands 1348 = .ok (.ifCond .eq 35, 3) := by decide +kernel
theorem dL_hands_1351 : decode cL_hands 1351 = .ok (.aload_n 0, 1) := by decide +kernel
theorem dL_hands_1352 : decode cL_hands 1352 = .ok (.iload_n 3, 1) := by decide +kernel
theorem dL_hands_1353 : decode cL_hands 1353 = .ok (.iload_n 1, 1) := by decide +kernel
theorem dL_hands_1354 : decode cL_hands 1354 = .ok (.iload_n 2, 1) := by decide +kernel
theorem dL_hands_1355 : decode cL_hands 1355 = .ok (.invokestatic 212, 3) := by decide +kernel
theorem dL_hands_1358 : decode cL_hands 1358 = .ok (.ifCond .eq 25, 3) := by decide +kernel
theorem dL_hands_1361 : decode cL_hands 1361 = .ok (.aload_n 0, 1) := by decide +kernel
theorem dL_hands_1362 : decode cL_hands 1362 = .ok (.iconst 0, 1) := by decide +kernel
theorem dL_hands_1363 : decode cL_hands 1363 = .ok (.invokestatic 137, 3) := by decide +kernel
theorem dL_hands_1366 : decode cL_hands 1366 = .ok (.iload_n 2, 1) := by decide +kernel
theorem dL_hands_1367 : decode cL_hands 1367 = .ok (.if_icmp .ne 16, 3) := by decide +kernel
theorem dL_hands_1370 : decode cL_hands 1370 = .ok (.aload_n 0, 1) := by decide +kernel
theorem dL_hands_1371 : decode cL_hands 1371 = .ok (.invokestatic 134, 3) := by decide +kernel
theorem dL_hands_1374 : decode cL_hands 1374 = .ok (.ldc 18, 2) := by decide +kernel
theorem dL_hands_1376 : decode cL_hands 1376 = .ok (.if_icmp .ne 7, 3) := by decide +kernel
theorem dL_hands_1379 : decode cL_hands 1379 = .ok (.iconst 1, 1) := by decide +kernel
theorem dL_hands_1380 : decode cL_hands 1380 = .ok (.goto 4, 3) := by decide +kernel
theorem dL_hands_1383 : decode cL_hands 1383 = .ok (.iconst 0, 1) := by decide +kernel
theorem dL_hands_1384 : decode cL_hands 1384 = .ok (.ireturn, 1) := by decide +kernel
theorem dL_rounds_0 : decode cL_rounds 0 = .ok (.iconst 1, 1) := by decide +kernel
theorem dL_rounds_1 : decode cL_rounds 1 = .ok (.iload_n 2, 1) := by decide +kernel
theorem dL_rounds_2 : decode cL_rounds 2 = .ok (.bipush 32, 2) := by decide +kernel
theorem dL_rounds_4 : decode cL_rounds 4 = .ok (.idiv, 1) := by decide +kernel
theorem dL_rounds_5 : decode cL_rounds 5 = .ok (.bipush 12, 2) := by decide +kernel
theorem dL_rounds_7 : decode cL_rounds 7 = .ok (.irem, 1) := by decide +kernel
theorem dL_rounds_8 : decode cL_rounds 8 = .ok (.iadd, 1) := by decide +kernel
theorem dL_rounds_9 : decode cL_rounds 9 = .ok (.istore 4, 2) := by decide +kernel
theorem dL_rounds_11 : decode cL_rounds 11 = .ok (.aload_n 0, 1) := by decide +kernel
theorem dL_rounds_12 : decode cL_rounds 12 = .ok (.iload_n 1, 1) := by decide +kernel
theorem dL_rounds_13 : decode cL_rounds 13 = .ok (.iload 4, 2) := by decide +kernel
theorem dL_rounds_15 : decode cL_rounds 15 = .ok (.invokestatic 182, 3) := by decide +kernel
theorem dL_rounds_18 : decode cL_rounds 18 = .ok (.istore 5, 2) := by decide +kernel
theorem dL_rounds_20 : decode cL_rounds 20 = .ok (.aload_n 0, 1) := by decide +kernel
theorem dL_rounds_21 : decode cL_rounds 21 = .ok (.iload_n 1, 1) := by decide +kernel
theorem dL_rounds_22 : decode cL_rounds 22 = .ok (.invokestatic 185, 3) := by decide +kernel
theorem dL_rounds_25 : decode cL_rounds 25 = .ok (.istore 6, 2) := by decide +kernel
theorem dL_rounds_27 : decode cL_rounds 27 = .ok (.aload_n 0, 1) := by decide +kernel
theorem dL_rounds_28 : decode cL_rounds 28 = .ok (.iload_n 1, 1) := by decide +kernel
theorem dL_rounds_29 : decode cL_rounds 29 = .ok (.iconst 0, 1) := by decide +kernel
theorem dL_rounds_30 : decode cL_rounds 30 = .ok (.invokestatic 182, 3) := by decide +kernel
theorem dL_rounds_33 : decode cL_rounds 33 = .ok (.aload_n 0, 1) := by decide +kernel
theorem dL_rounds_34 : decode cL_rounds 34 = .ok (.iload_n 1, 1) := by decide +kernel
theorem dL_rounds_35 : decode cL_rounds 35 = .ok (.iconst 0, 1) := by decide +kernel
theorem dL_rounds_36 : decode cL_rounds 36 = .ok (.invokestatic 130, 3) := by decide +kernel
theorem dL_rounds_39 : decode cL_rounds 39 = .ok (.if_icmp .ne 7, 3) := by decide +kernel
theorem dL_rounds_42 : decode cL_rounds 42 = .ok (.iconst 1, 1) := by decide +kernel
theorem dL_rounds_43 : decode cL_rounds 43 = .ok (.goto 4, 3) := by decide +kernel
theorem dL_rounds_46 : decode cL_rounds 46 = .ok (.iconst 0, 1) := by decide +kernel
theorem dL_rounds_47 : decode cL_rounds 47 = .ok (.istore 7, 2) := by decide +kernel
theorem dL_rounds_49 : decode cL_rounds 49 = .ok (.iconst 1, 1) := by decide +kernel
theorem dL_rounds_50 : decode cL_rounds 50 = .ok (.istore 8, 2) := by decide +kernel
theorem dL_rounds_52 : decode cL_rounds 52 = .ok (.iload 8, 2) := by decide +kernel
theorem dL_rounds_54 : decode cL_rounds 54 = .ok (.iload 4, 2) := by decide +kernel
theorem dL_rounds_56 : decode cL_rounds 56 = .ok (.if_icmp .gt 350, 3) := by decide +kernel
theorem dL_rounds_59 : decode cL_rounds 59 = .ok (.iload 7, 2) := by decide +kernel
theorem dL_rounds_61 : decode cL_rounds 61 = .ok (.ifCond .eq 345, 3) := by decide +kernel
theorem dL_rounds_64 : decode cL_rounds 64 = .ok (.aload_n 0, 1) := by decide +kernel
theorem dL_rounds_65 : decode cL_rounds 65 = .ok (.iload_n 1, 1) := by decide +kernel
theorem dL_rounds_66 : decode cL_rounds 66 = .ok (.iconst 0, 1) := by decide +kernel
theorem dL_rounds_67 : decode cL_rounds 67 = .ok (.invokestatic 130, 3) := by decide +kernel
theorem dL_rounds_70 : decode cL_rounds 70 = .ok (.istore 9, 2) := by decide +kernel
theorem dL_rounds_72 : decode cL_rounds 72 = .ok (.aload_n 0, 1) := by decide +kernel
theorem dL_rounds_73 : decode cL_rounds 73 = .ok (.iload_n 1, 1) := by decide +kernel
theorem dL_rounds_74 : decode cL_rounds 74 = .ok (.bipush 6, 2) := by decide +kernel
theorem dL_rounds_76 : decode cL_rounds 76 = .ok (.invokestatic 130, 3) := by decide +kernel
theorem dL_rounds_79 : decode cL_rounds 79 = .ok (.istore 10, 2) := by decide +kernel
theorem dL_rounds_81 : decode cL_rounds 81 = .ok (.aload_n 0, 1) := by decide +kernel
theorem dL_rounds_82 : decode cL_rounds 82 = .ok (.iload_n 1, 1) := by decide +kernel
theorem dL_rounds_83 : decode cL_rounds 83 = .ok (.iconst 3, 1) := by decide +kernel
theorem dL_rounds_84 : decode cL_rounds 84 = .ok (.invokestatic 130, 3) := by decide +kernel
theorem dL_rounds_87 : decode cL_rounds 87 = .ok (.istore 11, 2) := by decide +kernel
theorem dL_rounds_89 : decode cL_rounds 89 = .ok (.iconst 0, 1) := by decide +kernel
theorem dL_rounds_90 : decode cL_rounds 90 = .ok (.istore 12, 2) := by decide +kernel
theorem dL_rounds_92 : decode cL_rounds 92 = .ok (.iload 12, 2) := by decide +kernel
theorem dL_rounds_94 : decode cL_rounds 94 = .ok (.aload_n 0, 1) := by decide +kernel
theorem dL_rounds_95 : decode cL_rounds 95 = .ok (.iload_n 1, 1) := by decide +kernel
theorem dL_rounds_96 : decode cL_rounds 96 = .ok (.iconst 2, 1) := by decide +kernel
theorem dL_rounds_97 : decode cL_rounds 97 = .ok (.invokestatic 130, 3) := by decide +kernel
theorem dL_rounds_100 : decode cL_rounds 100 = .ok (.if_icmp .ge 22, 3) := by decide +kernel
theorem dL_rounds_103 : decode cL_rounds 103 = .ok (.iload 11, 2) := by decide +kernel
theorem dL_rounds_105 : decode cL_rounds 105 = .ok (.aload_n 0, 1) := by decide +kernel
theorem dL_rounds_106 : decode cL_rounds 106 = .ok (.iload_n 1, 1) := by decide +kernel
theorem dL_rounds_107 : decode cL_rounds 107 = .ok (.iload 12, 2) := by decide +kernel
theorem dL_rounds_109 : decode cL_rounds 109 = .ok (.iconst 0, 1) := by decide +kernel
theorem dL_rounds_110 : decode cL_rounds 110 = .ok (.invokestatic 140, 3) := by decide +kernel
theorem dL_rounds_113 : decode cL_rounds 113 = .ok (.iadd, 1) := by decide +kernel
theorem dL_rounds_114 : decode cL_rounds 114 = .ok (.istore 11, 2) := by decide +kernel
theorem dL_rounds_116 : decode cL_rounds 116 = .ok (.iinc 12 1, 3) := by decide +kernel
theorem dL_rounds_119 : decode cL_rounds 119 = .ok (.goto (-27), 3) := by decide +kernel
theorem dL_rounds_122 : decode cL_rounds 122 = .ok (.iconst 0, 1) := by decide +kernel
theorem dL_rounds_123 : decode cL_rounds 123 = .ok (.istore 12, 2) := by decide +kernel
theorem dL_rounds_125 : decode cL_rounds 125 = .ok (.iconst 0, 1) := by decide +kernel
theorem dL_rounds_126 : decode cL_rounds 126 = .ok (.istore 13, 2) := by decide +kernel
theorem dL_rounds_128 : decode cL_rounds 128 = .ok (.iload 13, 2) := by decide +kernel
theorem dL_rounds_130 : decode cL_rounds 130 = .ok (.aload_n 0, 1) := by decide +kernel
theorem dL_rounds_131 : decode cL_rounds 131 = .ok (.iconst 2, 1) := by decide +kernel
theorem dL_rounds_132 : decode cL_rounds 132 = .ok (.invokestatic 127, 3) := by decide +kernel
theorem dL_rounds_135 : decode cL_rounds 135 = .ok (.if_icmp .ge 40, 3) := by decide +kernel
theorem dL_rounds_138 : decode cL_rounds 138 = .ok (.iload 12, 2) := by decide +kernel
theorem dL_rounds_140 : decode cL_rounds 140 = .ok (.aload_n 0, 1) := by decide +kernel
theorem dL_rounds_141 : decode cL_rounds 141 = .ok (.iload 13, 2) := by decide +kernel
theorem dL_rounds_143 : decode cL_rounds 143 = .ok (.iconst 4, 1) := by decide +kernel
theorem dL_rounds_144 : decode cL_rounds 144 = .ok (.invokestatic 147, 3) := by decide +kernel
theorem dL_rounds_147 : decode cL_rounds 147 = .ok (.iload_n 1, 1) := by decide +kernel
theorem dL_rounds_148 : decode cL_rounds 148 = .ok (.if_icmp .ne 17, 3) := by decide +kernel
theorem dL_rounds_151 : decode cL_rounds 151 = .ok (.aload_n 0, 1) := by decide +kernel
theorem dL_rounds_152 : decode cL_rounds 152 = .ok (.iload 13, 2) := by decide +kernel
theorem dL_rounds_154 : decode cL_rounds 154 = .ok (.iconst 5, 1) := by decide +kernel
theorem dL_rounds_155 : decode cL_rounds 155 = .ok (.invokestatic 147, 3) := by decide +kernel
theorem dL_rounds_158 : decode cL_rounds 158 = .ok (.ifCond .ne 7, 3) := by decide +kernel
theorem dL_rounds_161 : decode cL_rounds 161 = .ok (.iconst 5, 1) := by decide +kernel
theorem dL_rounds_162 : decode cL_rounds 162 = .ok (.goto 4, 3) := by decide +kernel
theorem dL_rounds_165 : decode cL_rounds 165 = .ok (.iconst 0, 1) := by decide +kernel
theorem dL_rounds_166 : decode cL_rounds 166 = .ok (.iadd, 1) := by decide +kernel
theorem dL_rounds_167 : decode cL_rounds 167 = .ok (.istore 12, 2) := by decide +kernel
theorem dL_rounds_169 : decode cL_rounds 169 = .ok (.iinc 13 1, 3) := by decide +kernel
theorem dL_rounds_172 : decode cL_rounds 172 = .ok (.goto (-44), 3) := by decide +kernel
theorem dL_rounds_175 : decode cL_rounds 175 = .ok (.iload 9, 2) := by decide +kernel
theorem dL_rounds_177 : decode cL_rounds 177 = .ok (.iload 11, 2) := by decide +kernel
theorem dL_rounds_179 : decode cL_rounds 179 = .ok (.isub, 1) := by decide +kernel
theorem dL_rounds_180 : decode cL_rounds 180 = .ok (.iload 12, 2) := by decide +kernel
theorem dL_rounds_182 : decode cL_rounds 182 = .ok (.isub, 1) := by decide +kernel
theorem dL_rounds_183 : decode cL_rounds 183 = .ok (.istore 13, 2) := by decide +kernel
theorem dL_rounds_185 : decode cL_rounds 185 = .ok (.aload_n 0, 1) := by decide +kernel
theorem dL_rounds_186 : decode cL_rounds 186 = .ok (.bipush 9, 2) := by decide +kernel
theorem dL_rounds_188 : decode cL_rounds 188 = .ok (.invokestatic 127, 3) := by decide +kernel
theorem dL_rounds_191 : decode cL_rounds 191 = .ok (.istore 14, 2) := by decide +kernel
theorem dL_rounds_193 : decode cL_rounds 193 = .ok (.aload_n 0, 1) := by decide +kernel
theorem dL_rounds_194 : decode cL_rounds 194 = .ok (.invokevirtual 216, 3) := by decide +kernel
theorem dL_rounds_197 : decode cL_rounds 197 = .ok (.istore 15, 2) := by decide +kernel
theorem dL_rounds_199 : decode cL_rounds 199 = .ok (.iload 13, 2) := by decide +kernel
theorem dL_rounds_201 : decode cL_rounds 201 = .ok (.ifCond .ge 7, 3) := by decide +kernel
theorem dL_rounds_204 : decode cL_rounds 204 = .ok (.iconst 1, 1) := by decide +kernel
theorem dL_rounds_205 : decode cL_rounds 205 = .ok (.goto 4, 3) := by decide +kernel
theorem dL_rounds_208 : decode cL_rounds 208 = .ok (.iconst 0, 1) := by decide +kernel
theorem dL_rounds_209 : decode cL_rounds 209 = .ok (.istore 16, 2) := by decide +kernel
theorem dL_rounds_211 : decode cL_rounds 211 = .ok (.aload_n 0, 1) := by decide +kernel
theorem dL_rounds_212 : decode cL_rounds 212 = .ok (.iconst 4, 1) := by decide +kernel
theorem dL_rounds_213 : decode cL_rounds 213 = .ok (.invokestatic 127, 3) := by decide +kernel
theorem dL_rounds_216 : decode cL_rounds 216 = .ok (.iload_n 3, 1) := by decide +kernel
theorem dL_rounds_217 : decode cL_rounds 217 = .ok (.iload 8, 2) := by decide +kernel
theorem dL_rounds_219 : decode cL_rounds 219 = .ok (.iadd, 1) := by decide +kernel
theorem dL_rounds_220 : decode cL_rounds 220 = .ok (.if_icmp .ne 134, 3) := by decide +kernel
theorem dL_rounds_223 : decode cL_rounds 223 = .ok (.aload_n 0, 1) := by decide +kernel
theorem dL_rounds_224 : decode cL_rounds 224 = .ok (.bipush 9, 2) := by decide +kernel
theorem dL_rounds_226 : decode cL_rounds 226 = .ok (.invokestatic 127, 3) := by decide +kernel
theorem dL_rounds_229 : decode cL_rounds 229 = .ok (.iload 14, 2) := by decide +kernel
theorem dL_rounds_231 : decode cL_rounds 231 = .ok (.iload 15, 2) := by decide +kernel
theorem dL_rounds_233 : decode cL_rounds 233 = .ok (.iadd, 1) := by decide +kernel
theorem dL_rounds_234 : decode cL_rounds 234 = .ok (.if_icmp .ne 120, 3) := by decide +kernel
theorem dL_rounds_237 : decode cL_rounds 237 = .ok (.aload_n 0, 1) := by decide +kernel
theorem dL_rounds_238 : decode cL_rounds 238 = .ok (.iload_n 1, 1) := by decide +kernel
theorem dL_rounds_239 : decode cL_rounds 239 = .ok (.iconst 0, 1) := by decide +kernel
theorem dL_rounds_240 : decode cL_rounds 240 = .ok (.invokestatic 130, 3) := by decide +kernel
theorem dL_rounds_243 : decode cL_rounds 243 = .ok (.iload 16, 2) := by decide +kernel
theorem dL_rounds_245 : decode cL_rounds 245 = .ok (.ifCond .eq 7, 3) := by decide +kernel
theorem dL_rounds_248 : decode cL_rounds 248 = .ok (.iconst 0, 1) := by decide +kernel
theorem dL_rounds_249 : decode cL_rounds 249 = .ok (.goto 5, 3) := by decide +kernel
theorem dL_rounds_252 : decode cL_rounds 252 = .ok (.iload 13, 2) := by decide +kernel
theorem dL_rounds_254 : decode cL_rounds 254 = .ok (.if_icmp .ne 100, 3) := by decide +kernel
theorem dL_rounds_257 : decode cL_rounds 257 = .ok (.aload_n 0, 1) := by decide +kernel
theorem dL_rounds_258 : decode cL_rounds 258 = .ok (.iload_n 1, 1) := by decide +kernel
theorem dL_rounds_259 : decode cL_rounds 259 = .ok (.bipush 6, 2) := by decide +kernel
theorem dL_rounds_261 : decode cL_rounds 261 = .ok (.invokestatic 130, 3) := by decide +kernel
theorem dL_rounds_264 : decode cL_rounds 264 = .ok (.iload 10, 2) := by decide +kernel
theorem dL_rounds_266 : decode cL_rounds 266 = .ok (.iload 16, 2) := by decide +kernel
theorem dL_rounds_268 : decode cL_rounds 268 = .ok (.ifCond .eq 7, 3) := by decide +kernel
theorem dL_rounds_271 : decode cL_rounds 271 = .ok (.iconst 1, 1) := by decide +kernel
theorem dL_rounds_272 : decode cL_rounds 272 = .ok (.goto 4, 3) := by decide +kernel
theorem dL_rounds_275 : decode cL_rounds 275 = .ok (.iconst 0, 1) := by decide +kernel
theorem dL_rounds_276 : decode cL_rounds 276 = .ok (.iadd, 1) := by decide +kernel
theorem dL_rounds_277 : decode cL_rounds 277 = .ok (.if_icmp .ne 77, 3) := by decide +kernel
theorem dL_rounds_280 : decode cL_rounds 280 = .ok (.iload 16, 2) := by decide +kernel
theorem dL_rounds_282 : decode cL_rounds 282 = .ok (.ifCond .eq 30, 3) := by decide +kernel
theorem dL_rounds_285 : decode cL_rounds 285 = .ok (.aload_n 0, 1) := by decide +kernel
theorem dL_rounds_286 : decode cL_rounds 286 = .ok (.iload_n 1, 1) := by decide +kernel
theorem dL_rounds_287 : decode cL_rounds 287 = .ok (.iconst 2, 1) := by decide +kernel
theorem dL_rounds_288 : decode cL_rounds 288 = .ok (.invokestatic 130, 3) := by decide +kernel
theorem dL_rounds_291 : decode cL_rounds 291 = .ok (.ifCond .ne 63, 3) := by decide +kernel
theorem dL_rounds_294 : decode cL_rounds 294 = .ok (.aload_n 0, 1) := by decide +kernel
theorem dL_rounds_295 : decode cL_rounds 295 = .ok (.iload_n 1, 1) := by decide +kernel
theorem dL_rounds_296 : decode cL_rounds 296 = .ok (.iconst 3, 1) := by decide +kernel
theorem dL_rounds_297 : decode cL_rounds 297 = .ok (.invokestatic 130, 3) := by decide +kernel
theorem dL_rounds_300 : decode cL_rounds 300 = .ok (.ifCond .ne 54, 3) := by decide +kernel
theorem dL_rounds_303 : decode cL_rounds 303 = .ok (.aload_n 0, 1) := by decide +kernel
theorem dL_rounds_304 : decode cL_rounds 304 = .ok (.iload_n 1, 1) := by decide +kernel
theorem dL_rounds_305 : decode cL_rounds 305 = .ok (.iconst 4, 1) := by decide +kernel
theorem dL_rounds_306 : decode cL_rounds 306 = .ok (.invokestatic 130, 3) := by decide +kernel
theorem dL_rounds_309 : decode cL_rounds 309 = .ok (.ifCond .ne 45, 3) := by decide +kernel
theorem dL_rounds_312 : decode cL_rounds 312 = .ok (.iload 6, 2) := by decide +kernel
theorem dL_rounds_314 : decode cL_rounds 314 = .ok (.bipush (-9), 2) := by decide +kernel
theorem dL_rounds_316 : decode cL_rounds 316 = .ok (.if_icmp .eq 10, 3) := by decide +kernel
theorem dL_rounds_319 : decode cL_rounds 319 = .ok (.iload 6, 2) := by decide +kernel
theorem dL_rounds_321 : decode cL_rounds 321 = .ok (.iload 8, 2) := by decide +kernel
theorem dL_rounds_323 : decode cL_rounds 323 = .ok (.if_icmp .lt 20, 3) := by decide +kernel
theorem dL_rounds_326 : decode cL_rounds 326 = .ok (.iload 6, 2) := by decide +kernel
theorem dL_rounds_328 : decode cL_rounds 328 = .ok (.iload 8, 2) := by decide +kernel
theorem dL_rounds_330 : decode cL_rounds 330 = .ok (.if_icmp .ne 7, 3) := by decide +kernel
theorem dL_rounds_333 : decode cL_rounds 333 = .ok (.iconst 1, 1) := by decide +kernel
theorem dL_rounds_334 : decode cL_rounds 334 = .ok (.goto 4, 3) := by decide +kernel
theorem dL_rounds_337 : decode cL_rounds 337 = .ok (.iconst 0, 1) := by decide +kernel
theorem dL_rounds_338 : decode cL_rounds 338 = .ok (.iload 16, 2) := by decide +kernel
theorem dL_rounds_340 : decode cL_rounds 340 = .ok (.if_icmp .ne 14, 3) := by decide +kernel
theorem dL_rounds_343 : decode cL_rounds 343 = .ok (.aload_n 0, 1) := by decide +kernel
theorem dL_rounds_344 : decode cL_rounds 344 = .ok (.invokestatic 208, 3) := by decide +kernel
theorem dL_rounds_347 : decode cL_rounds 347 = .ok (.ifCond .eq 7, 3) := by decide +kernel
theorem dL_rounds_350 : decode cL_rounds 350 = .ok (.iconst 1, 1) := by decide +kernel
theorem dL_rounds_351 : decode cL_rounds 351 = .ok (.goto 4, 3) := by decide +kernel
theorem dL_rounds_354 : decode cL_rounds 354 = .ok (.iconst 0, 1) := by decide +kernel
theorem dL_rounds_355 : decode cL_rounds 355 = .ok (.istore 7, 2) := by decide +kernel
theorem dL_rounds_357 : decode cL_rounds 357 = .ok (.iconst 0, 1) := by decide +kernel
theorem dL_rounds_358 : decode cL_rounds 358 = .ok (.istore 17, 2) := by decide +kernel
theorem dL_rounds_360 : decode cL_rounds 360 = .ok (.iload 17, 2) := by decide +kernel
theorem dL_rounds_362 : decode cL_rounds 362 = .ok (.aload_n 0, 1) := by decide +kernel
theorem dL_rounds_363 : decode cL_rounds 363 = .ok (.iload_n 1, 1) := by decide +kernel
theorem dL_rounds_364 : decode cL_rounds 364 = .ok (.iconst 2, 1) := by decide +kernel
theorem dL_rounds_365 : decode cL_rounds 365 = .ok (.invokestatic 130, 3) := by decide +kernel
theorem dL_rounds_368 : decode cL_rounds 368 = .ok (.if_icmp .ge 32, 3) := by decide +kernel
theorem dL_rounds_371 : decode cL_rounds 371 = .ok (.iload 7, 2) := by decide +kernel
theorem dL_rounds_373 : decode cL_rounds 373 = .ok (.ifCond .eq 27, 3) := by decide +kernel
theorem dL_rounds_376 : decode cL_rounds 376 = .ok (.aload_n 0, 1) := by decide +kernel
theorem dL_rounds_377 : decode cL_rounds 377 = .ok (.iload_n 1, 1) := by decide +kernel
theorem dL_rounds_378 : decode cL_rounds 378 = .ok (.iload 17, 2) := by decide +kernel
theorem dL_rounds_380 : decode cL_rounds 380 = .ok (.iconst 1, 1) := by decide +kernel
theorem dL_rounds_381 : decode cL_rounds 381 = .ok (.invokestatic 140, 3) := by decide +kernel
theorem dL_rounds_384 : decode cL_rounds 384 = .ok (.ifCond .ne 7, 3) := by decide +kernel
theorem dL_rounds_387 : decode cL_rounds 387 = .ok (.iconst 1, 1) := by decide +kernel
theorem dL_rounds_388 : decode cL_rounds 388 = .ok (.goto 4, 3) := by decide +kernel
theorem dL_rounds_391 : decode cL_rounds 391 = .ok (.iconst 0, 1) := by decide +kernel
theorem dL_rounds_392 : decode cL_rounds 392 = .ok (.istore 7, 2) := by decide +kernel
theorem dL_rounds_394 : decode cL_rounds 394 = .ok (.iinc 17 1, 3) := by decide +kernel
theorem dL_rounds_397 : decode cL_rounds 397 = .ok (.goto (-37), 3) := by decide +kernel
theorem dL_rounds_400 : decode cL_rounds 400 = .ok (.iinc 8 1, 3) := by decide +kernel
theorem dL_rounds_403 : decode cL_rounds 403 = .ok (.goto (-351), 3) := by decide +kernel
theorem dL_rounds_406 : decode cL_rounds 406 = .ok (.iload 7, 2) := by decide +kernel
theorem dL_rounds_408 : decode cL_rounds 408 = .ok (.ifCond .eq 18, 3) := by decide +kernel
theorem dL_rounds_411 : decode cL_rounds 411 = .ok (.aload_n 0, 1) := by decide +kernel
theorem dL_rounds_412 : decode cL_rounds 412 = .ok (.iload_n 1, 1) := by decide +kernel
theorem dL_rounds_413 : decode cL_rounds 413 = .ok (.iconst 0, 1) := by decide +kernel
theorem dL_rounds_414 : decode cL_rounds 414 = .ok (.invokestatic 130, 3) := by decide +kernel
theorem dL_rounds_417 : decode cL_rounds 417 = .ok (.iload 5, 2) := by decide +kernel
theorem dL_rounds_419 : decode cL_rounds 419 = .ok (.if_icmp .ne 7, 3) := by decide +kernel
theorem dL_rounds_422 : decode cL_rounds 422 = .ok (.iconst 1, 1) := by decide +kernel
theorem dL_rounds_423 : decode cL_rounds 423 = .ok (.goto 4, 3) := by decide +kernel
theorem dL_rounds_426 : decode cL_rounds 426 = .ok (.iconst 0, 1) := by decide +kernel
theorem dL_rounds_427 : decode cL_rounds 427 = .ok (.ireturn, 1) := by decide +kernel
theorem dL_scripts_0 : decode cL_scripts 0 = .ok (.iload_n 1, 1) := by decide +kernel
theorem dL_scripts_1 : decode cL_scripts 1 = .ok (.iconst 4, 1) := by decide +kernel
theorem dL_scripts_2 : decode cL_scripts 2 = .ok (.irem, 1) := by decide +kernel
theorem dL_scripts_3 : decode cL_scripts 3 = .ok (.istore_n 2, 1) := by decide +kernel
theorem dL_scripts_4 : decode cL_scripts 4 = .ok (.ldc2_w 219, 3) := by decide +kernel
theorem dL_scripts_7 : decode cL_scripts 7 = .ok (.iload_n 2, 1) := by decide +kernel
theorem dL_scripts_8 : decode cL_scripts 8 = .ok (.i2l, 1) := by decide +kernel
theorem dL_scripts_9 : decode cL_scripts 9 = .ok (.lmul, 1) := by decide +kernel
theorem dL_scripts_10 : decode cL_scripts 10 = .ok (.lstore_n 3, 1) := by decide +kernel
theorem dL_scripts_11 : decode cL_scripts 11 = .ok (.aload_n 0, 1) := by decide +kernel
theorem dL_scripts_12 : decode cL_scripts 12 = .ok (.iload_n 2, 1) := by decide +kernel
theorem dL_scripts_13 : decode cL_scripts 13 = .ok (.iconst 0, 1) := by decide +kernel
theorem dL_scripts_14 : decode cL_scripts 14 = .ok (.invokestatic 130, 3) := by decide +kernel
theorem dL_scripts_17 : decode cL_scripts 17 = .ok (.istore 5, 2) := by decide +kernel
theorem dL_scripts_19 : decode cL_scripts 19 = .ok (.aload_n 0, 1) := by decide +kernel
theorem dL_scripts_20 : decode cL_scripts 20 = .ok (.iconst 3, 1) := by decide +kernel
theorem dL_scripts_21 : decode cL_scripts 21 = .ok (.invokestatic 127, 3) := by decide +kernel
theorem dL_scripts_24 : decode cL_scripts 24 = .ok (.istore 6, 2) := by decide +kernel
theorem dL_scripts_26 : decode cL_scripts 26 = .ok (.aload_n 0, 1) := by decide +kernel
theorem dL_scripts_27 : decode cL_scripts 27 = .ok (.iload_n 2, 1) := by decide +kernel
theorem dL_scripts_28 : decode cL_scripts 28 = .ok (.iconst 2, 1) := by decide +kernel
theorem dL_scripts_29 : decode cL_scripts 29 = .ok (.invokestatic 130, 3) := by decide +kernel
theorem dL_scripts_32 : decode cL_scripts 32 = .ok (.istore 7, 2) := by decide +kernel
theorem dL_scripts_34 : decode cL_scripts 34 = .ok (.aload_n 0, 1) := by decide +kernel
theorem dL_scripts_35 : decode cL_scripts 35 = .ok (.iconst 1, 1) := by decide +kernel
theorem dL_scripts_36 : decode cL_scripts 36 = .ok (.invokestatic 127, 3) := by decide +kernel
theorem dL_scripts_39 : decode cL_scripts 39 = .ok (.istore 8, 2) := by decide +kernel
theorem dL_scripts_41 : decode cL_scripts 41 = .ok (.aload_n 0, 1) := by decide +kernel
theorem dL_scripts_42 : decode cL_scripts 42 = .ok (.iconst 2, 1) := by decide +kernel
theorem dL_scripts_43 : decode cL_scripts 43 = .ok (.invokestatic 127, 3) := by decide +kernel
theorem dL_scripts_46 : decode cL_scripts 46 = .ok (.istore 9, 2) := by decide +kernel
theorem dL_scripts_48 : decode cL_scripts 48 = .ok (.aload_n 0, 1) := by decide +kernel
theorem dL_scripts_49 : decode cL_scripts 49 = .ok (.iload_n 1, 1) := by decide +kernel
theorem dL_scripts_50 : decode cL_scripts 50 = .ok (.i2l, 1) := by decide +kernel
theorem dL_scripts_51 : decode cL_scripts 51 = .ok (.ldc2_w 221, 3) := by decide +kernel
theorem dL_scripts_54 : decode cL_scripts 54 = .ok (.lmul, 1) := by decide +kernel
theorem dL_scripts_55 : decode cL_scripts 55 = .ok (.bipush 10, 2) := by decide +kernel
theorem dL_scripts_57 : decode cL_scripts 57 = .ok (.invokestatic 197, 3) := by decide +kernel
theorem dL_scripts_60 : decode cL_scripts 60 = .ok (.istore 10, 2) := by decide +kernel
theorem dL_scripts_62 : decode cL_scripts 62 = .ok (.aload_n 0, 1) := by decide +kernel
theorem dL_scripts_63 : decode cL_scripts 63 = .ok (.iconst 1, 1) := by decide +kernel
theorem dL_scripts_64 : decode cL_scripts 64 = .ok (.ldc2_w 223, 3) := by decide +kernel
theorem dL_scripts_67 : decode cL_scripts 67 = .ok (.iload 6, 2) := by decide +kernel
theorem dL_scripts_69 : decode cL_scripts 69 = .ok (.i2l, 1) := by decide +kernel
theorem dL_scripts_70 : decode cL_scripts 70 = .ok (.ladd, 1) := by decide +kernel
theorem dL_scripts_71 : decode cL_scripts 71 = .ok (.invokestatic 191, 3) := by decide +kernel
theorem dL_scripts_74 : decode cL_scripts 74 = .ok (.bipush (-9), 2) := by decide +kernel
theorem dL_scripts_76 : decode cL_scripts 76 = .ok (.if_icmp .ne 226, 3) := by decide +kernel
theorem dL_scripts_79 : decode cL_scripts 79 = .ok (.aload_n 0, 1) := by decide +kernel
theorem dL_scripts_80 : decode cL_scripts 80 = .ok (.iconst 1, 1) := by decide +kernel
theorem dL_scripts_81 : decode cL_scripts 81 = .ok (.ldc2_w 225, 3) := by decide +kernel
theorem dL_scripts_84 : decode cL_scripts 84 = .ok (.invokestatic 191, 3) := by decide +kernel
theorem dL_scripts_87 : decode cL_scripts 87 = .ok (.ifCond .ne 215, 3) := by decide +kernel
theorem dL_scripts_90 : decode cL_scripts 90 = .ok (.aload_n 0, 1) := by decide +kernel
theorem dL_scripts_91 : decode cL_scripts 91 = .ok (.iconst 1, 1) := by decide +kernel
theorem dL_scripts_92 : decode cL_scripts 92 = .ok (.ldc2_w 227, 3) := by decide +kernel
theorem dL_scripts_95 : decode cL_scripts 95 = .ok (.lload_n 3, 1) := by decide +kernel
theorem dL_scripts_96 : decode cL_scripts 96 = .ok (.ladd, 1) := by decide +kernel
theorem dL_scripts_97 : decode cL_scripts 97 = .ok (.iload 7, 2) := by decide +kernel
theorem dL_scripts_99 : decode cL_scripts 99 = .ok (.i2l, 1) := by decide +kernel
theorem dL_scripts_100 : decode cL_scripts 100 = .ok (.ladd, 1) := by decide +kernel
theorem dL_scripts_101 : decode cL_scripts 101 = .ok (.invokestatic 191, 3) := by decide +kernel
theorem dL_scripts_104 : decode cL_scripts 104 = .ok (.bipush (-9), 2) := by decide +kernel
theorem dL_scripts_106 : decode cL_scripts 106 = .ok (.if_icmp .ne 196, 3) := by decide +kernel
theorem dL_scripts_109 : decode cL_scripts 109 = .ok (.aload_n 0, 1) := by decide +kernel
theorem dL_scripts_110 : decode cL_scripts 110 = .ok (.iconst 1, 1) := by decide +kernel
theorem dL_scripts_111 : decode cL_scripts 111 = .ok (.ldc2_w 229, 3) := by decide +kernel
theorem dL_scripts_114 : decode cL_scripts 114 = .ok (.lload_n 3, 1) := by decide +kernel
theorem dL_scripts_115 : decode cL_scripts 115 = .ok (.ladd, 1) := by decide +kernel
theorem dL_scripts_116 : decode cL_scripts 116 = .ok (.invokestatic 191, 3) := by decide +kernel
theorem dL_scripts_119 : decode cL_scripts 119 = .ok (.ifCond .ne 183, 3) := by decide +kernel
theorem dL_scripts_122 : decode cL_scripts 122 = .ok (.aload_n 0, 1) := by decide +kernel
theorem dL_scripts_123 : decode cL_scripts 123 = .ok (.iconst 1, 1) := by decide +kernel
theorem dL_scripts_124 : decode cL_scripts 124 = .ok (.ldc2_w 231, 3) := by decide +kernel
theorem dL_scripts_127 : decode cL_scripts 127 = .ok (.invokestatic 191, 3) := by decide +kernel
theorem dL_scripts_130 : decode cL_scripts 130 = .ok (.bipush (-9), 2) := by decide +kernel
theorem dL_scripts_132 : decode cL_scripts 132 = .ok (.if_icmp .ne 170, 3) := by decide +kernel
theorem dL_scripts_135 : decode cL_scripts 135 = .ok (.aload_n 0, 1) := by decide +kernel
theorem dL_scripts_136 : decode cL_scripts 136 = .ok (.iconst 1, 1) := by decide +kernel
theorem dL_scripts_137 : decode cL_scripts 137 = .ok (.ldc2_w 233, 3) := by decide +kernel
theorem dL_scripts_140 : decode cL_scripts 140 = .ok (.invokestatic 191, 3) := by decide +kernel
theorem dL_scripts_143 : decode cL_scripts 143 = .ok (.ifCond .ne 159, 3) := by decide +kernel
theorem dL_scripts_146 : decode cL_scripts 146 = .ok (.aload_n 0, 1) := by decide +kernel
theorem dL_scripts_147 : decode cL_scripts 147 = .ok (.iconst 1, 1) := by decide +kernel
theorem dL_scripts_148 : decode cL_scripts 148 = .ok (.ldc2_w 235, 3) := by decide +kernel
theorem dL_scripts_151 : decode cL_scripts 151 = .ok (.lload_n 3, 1) := by decide +kernel
theorem dL_scripts_152 : decode cL_scripts 152 = .ok (.ladd, 1) := by decide +kernel
theorem dL_scripts_153 : decode cL_scripts 153 = .ok (.iload 8, 2) := by decide +kernel
theorem dL_scripts_155 : decode cL_scripts 155 = .ok (.i2l, 1) := by decide +kernel
theorem dL_scripts_156 : decode cL_scripts 156 = .ok (.ladd, 1) := by decide +kernel
theorem dL_scripts_157 : decode cL_scripts 157 = .ok (.invokestatic 191, 3) := by decide +kernel
theorem dL_scripts_160 : decode cL_scripts 160 = .ok (.ifCond .ne 142, 3) := by decide +kernel
theorem dL_scripts_163 : decode cL_scripts 163 = .ok (.aload_n 0, 1) := by decide +kernel
theorem dL_scripts_164 : decode cL_scripts 164 = .ok (.iconst 1, 1) := by decide +kernel
theorem dL_scripts_165 : decode cL_scripts 165 = .ok (.ldc2_w 237, 3) := by decide +kernel
theorem dL_scripts_168 : decode cL_scripts 168 = .ok (.invokestatic 191, 3) := by decide +kernel
theorem dL_scripts_171 : decode cL_scripts 171 = .ok (.ifCond .ne 131, 3) := by decide +kernel
theorem dL_scripts_174 : decode cL_scripts 174 = .ok (.aload_n 0, 1) := by decide +kernel
theorem dL_scripts_175 : decode cL_scripts 175 = .ok (.iconst 1, 1) := by decide +kernel
theorem dL_scripts_176 : decode cL_scripts 176 = .ok (.ldc2_w 239, 3) := by decide +kernel
theorem dL_scripts_179 : decode cL_scripts 179 = .ok (.lload_n 3, 1) := by decide +kernel
theorem dL_scripts_180 : decode cL_scripts 180 = .ok (.ladd, 1) := by decide +kernel
theorem dL_scripts_181 : decode cL_scripts 181 = .ok (.invokestatic 191, 3) := by decide +kernel
theorem dL_scripts_184 : decode cL_scripts 184 = .ok (.ifCond .ne 118, 3) := by decide +kernel
theorem dL_scripts_187 : decode cL_scripts 187 = .ok (.aload_n 0, 1) := by decide +kernel
theorem dL_scripts_188 : decode cL_scripts 188 = .ok (.iconst 1, 1) := by decide +kernel
theorem dL_scripts_189 : decode cL_scripts 189 = .ok (.ldc2_w 241, 3) := by decide +kernel
theorem dL_scripts_192 : decode cL_scripts 192 = .ok (.lload_n 3, 1) := by decide +kernel
theorem dL_scripts_193 : decode cL_scripts 193 = .ok (.ladd, 1) := by decide +kernel
theorem dL_scripts_194 : decode cL_scripts 194 = .ok (.invokestatic 191, 3) := by decide +kernel
theorem dL_scripts_197 : decode cL_scripts 197 = .ok (.ifCond .ne 105, 3) := by decide +kernel
theorem dL_scripts_200 : decode cL_scripts 200 = .ok (.aload_n 0, 1) := by decide +kernel
theorem dL_scripts_201 : decode cL_scripts 201 = .ok (.iconst 1, 1) := by decide +kernel
theorem dL_scripts_202 : decode cL_scripts 202 = .ok (.ldc2_w 243, 3) := by decide +kernel
theorem dL_scripts_205 : decode cL_scripts 205 = .ok (.lload_n 3, 1) := by decide +kernel
theorem dL_scripts_206 : decode cL_scripts 206 = .ok (.ladd, 1) := by decide +kernel
theorem dL_scripts_207 : decode cL_scripts 207 = .ok (.invokestatic 191, 3) := by decide +kernel
theorem dL_scripts_210 : decode cL_scripts 210 = .ok (.bipush (-9), 2) := by decide +kernel
theorem dL_scripts_212 : decode cL_scripts 212 = .ok (.if_icmp .ne 90, 3) := by decide +kernel
theorem dL_scripts_215 : decode cL_scripts 215 = .ok (.aload_n 0, 1) := by decide +kernel
theorem dL_scripts_216 : decode cL_scripts 216 = .ok (.iconst 1, 1) := by decide +kernel
theorem dL_scripts_217 : decode cL_scripts 217 = .ok (.ldc2_w 245, 3) := by decide +kernel
theorem dL_scripts_220 : decode cL_scripts 220 = .ok (.lload_n 3, 1) := by decide +kernel
theorem dL_scripts_221 : decode cL_scripts 221 = .ok (.ladd, 1) := by decide +kernel
theorem dL_scripts_222 : decode cL_scripts 222 = .ok (.invokestatic 191, 3) := by decide +kernel
theorem dL_scripts_225 : decode cL_scripts 225 = .ok (.ifCond .ne 77, 3) := by decide +kernel
theorem dL_scripts_228 : decode cL_scripts 228 = .ok (.aload_n 0, 1) := by decide +kernel
theorem dL_scripts_229 : decode cL_scripts 229 = .ok (.iconst 1, 1) := by decide +kernel
theorem dL_scripts_230 : decode cL_scripts 230 = .ok (.ldc2_w 247, 3) := by decide +kernel
theorem dL_scripts_233 : decode cL_scripts 233 = .ok (.lload_n 3, 1) := by decide +kernel
theorem dL_scripts_234 : decode cL_scripts 234 = .ok (.ladd, 1) := by decide +kernel
theorem dL_scripts_235 : decode cL_scripts 235 = .ok (.iload 9, 2) := by decide +kernel
theorem dL_scripts_237 : decode cL_scripts 237 = .ok (.i2l, 1) := by decide +kernel
theorem dL_scripts_238 : decode cL_scripts 238 = .ok (.ladd, 1) := by decide +kernel
theorem dL_scripts_239 : decode cL_scripts 239 = .ok (.invokestatic 191, 3) := by decide +kernel
theorem dL_scripts_242 : decode cL_scripts 242 = .ok (.ifCond .ne 60, 3) := by decide +kernel
theorem dL_scripts_245 : decode cL_scripts 245 = .ok (.aload_n 0, 1) := by decide +kernel
theorem dL_scripts_246 : decode cL_scripts 246 = .ok (.iconst 1, 1) := by decide +kernel
theorem dL_scripts_247 : decode cL_scripts 247 = .ok (.ldc2_w 249, 3) := by decide +kernel
theorem dL_scripts_250 : decode cL_scripts 250 = .ok (.invokestatic 191, 3) := by decide +kernel
theorem dL_scripts_253 : decode cL_scripts 253 = .ok (.ifCond .ne 49, 3) := by decide +kernel
theorem dL_scripts_256 : decode cL_scripts 256 = .ok (.aload_n 0, 1) := by decide +kernel
theorem dL_scripts_257 : decode cL_scripts 257 = .ok (.iconst 1, 1) := by decide +kernel
theorem dL_scripts_258 : decode cL_scripts 258 = .ok (.lconst 0, 1) := by decide +kernel
theorem dL_scripts_259 : decode cL_scripts 259 = .ok (.invokestatic 191, 3) := by decide +kernel
theorem dL_scripts_262 : decode cL_scripts 262 = .ok (.ifCond .ne 40, 3) := by decide +kernel
theorem dL_scripts_265 : decode cL_scripts 265 = .ok (.iload 10, 2) := by decide +kernel
theorem dL_scripts_267 : decode cL_scripts 267 = .ok (.ifCond .le 35, 3) := by decide +kernel
theorem dL_scripts_270 : decode cL_scripts 270 = .ok (.iload 10, 2) := by decide +kernel
theorem dL_scripts_272 : decode cL_scripts 272 = .ok (.sipush 10000, 3) := by decide +kernel
theorem dL_scripts_275 : decode cL_scripts 275 = .ok (.idiv, 1) := by decide +kernel
theorem dL_scripts_276 : decode cL_scripts 276 = .ok (.iload 6, 2) := by decide +kernel
theorem dL_scripts_278 : decode cL_scripts 278 = .ok (.if_icmp .lt 24, 3) := by decide +kernel
theorem dL_scripts_281 : decode cL_scripts 281 = .ok (.iload 10, 2) := by decide +kernel
theorem dL_scripts_283 : decode cL_scripts 283 = .ok (.aload_n 0, 1) := by decide +kernel
theorem dL_scripts_284 : decode cL_scripts 284 = .ok (.iload_n 1, 1) := by decide +kernel
theorem dL_scripts_285 : decode cL_scripts 285 = .ok (.i2l, 1) := by decide +kernel
theorem dL_scripts_286 : decode cL_scripts 286 = .ok (.ldc2_w 221, 3) := by decide +kernel
theorem dL_scripts_289 : decode cL_scripts 289 = .ok (.lmul, 1) := by decide +kernel
theorem dL_scripts_290 : decode cL_scripts 290 = .ok (.bipush 10, 2) := by decide +kernel
theorem dL_scripts_292 : decode cL_scripts 292 = .ok (.invokestatic 197, 3) := by decide +kernel
theorem dL_scripts_295 : decode cL_scripts 295 = .ok (.if_icmp .ne 7, 3) := by decide +kernel
theorem dL_scripts_298 : decode cL_scripts 298 = .ok (.iconst 1, 1) := by decide +kernel
theorem dL_scripts_299 : decode cL_scripts 299 = .ok (.goto 4, 3) := by decide +kernel
theorem dL_scripts_302 : decode cL_scripts 302 = .ok (.iconst 0, 1) := by decide +kernel
theorem dL_scripts_303 : decode cL_scripts 303 = .ok (.istore 11, 2) := by decide +kernel
theorem dL_scripts_305 : decode cL_scripts 305 = .ok (.iload 11, 2) := by decide +kernel
theorem dL_scripts_307 : decode cL_scripts 307 = .ok (.ifCond .eq 87, 3) := by decide +kernel
theorem dL_scripts_310 : decode cL_scripts 310 = .ok (.iload 5, 2) := by decide +kernel
theorem dL_scripts_312 : decode cL_scripts 312 = .ok (.ifCond .lt 30, 3) := by decide +kernel
theorem dL_scripts_315 : decode cL_scripts 315 = .ok (.iload 5, 2) := by decide +kernel
theorem dL_scripts_317 : decode cL_scripts 317 = .ok (.sipush 999, 3) := by decide +kernel
theorem dL_scripts_320 : decode cL_scripts 320 = .ok (.if_icmp .gt 22, 3) := by decide +kernel
theorem dL_scripts_323 : decode cL_scripts 323 = .ok (.aload_n 0, 1) := by decide +kernel
theorem dL_scripts_324 : decode cL_scripts 324 = .ok (.iconst 1, 1) := by decide +kernel
theorem dL_scripts_325 : decode cL_scripts 325 = .ok (.ldc2_w 251, 3) := by decide +kernel
theorem dL_scripts_328 : decode cL_scripts 328 = .ok (.lload_n 3, 1) := by decide +kernel
theorem dL_scripts_329 : decode cL_scripts 329 = .ok (.ladd, 1) := by decide +kernel
theorem dL_scripts_330 : decode cL_scripts 330 = .ok (.iload 5, 2) := by decide +kernel
theorem dL_scripts_332 : decode cL_scripts 332 = .ok (.i2l, 1) := by decide +kernel
theorem dL_scripts_333 : decode cL_scripts 333 = .ok (.ladd, 1) := by decide +kernel
theorem dL_scripts_334 : decode cL_scripts 334 = .ok (.invokestatic 191, 3) := by decide +kernel
theorem dL_scripts_337 : decode cL_scripts 337 = .ok (.bipush (-9), 2) := by decide +kernel
theorem dL_scripts_339 : decode cL_scripts 339 = .ok (.if_icmp .ne 55, 3) := by decide +kernel
theorem dL_scripts_342 : decode cL_scripts 342 = .ok (.iload 5, 2) := by decide +kernel
theorem dL_scripts_344 : decode cL_scripts 344 = .ok (.ifCond .lt 28, 3) := by decide +kernel
theorem dL_scripts_347 : decode cL_scripts 347 = .ok (.iload 5, 2) := by decide +kernel
theorem dL_scripts_349 : decode cL_scripts 349 = .ok (.sipush 998, 3) := by decide +kernel
theorem dL_scripts_352 : decode cL_scripts 352 = .ok (.if_icmp .gt 20, 3) := by decide +kernel
theorem dL_scripts_355 : decode cL_scripts 355 = .ok (.aload_n 0, 1) := by decide +kernel
theorem dL_scripts_356 : decode cL_scripts 356 = .ok (.iconst 1, 1) := by decide +kernel
theorem dL_scripts_357 : decode cL_scripts 357 = .ok (.ldc2_w 253, 3) := by decide +kernel
theorem dL_scripts_360 : decode cL_scripts 360 = .ok (.lload_n 3, 1) := by decide +kernel
theorem dL_scripts_361 : decode cL_scripts 361 = .ok (.ladd, 1) := by decide +kernel
theorem dL_scripts_362 : decode cL_scripts 362 = .ok (.iload 5, 2) := by decide +kernel
theorem dL_scripts_364 : decode cL_scripts 364 = .ok (.i2l, 1) := by decide +kernel
theorem dL_scripts_365 : decode cL_scripts 365 = .ok (.ladd, 1) := by decide +kernel
theorem dL_scripts_366 : decode cL_scripts 366 = .ok (.invokestatic 191, 3) := by decide +kernel
theorem dL_scripts_369 : decode cL_scripts 369 = .ok (.ifCond .ne 25, 3) := by decide +kernel
theorem dL_scripts_372 : decode cL_scripts 372 = .ok (.iload 5, 2) := by decide +kernel
theorem dL_scripts_374 : decode cL_scripts 374 = .ok (.ifCond .ge 16, 3) := by decide +kernel
theorem dL_scripts_377 : decode cL_scripts 377 = .ok (.aload_n 0, 1) := by decide +kernel
theorem dL_scripts_378 : decode cL_scripts 378 = .ok (.iconst 1, 1) := by decide +kernel
theorem dL_scripts_379 : decode cL_scripts 379 = .ok (.ldc2_w 251, 3) := by decide +kernel
theorem dL_scripts_382 : decode cL_scripts 382 = .ok (.lload_n 3, 1) := by decide +kernel
theorem dL_scripts_383 : decode cL_scripts 383 = .ok (.ladd, 1) := by decide +kernel
theorem dL_scripts_384 : decode cL_scripts 384 = .ok (.invokestatic 191, 3) := by decide +kernel
theorem dL_scripts_387 : decode cL_scripts 387 = .ok (.ifCond .ne 7, 3) := by decide +kernel
theorem dL_scripts_390 : decode cL_scripts 390 = .ok (.iconst 1, 1) := by decide +kernel
theorem dL_scripts_391 : decode cL_scripts 391 = .ok (.goto 4, 3) := by decide +kernel
theorem dL_scripts_394 : decode cL_scripts 394 = .ok (.iconst 0, 1) := by decide +kernel
theorem dL_scripts_395 : decode cL_scripts 395 = .ok (.ireturn, 1) := by decide +kernel
theorem dL_act_0 : decode cL_act 0 = .ok (.aload_n 0, 1) := by decide +kernel
theorem dL_act_1 : decode cL_act 1 = .ok (.iconst 0, 1) := by decide +kernel
theorem dL_act_2 : decode cL_act 2 = .ok (.invokestatic 127, 3) := by decide +kernel
theorem dL_act_5 : decode cL_act 5 = .ok (.istore_n 3, 1) := by decide +kernel
theorem dL_act_6 : decode cL_act 6 = .ok (.aload_n 0, 1) := by decide +kernel
theorem dL_act_7 : decode cL_act 7 = .ok (.iconst 2, 1) := by decide +kernel
theorem dL_act_8 : decode cL_act 8 = .ok (.invokestatic 127, 3) := by decide +kernel
theorem dL_act_11 : decode cL_act 11 = .ok (.istore 4, 2) := by decide +kernel
theorem dL_act_13 : decode cL_act 13 = .ok (.iload 4, 2) := by decide +kernel
theorem dL_act_15 : decode cL_act 15 = .ok (.ifCond .ne 7, 3) := by decide +kernel
theorem dL_act_18 : decode cL_act 18 = .ok (.iconst 0, 1) := by decide +kernel
theorem dL_act_19 : decode cL_act 19 = .ok (.goto 9, 3) := by decide +kernel
theorem dL_act_22 : decode cL_act 22 = .ok (.iload_n 2, 1) := by decide +kernel
theorem dL_act_23 : decode cL_act 23 = .ok (.iconst 4, 1) := by decide +kernel
theorem dL_act_24 : decode cL_act 24 = .ok (.idiv, 1) := by decide +kernel
theorem dL_act_25 : decode cL_act 25 = .ok (.iload 4, 2) := by decide +kernel
theorem dL_act_27 : decode cL_act 27 = .ok (.irem, 1) := by decide +kernel
theorem dL_act_28 : decode cL_act 28 = .ok (.istore 5, 2) := by decide +kernel
theorem dL_act_30 : decode cL_act 30 = .ok (.aload_n 0, 1) := by decide +kernel
theorem dL_act_31 : decode cL_act 31 = .ok (.iconst 3, 1) := by decide +kernel
theorem dL_act_32 : decode cL_act 32 = .ok (.invokestatic 127, 3) := by decide +kernel
theorem dL_act_35 : decode cL_act 35 = .ok (.istore 6, 2) := by decide +kernel
theorem dL_act_37 : decode cL_act 37 = .ok (.iload 6, 2) := by decide +kernel
theorem dL_act_39 : decode cL_act 39 = .ok (.iconst 1, 1) := by decide +kernel
theorem dL_act_40 : decode cL_act 40 = .ok (.isub, 1) := by decide +kernel
theorem dL_act_41 : decode cL_act 41 = .ok (.iload_n 2, 1) := by decide +kernel
theorem dL_act_42 : decode cL_act 42 = .ok (.iconst 4, 1) := by decide +kernel
theorem dL_act_43 : decode cL_act 43 = .ok (.idiv, 1) := by decide +kernel
theorem dL_act_44 : decode cL_act 44 = .ok (.iconst 3, 1) := by decide +kernel
theorem dL_act_45 : decode cL_act 45 = .ok (.irem, 1) := by decide +kernel
theorem dL_act_46 : decode cL_act 46 = .ok (.iadd, 1) := by decide +kernel
theorem dL_act_47 : decode cL_act 47 = .ok (.istore 7, 2) := by decide +kernel
theorem dL_act_49 : decode cL_act 49 = .ok (.iload_n 1, 1) := by decide +kernel
theorem dL_act_50 : decode cL_act 50 = .ok (.bipush 16, 2) := by decide +kernel
theorem dL_act_52 : decode cL_act 52 = .ok (.irem, 1) := by decide +kernel
theorem dL_act_53 : decode cL_act 53 = .ok (.tableswitch 212 0 14 #[75, 75, 92, 92, 124, 138, 138, 179, 179, 189, 189, 189, 202, 202, 207], 75) := by decide +kernel
theorem dL_act_128 : decode cL_act 128 = .ok (.aload_n 0, 1) := by decide +kernel
theorem dL_act_129 : decode cL_act 129 = .ok (.iload_n 2, 1) := by decide +kernel
theorem dL_act_130 : decode cL_act 130 = .ok (.iconst 4, 1) := by decide +kernel
theorem dL_act_131 : decode cL_act 131 = .ok (.irem, 1) := by decide +kernel
theorem dL_act_132 : decode cL_act 132 = .ok (.iload_n 2, 1) := by decide +kernel
theorem dL_act_133 : decode cL_act 133 = .ok (.iconst 4, 1) := by decide +kernel
theorem dL_act_134 : decode cL_act 134 = .ok (.idiv, 1) := by decide +kernel
theorem dL_act_135 : decode cL_act 135 = .ok (.aload_n 0, 1) := by decide +kernel
theorem dL_act_136 : decode cL_act 136 = .ok (.iconst 1, 1) := by decide +kernel
theorem dL_act_137 : decode cL_act 137 = .ok (.invokestatic 127, 3) := by decide +kernel
theorem dL_act_140 : decode cL_act 140 = .ok (.irem, 1) := by decide +kernel
theorem dL_act_141 : decode cL_act 141 = .ok (.invokestatic 150, 3) := by decide +kernel
theorem dL_act_144 : decode cL_act 144 = .ok (.ireturn, 1) := by decide +kernel
theorem dL_act_145 : decode cL_act 145 = .ok (.aload_n 0, 1) := by decide +kernel
theorem dL_act_146 : decode cL_act 146 = .ok (.iload_n 2, 1) := by decide +kernel
theorem dL_act_147 : decode cL_act 147 = .ok (.iconst 4, 1) := by decide +kernel
theorem dL_act_148 : decode cL_act 148 = .ok (.irem, 1) := by decide +kernel
theorem dL_act_149 : decode cL_act 149 = .ok (.iload 7, 2) := by decide +kernel
theorem dL_act_151 : decode cL_act 151 = .ok (.iconst 1, 1) := by decide +kernel
theorem dL_act_152 : decode cL_act 152 = .ok (.if_icmp .ge 7, 3) := by decide +kernel
theorem dL_act_155 : decode cL_act 155 = .ok (.iconst 1, 1) := by decide +kernel
theorem dL_act_156 : decode cL_act 156 = .ok (.goto 17, 3) := by decide +kernel
theorem dL_act_159 : decode cL_act 159 = .ok (.iload 7, 2) := by decide +kernel
theorem dL_act_161 : decode cL_act 161 = .ok (.bipush 6, 2) := by decide +kernel
theorem dL_act_163 : decode cL_act 163 = .ok (.if_icmp .le 8, 3) := by decide +kernel
theorem dL_act_166 : decode cL_act 166 = .ok (.bipush 6, 2) := by decide +kernel
theorem dL_act_168 : decode cL_act 168 = .ok (.goto 5, 3) := by decide +kernel
theorem dL_act_171 : decode cL_act 171 = .ok (.iload 7, 2) := by decide +kernel
theorem dL_act_173 : decode cL_act 173 = .ok (.invokestatic 153, 3) := by decide +kernel
theorem dL_act_176 : decode cL_act 176 = .ok (.ireturn, 1) := by decide +kernel
theorem dL_act_177 : decode cL_act 177 = .ok (.aload_n 0, 1) := by decide +kernel
theorem dL_act_178 : decode cL_act 178 = .ok (.iload_n 2, 1) := by decide +kernel
theorem dL_act_179 : decode cL_act 179 = .ok (.iconst 4, 1) := by decide +kernel
theorem dL_act_180 : decode cL_act 180 = .ok (.irem, 1) := by decide +kernel
theorem dL_act_181 : decode cL_act 181 = .ok (.iload_n 2, 1) := by decide +kernel
theorem dL_act_182 : decode cL_act 182 = .ok (.iconst 4, 1) := by decide +kernel
theorem dL_act_183 : decode cL_act 183 = .ok (.idiv, 1) := by decide +kernel
theorem dL_act_184 : decode cL_act 184 = .ok (.bipush 10, 2) := by decide +kernel
theorem dL_act_186 : decode cL_act 186 = .ok (.irem, 1) := by decide +kernel
theorem dL_act_187 : decode cL_act 187 = .ok (.invokestatic 156, 3) := by decide +kernel
theorem dL_act_190 : decode cL_act 190 = .ok (.ireturn, 1) := by decide +kernel
theorem dL_act_191 : decode cL_act 191 = .ok (.aload_n 0, 1) := by decide +kernel
theorem dL_act_192 : decode cL_act 192 = .ok (.iload_n 2, 1) := by decide +kernel
theorem dL_act_193 : decode cL_act 193 = .ok (.iload_n 3, 1) := by decide +kernel
theorem dL_act_194 : decode cL_act 194 = .ok (.irem, 1) := by decide +kernel
theorem dL_act_195 : decode cL_act 195 = .ok (.iload_n 2, 1) := by decide +kernel
theorem dL_act_196 : decode cL_act 196 = .ok (.iconst 1, 1) := by decide +kernel
theorem dL_act_197 : decode cL_act 197 = .ok (.iadd, 1) := by decide +kernel
theorem dL_act_198 : decode cL_act 198 = .ok (.iload_n 2, 1) := by decide +kernel
theorem dL_act_199 : decode cL_act 199 = .ok (.bipush 16, 2) := by decide +kernel
theorem dL_act_201 : decode cL_act 201 = .ok (.idiv, 1) := by decide +kernel
theorem dL_act_202 : decode cL_act 202 = .ok (.iload_n 3, 1) := by decide +kernel
theorem dL_act_203 : decode cL_act 203 = .ok (.iconst 1, 1) := by decide +kernel
theorem dL_act_204 : decode cL_act 204 = .ok (.isub, 1) := by decide +kernel
theorem dL_act_205 : decode cL_act 205 = .ok (.irem, 1) := by decide +kernel
theorem dL_act_206 : decode cL_act 206 = .ok (.iadd, 1) := by decide +kernel
theorem dL_act_207 : decode cL_act 207 = .ok (.iload_n 3, 1) := by decide +kernel
theorem dL_act_208 : decode cL_act 208 = .ok (.irem, 1) := by decide +kernel
theorem dL_act_209 : decode cL_act 209 = .ok (.iconst 1, 1) := by decide +kernel
theorem dL_act_210 : decode cL_act 210 = .ok (.iload_n 2, 1) := by decide +kernel
theorem dL_act_211 : decode cL_act 211 = .ok (.sipush 256, 3) := by decide +kernel
theorem dL_act_214 : decode cL_act 214 = .ok (.idiv, 1) := by decide +kernel
theorem dL_act_215 : decode cL_act 215 = .ok (.bipush 60, 2) := by decide +kernel
theorem dL_act_217 : decode cL_act 217 = .ok (.irem, 1) := by decide +kernel
theorem dL_act_218 : decode cL_act 218 = .ok (.iadd, 1) := by decide +kernel
theorem dL_act_219 : decode cL_act 219 = .ok (.iconst 1, 1) := by decide +kernel
theorem dL_act_220 : decode cL_act 220 = .ok (.iload_n 2, 1) := by decide +kernel
theorem dL_act_221 : decode cL_act 221 = .ok (.ldc 255, 2) := by decide +kernel
theorem dL_act_223 : decode cL_act 223 = .ok (.idiv, 1) := by decide +kernel
theorem dL_act_224 : decode cL_act 224 = .ok (.bipush 9, 2) := by decide +kernel
theorem dL_act_226 : decode cL_act 226 = .ok (.irem, 1) := by decide +kernel
theorem dL_act_227 : decode cL_act 227 = .ok (.iadd, 1) := by decide +kernel
theorem dL_act_228 : decode cL_act 228 = .ok (.invokestatic 159, 3) := by decide +kernel
theorem dL_act_231 : decode cL_act 231 = .ok (.ireturn, 1) := by decide +kernel
theorem dL_act_232 : decode cL_act 232 = .ok (.aload_n 0, 1) := by decide +kernel
theorem dL_act_233 : decode cL_act 233 = .ok (.iload_n 2, 1) := by decide +kernel
theorem dL_act_234 : decode cL_act 234 = .ok (.iconst 4, 1) := by decide +kernel
theorem dL_act_235 : decode cL_act 235 = .ok (.irem, 1) := by decide +kernel
theorem dL_act_236 : decode cL_act 236 = .ok (.iload 5, 2) := by decide +kernel
theorem dL_act_238 : decode cL_act 238 = .ok (.invokestatic 163, 3) := by decide +kernel
theorem dL_act_241 : decode cL_act 241 = .ok (.ireturn, 1) := by decide +kernel
theorem dL_act_242 : decode cL_act 242 = .ok (.aload_n 0, 1) := by decide +kernel
theorem dL_act_243 : decode cL_act 243 = .ok (.iload 5, 2) := by decide +kernel
theorem dL_act_245 : decode cL_act 245 = .ok (.iload_n 2, 1) := by decide +kernel
theorem dL_act_246 : decode cL_act 246 = .ok (.bipush 64, 2) := by decide +kernel
theorem dL_act_248 : decode cL_act 248 = .ok (.idiv, 1) := by decide +kernel
theorem dL_act_249 : decode cL_act 249 = .ok (.iconst 2, 1) := by decide +kernel
theorem dL_act_250 : decode cL_act 250 = .ok (.irem, 1) := by decide +kernel
theorem dL_act_251 : decode cL_act 251 = .ok (.invokestatic 166, 3) := by decide +kernel
theorem dL_act_254 : decode cL_act 254 = .ok (.ireturn, 1) := by decide +kernel
theorem dL_act_255 : decode cL_act 255 = .ok (.aload_n 0, 1) := by decide +kernel
theorem dL_act_256 : decode cL_act 256 = .ok (.invokevirtual 216, 3) := by decide +kernel
theorem dL_act_259 : decode cL_act 259 = .ok (.ireturn, 1) := by decide +kernel
theorem dL_act_260 : decode cL_act 260 = .ok (.aload_n 0, 1) := by decide +kernel
theorem dL_act_261 : decode cL_act 261 = .ok (.invokestatic 134, 3) := by decide +kernel
theorem dL_act_264 : decode cL_act 264 = .ok (.ireturn, 1) := by decide +kernel
theorem dL_act_265 : decode cL_act 265 = .ok (.iload_n 2, 1) := by decide +kernel
theorem dL_act_266 : decode cL_act 266 = .ok (.iconst 2, 1) := by decide +kernel
theorem dL_act_267 : decode cL_act 267 = .ok (.irem, 1) := by decide +kernel
theorem dL_act_268 : decode cL_act 268 = .ok (.ifCond .ne 11, 3) := by decide +kernel
theorem dL_act_271 : decode cL_act 271 = .ok (.aload_n 0, 1) := by decide +kernel
theorem dL_act_272 : decode cL_act 272 = .ok (.iconst 1, 1) := by decide +kernel
theorem dL_act_273 : decode cL_act 273 = .ok (.invokestatic 201, 3) := by decide +kernel
theorem dL_act_276 : decode cL_act 276 = .ok (.goto 8, 3) := by decide +kernel
theorem dL_act_279 : decode cL_act 279 = .ok (.aload_n 0, 1) := by decide +kernel
theorem dL_act_280 : decode cL_act 280 = .ok (.iconst 1, 1) := by decide +kernel
theorem dL_act_281 : decode cL_act 281 = .ok (.invokestatic 137, 3) := by decide +kernel
theorem dL_act_284 : decode cL_act 284 = .ok (.ireturn, 1) := by decide +kernel
theorem dL_law_0 : decode cL_law 0 = .ok (.new 8, 3) := by decide +kernel
theorem dL_law_3 : decode cL_law 3 = .ok (.dup, 1) := by decide +kernel
theorem dL_law_4 : decode cL_law 4 = .ok (.invokespecial 256, 3) := by decide +kernel
theorem dL_law_7 : decode cL_law 7 = .ok (.astore_n 1, 1) := by decide +kernel
theorem dL_law_8 : decode cL_law 8 = .ok (.new 8, 3) := by decide +kernel
theorem dL_law_11 : decode cL_law 11 = .ok (.dup, 1) := by decide +kernel
theorem dL_law_12 : decode cL_law 12 = .ok (.invokespecial 256, 3) := by decide +kernel
theorem dL_law_15 : decode cL_law 15 = .ok (.astore_n 2, 1) := by decide +kernel
theorem dL_law_16 : decode cL_law 16 = .ok (.aload_n 1, 1) := by decide +kernel
theorem dL_law_17 : decode cL_law 17 = .ok (.invokevirtual 120, 3) := by decide +kernel
theorem dL_law_20 : decode cL_law 20 = .ok (.ifCond .ne 60, 3) := by decide +kernel
theorem dL_law_23 : decode cL_law 23 = .ok (.aload_n 1, 1) := by decide +kernel
theorem dL_law_24 : decode cL_law 24 = .ok (.iconst 1, 1) := by decide +kernel
theorem dL_law_25 : decode cL_law 25 = .ok (.invokestatic 127, 3) := by decide +kernel
theorem dL_law_28 : decode cL_law 28 = .ok (.iconst 2, 1) := by decide +kernel
theorem dL_law_29 : decode cL_law 29 = .ok (.if_icmp .ne 51, 3) := by decide +kernel
theorem dL_law_32 : decode cL_law 32 = .ok (.aload_n 1, 1) := by decide +kernel
theorem dL_law_33 : decode cL_law 33 = .ok (.iconst 0, 1) := by decide +kernel
theorem dL_law_34 : decode cL_law 34 = .ok (.iconst 0, 1) := by decide +kernel
theorem dL_law_35 : decode cL_law 35 = .ok (.iconst 2, 1) := by decide +kernel
theorem dL_law_36 : decode cL_law 36 = .ok (.iconst 4, 1) := by decide +kernel
theorem dL_law_37 : decode cL_law 37 = .ok (.iconst 0, 1) := by decide +kernel
theorem dL_law_38 : decode cL_law 38 = .ok (.invokestatic 169, 3) := by decide +kernel
theorem dL_law_41 : decode cL_law 41 = .ok (.iconst 4, 1) := by decide +kernel
theorem dL_law_42 : decode cL_law 42 = .ok (.if_icmp .ne 38, 3) := by decide +kernel
theorem dL_law_45 : decode cL_law 45 = .ok (.aload_n 1, 1) := by decide +kernel
theorem dL_law_46 : decode cL_law 46 = .ok (.invokestatic 134, 3) := by decide +kernel
theorem dL_law_49 : decode cL_law 49 = .ok (.ldc 18, 2) := by decide +kernel
theorem dL_law_51 : decode cL_law 51 = .ok (.if_icmp .ne 29, 3) := by decide +kernel
theorem dL_law_54 : decode cL_law 54 = .ok (.aload_n 2, 1) := by decide +kernel
theorem dL_law_55 : decode cL_law 55 = .ok (.invokestatic 257, 3) := by decide +kernel
theorem dL_law_58 : decode cL_law 58 = .ok (.ifCond .eq 22, 3) := by decide +kernel
theorem dL_law_61 : decode cL_law 61 = .ok (.aload_n 1, 1) := by decide +kernel
theorem dL_law_62 : decode cL_law 62 = .ok (.aload_n 2, 1) := by decide +kernel
theorem dL_law_63 : decode cL_law 63 = .ok (.invokestatic 260, 3) := by decide +kernel
theorem dL_law_66 : decode cL_law 66 = .ok (.ifCond .eq 14, 3) := by decide +kernel
theorem dL_law_69 : decode cL_law 69 = .ok (.aload_n 1, 1) := by decide +kernel
theorem dL_law_70 : decode cL_law 70 = .ok (.invokestatic 208, 3) := by decide +kernel
theorem dL_law_73 : decode cL_law 73 = .ok (.ifCond .eq 7, 3) := by decide +kernel
theorem dL_law_76 : decode cL_law 76 = .ok (.iconst 1, 1) := by decide +kernel
theorem dL_law_77 : decode cL_law 77 = .ok (.goto 4, 3) := by decide +kernel
theorem dL_law_80 : decode cL_law 80 = .ok (.iconst 0, 1) := by decide +kernel
theorem dL_law_81 : decode cL_law 81 = .ok (.istore_n 3, 1) := by decide +kernel
theorem dL_law_82 : decode cL_law 82 = .ok (.iconst 0, 1) := by decide +kernel
theorem dL_law_83 : decode cL_law 83 = .ok (.istore 4, 2) := by decide +kernel
theorem dL_law_85 : decode cL_law 85 = .ok (.iload 4, 2) := by decide +kernel
theorem dL_law_87 : decode cL_law 87 = .ok (.iconst 2, 1) := by decide +kernel
theorem dL_law_88 : decode cL_law 88 = .ok (.if_icmp .ge 259, 3) := by decide +kernel
theorem dL_law_91 : decode cL_law 91 = .ok (.iload_n 3, 1) := by decide +kernel
theorem dL_law_92 : decode cL_law 92 = .ok (.ifCond .eq 255, 3) := by decide +kernel
theorem dL_law_95 : decode cL_law 95 = .ok (.aload_n 1, 1) := by decide +kernel
theorem dL_law_96 : decode cL_law 96 = .ok (.aload_n 2, 1) := by decide +kernel
theorem dL_law_97 : decode cL_law 97 = .ok (.aload_n 0, 1) := by decide +kernel
theorem dL_law_98 : decode cL_law 98 = .ok (.bipush 40, 2) := by decide +kernel
theorem dL_law_100 : decode cL_law 100 = .ok (.iload 4, 2) := by decide +kernel
theorem dL_law_102 : decode cL_law 102 = .ok (.imul, 1) := by decide +kernel
theorem dL_law_103 : decode cL_law 103 = .ok (.invokestatic 264, 3) := by decide +kernel
theorem dL_law_106 : decode cL_law 106 = .ok (.ifCond .eq 29, 3) := by decide +kernel
theorem dL_law_109 : decode cL_law 109 = .ok (.aload_n 2, 1) := by decide +kernel
theorem dL_law_110 : decode cL_law 110 = .ok (.invokestatic 257, 3) := by decide +kernel
theorem dL_law_113 : decode cL_law 113 = .ok (.ifCond .eq 22, 3) := by decide +kernel
theorem dL_law_116 : decode cL_law 116 = .ok (.aload_n 1, 1) := by decide +kernel
theorem dL_law_117 : decode cL_law 117 = .ok (.aload_n 2, 1) := by decide +kernel
theorem dL_law_118 : decode cL_law 118 = .ok (.invokestatic 260, 3) := by decide +kernel
theorem dL_law_121 : decode cL_law 121 = .ok (.ifCond .eq 14, 3) := by decide +kernel
theorem dL_law_124 : decode cL_law 124 = .ok (.aload_n 1, 1) := by decide +kernel
theorem dL_law_125 : decode cL_law 125 = .ok (.invokestatic 208, 3) := by decide +kernel
theorem dL_law_128 : decode cL_law 128 = .ok (.ifCond .eq 7, 3) := by decide +kernel
theorem dL_law_131 : decode cL_law 131 = .ok (.iconst 1, 1) := by decide +kernel
theorem dL_law_132 : decode cL_law 132 = .ok (.goto 4, 3) := by decide +kernel
theorem dL_law_135 : decode cL_law 135 = .ok (.iconst 0, 1) := by decide +kernel
theorem dL_law_136 : decode cL_law 136 = .ok (.istore_n 3, 1) := by decide +kernel
theorem dL_law_137 : decode cL_law 137 = .ok (.iconst 0, 1) := by decide +kernel
theorem dL_law_138 : decode cL_law 138 = .ok (.istore 5, 2) := by decide +kernel
theorem dL_law_140 : decode cL_law 140 = .ok (.iload 5, 2) := by decide +kernel
theorem dL_law_142 : decode cL_law 142 = .ok (.bipush 15, 2) := by decide +kernel
theorem dL_law_144 : decode cL_law 144 = .ok (.if_icmp .ge 197, 3) := by decide +kernel
theorem dL_law_147 : decode cL_law 147 = .ok (.iload_n 3, 1) := by decide +kernel
theorem dL_law_148 : decode cL_law 148 = .ok (.ifCond .eq 193, 3) := by decide +kernel
theorem dL_law_151 : decode cL_law 151 = .ok (.aload_n 0, 1) := by decide +kernel
theorem dL_law_152 : decode cL_law 152 = .ok (.bipush 40, 2) := by decide +kernel
theorem dL_law_154 : decode cL_law 154 = .ok (.iload 4, 2) := by decide +kernel
theorem dL_law_156 : decode cL_law 156 = .ok (.imul, 1) := by decide +kernel
theorem dL_law_157 : decode cL_law 157 = .ok (.iconst 5, 1) := by decide +kernel
theorem dL_law_158 : decode cL_law 158 = .ok (.iadd, 1) := by decide +kernel
theorem dL_law_159 : decode cL_law 159 = .ok (.iconst 2, 1) := by decide +kernel
theorem dL_law_160 : decode cL_law 160 = .ok (.iload 5, 2) := by decide +kernel
theorem dL_law_162 : decode cL_law 162 = .ok (.imul, 1) := by decide +kernel
theorem dL_law_163 : decode cL_law 163 = .ok (.iadd, 1) := by decide +kernel
theorem dL_law_164 : decode cL_law 164 = .ok (.invokestatic 109, 3) := by decide +kernel
theorem dL_law_167 : decode cL_law 167 = .ok (.istore 6, 2) := by decide +kernel
theorem dL_law_169 : decode cL_law 169 = .ok (.aload_n 0, 1) := by decide +kernel
theorem dL_law_170 : decode cL_law 170 = .ok (.bipush 40, 2) := by decide +kernel
theorem dL_law_172 : decode cL_law 172 = .ok (.iload 4, 2) := by decide +kernel
theorem dL_law_174 : decode cL_law 174 = .ok (.imul, 1) := by decide +kernel
theorem dL_law_175 : decode cL_law 175 = .ok (.bipush 6, 2) := by decide +kernel
theorem dL_law_177 : decode cL_law 177 = .ok (.iadd, 1) := by decide +kernel
theorem dL_law_178 : decode cL_law 178 = .ok (.iconst 2, 1) := by decide +kernel
theorem dL_law_179 : decode cL_law 179 = .ok (.iload 5, 2) := by decide +kernel
theorem dL_law_181 : decode cL_law 181 = .ok (.imul, 1) := by decide +kernel
theorem dL_law_182 : decode cL_law 182 = .ok (.iadd, 1) := by decide +kernel
theorem dL_law_183 : decode cL_law 183 = .ok (.invokestatic 109, 3) := by decide +kernel
theorem dL_law_186 : decode cL_law 186 = .ok (.istore 7, 2) := by decide +kernel
theorem dL_law_188 : decode cL_law 188 = .ok (.aload_n 1, 1) := by decide +kernel
theorem dL_law_189 : decode cL_law 189 = .ok (.iload 6, 2) := by decide +kernel
theorem dL_law_191 : decode cL_law 191 = .ok (.iload 7, 2) := by decide +kernel
theorem dL_law_193 : decode cL_law 193 = .ok (.invokestatic 268, 3) := by decide +kernel
theorem dL_law_196 : decode cL_law 196 = .ok (.aload_n 2, 1) := by decide +kernel
theorem dL_law_197 : decode cL_law 197 = .ok (.iload 6, 2) := by decide +kernel
theorem dL_law_199 : decode cL_law 199 = .ok (.iload 7, 2) := by decide +kernel
theorem dL_law_201 : decode cL_law 201 = .ok (.invokestatic 268, 3) := by decide +kernel
theorem dL_law_204 : decode cL_law 204 = .ok (.if_icmp .ne 29, 3) := by decide +kernel
theorem dL_law_207 : decode cL_law 207 = .ok (.aload_n 2, 1) := by decide +kernel
theorem dL_law_208 : decode cL_law 208 = .ok (.invokestatic 257, 3) := by decide +kernel
theorem dL_law_211 : decode cL_law 211 = .ok (.ifCond .eq 22, 3) := by decide +kernel
theorem dL_law_214 : decode cL_law 214 = .ok (.aload_n 1, 1) := by decide +kernel
theorem dL_law_215 : decode cL_law 215 = .ok (.aload_n 2, 1) := by decide +kernel
theorem dL_law_216 : decode cL_law 216 = .ok (.invokestatic 260, 3) := by decide +kernel
theorem dL_law_219 : decode cL_law 219 = .ok (.ifCond .eq 14, 3) := by decide +kernel
theorem dL_law_222 : decode cL_law 222 = .ok (.aload_n 1, 1) := by decide +kernel
theorem dL_law_223 : decode cL_law 223 = .ok (.invokestatic 208, 3) := by decide +kernel
theorem dL_law_226 : decode cL_law 226 = .ok (.ifCond .eq 7, 3) := by decide +kernel
theorem dL_law_229 : decode cL_law 229 = .ok (.iconst 1, 1) := by decide +kernel
theorem dL_law_230 : decode cL_law 230 = .ok (.goto 4, 3) := by decide +kernel
theorem dL_law_233 : decode cL_law 233 = .ok (.iconst 0, 1) := by decide +kernel
theorem dL_law_234 : decode cL_law 234 = .ok (.istore_n 3, 1) := by decide +kernel
theorem dL_law_235 : decode cL_law 235 = .ok (.iload 5, 2) := by decide +kernel
theorem dL_law_237 : decode cL_law 237 = .ok (.iconst 4, 1) := by decide +kernel
theorem dL_law_238 : decode cL_law 238 = .ok (.irem, 1) := by decide +kernel
theorem dL_law_239 : decode cL_law 239 = .ok (.iconst 3, 1) := by decide +kernel
theorem dL_law_240 : decode cL_law 240 = .ok (.if_icmp .ne 95, 3) := by decide +kernel
theorem dL_law_243 : decode cL_law 243 = .ok (.iload_n 3, 1) := by decide +kernel
theorem dL_law_244 : decode cL_law 244 = .ok (.ifCond .eq 91, 3) := by decide +kernel
theorem dL_law_247 : decode cL_law 247 = .ok (.aload_n 1, 1) := by decide +kernel
theorem dL_law_248 : decode cL_law 248 = .ok (.iconst 4, 1) := by decide +kernel
theorem dL_law_249 : decode cL_law 249 = .ok (.invokestatic 127, 3) := by decide +kernel
theorem dL_law_252 : decode cL_law 252 = .ok (.istore 8, 2) := by decide +kernel
theorem dL_law_254 : decode cL_law 254 = .ok (.aload_n 1, 1) := by decide +kernel
theorem dL_law_255 : decode cL_law 255 = .ok (.iload 6, 2) := by decide +kernel
theorem dL_law_257 : decode cL_law 257 = .ok (.invokestatic 271, 3) := by decide +kernel
theorem dL_law_260 : decode cL_law 260 = .ok (.ifCond .eq 73, 3) := by decide +kernel
theorem dL_law_263 : decode cL_law 263 = .ok (.aload_n 2, 1) := by decide +kernel
theorem dL_law_264 : decode cL_law 264 = .ok (.iconst 0, 1) := by decide +kernel
theorem dL_law_265 : decode cL_law 265 = .ok (.invokestatic 201, 3) := by decide +kernel
theorem dL_law_268 : decode cL_law 268 = .ok (.iload 8, 2) := by decide +kernel
theorem dL_law_270 : decode cL_law 270 = .ok (.if_icmp .ne 63, 3) := by decide +kernel
theorem dL_law_273 : decode cL_law 273 = .ok (.aload_n 1, 1) := by decide +kernel
theorem dL_law_274 : decode cL_law 274 = .ok (.iconst 0, 1) := by decide +kernel
theorem dL_law_275 : decode cL_law 275 = .ok (.invokestatic 201, 3) := by decide +kernel
theorem dL_law_278 : decode cL_law 278 = .ok (.iload 8, 2) := by decide +kernel
theorem dL_law_280 : decode cL_law 280 = .ok (.if_icmp .ne 53, 3) := by decide +kernel
theorem dL_law_283 : decode cL_law 283 = .ok (.aload_n 1, 1) := by decide +kernel
theorem dL_law_284 : decode cL_law 284 = .ok (.iconst 0, 1) := by decide +kernel
theorem dL_law_285 : decode cL_law 285 = .ok (.invokestatic 137, 3) := by decide +kernel
theorem dL_law_288 : decode cL_law 288 = .ok (.iload 8, 2) := by decide +kernel
theorem dL_law_290 : decode cL_law 290 = .ok (.if_icmp .ne 43, 3) := by decide +kernel
theorem dL_law_293 : decode cL_law 293 = .ok (.aload_n 1, 1) := by decide +kernel
theorem dL_law_294 : decode cL_law 294 = .ok (.iload 7, 2) := by decide +kernel
theorem dL_law_296 : decode cL_law 296 = .ok (.invokestatic 274, 3) := by decide +kernel
theorem dL_law_299 : decode cL_law 299 = .ok (.ifCond .eq 34, 3) := by decide +kernel
theorem dL_law_302 : decode cL_law 302 = .ok (.aload_n 2, 1) := by decide +kernel
theorem dL_law_303 : decode cL_law 303 = .ok (.iconst 0, 1) := by decide +kernel
theorem dL_law_304 : decode cL_law 304 = .ok (.invokestatic 137, 3) := by decide +kernel
theorem dL_law_307 : decode cL_law 307 = .ok (.iload 8, 2) := by decide +kernel
theorem dL_law_309 : decode cL_law 309 = .ok (.if_icmp .ne 24, 3) := by decide +kernel
theorem dL_law_312 : decode cL_law 312 = .ok (.aload_n 1, 1) := by decide +kernel
theorem dL_law_313 : decode cL_law 313 = .ok (.invokestatic 134, 3) := by decide +kernel
theorem dL_law_316 : decode cL_law 316 = .ok (.ldc 18, 2) := by decide +kernel
theorem dL_law_318 : decode cL_law 318 = .ok (.if_icmp .ne 15, 3) := by decide +kernel
theorem dL_law_321 : decode cL_law 321 = .ok (.aload_n 1, 1) := by decide +kernel
theorem dL_law_322 : decode cL_law 322 = .ok (.aload_n 2, 1) := by decide +kernel
theorem dL_law_323 : decode cL_law 323 = .ok (.invokestatic 260, 3) := by decide +kernel
theorem dL_law_326 : decode cL_law 326 = .ok (.ifCond .eq 7, 3) := by decide +kernel
theorem dL_law_329 : decode cL_law 329 = .ok (.iconst 1, 1) := by decide +kernel
theorem dL_law_330 : decode cL_law 330 = .ok (.goto 4, 3) := by decide +kernel
theorem dL_law_333 : decode cL_law 333 = .ok (.iconst 0, 1) := by decide +kernel
theorem dL_law_334 : decode cL_law 334 = .ok (.istore_n 3, 1) := by decide +kernel
theorem dL_law_335 : decode cL_law 335 = .ok (.iinc 5 1, 3) := by decide +kernel
theorem dL_law_338 : decode cL_law 338 = .ok (.goto (-198), 3) := by decide +kernel
theorem dL_law_341 : decode cL_law 341 = .ok (.iinc 4 1, 3) := by decide +kernel
theorem dL_law_344 : decode cL_law 344 = .ok (.goto (-259), 3) := by decide +kernel
theorem dL_law_347 : decode cL_law 347 = .ok (.iload_n 3, 1) := by decide +kernel
theorem dL_law_348 : decode cL_law 348 = .ok (.ireturn, 1) := by decide +kernel
