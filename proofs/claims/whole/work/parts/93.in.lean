/-! ===== the words that the rows use, in the tables ===== -/
theorem wsin_1 : ∀ w ∈ wsL_law0_r1, w ∈ lw_tbl := fun w h => (goodIn_p wsL_law0_r1 [64, 67] (by decide +kernel) (by decide +kernel) w h).1
theorem wsin_2 : ∀ w ∈ wsL_law0_r2, w ∈ lw_tbl := fun w h => (goodIn_p wsL_law0_r2 [72, 86] (by decide +kernel) (by decide +kernel) w h).1
theorem wsin_3 : ∀ w ∈ wsL_law0_r3, w ∈ lw_tbl := fun w h => (goodIn_p wsL_law0_r3 [92, 127] (by decide +kernel) (by decide +kernel) w h).1
theorem wsin_4 : ∀ w ∈ wsL_law0_r4, w ∈ lw_tbl := fun w h => (goodIn_p wsL_law0_r4 [170, 255, 275] (by decide +kernel) (by decide +kernel) w h).1
theorem wsin_5 : ∀ w ∈ wsL_law0_r5, w ∈ lw_tbl := fun w h => (goodIn_p wsL_law0_r5 [290, 296, 336] (by decide +kernel) (by decide +kernel) w h).1
theorem wsin_6 : ∀ w ∈ wsL_law0_r6, w ∈ lw_tbl := fun w h => (goodIn_p wsL_law0_r6 [340, 343, 346, 350, 354, 1148] (by decide +kernel) (by decide +kernel) w h).1
theorem wsin_7 : ∀ w ∈ wsL_law0_r7, w ∈ lw_tbl := fun w h => (goodIn_p wsL_law0_r7 [1152, 1155, 1158, 1161] (by decide +kernel) (by decide +kernel) w h).1
theorem wsin_8 : ∀ w ∈ wsL_law0_r8, w ∈ lw_tbl := fun w h => (goodIn_p wsL_law0_r8 [552, 555, 627, 647] (by decide +kernel) (by decide +kernel) w h).1
theorem wsin_9 : ∀ w ∈ wsL_law0_r9, w ∈ lw_tbl := fun w h => (goodIn_p wsL_law0_r9 [1219, 1223, 1227, 1215, 378] (by decide +kernel) (by decide +kernel) w h).1
theorem wsin_10 : ∀ w ∈ wsL_law0_r10, w ∈ lw_tbl := fun w h => (goodIn_p wsL_law0_r10 [382, 1231, 386, 390, 394, 397, 401] (by decide +kernel) (by decide +kernel) w h).1
theorem wsin_11 : ∀ w ∈ wsL_law0_r11, w ∈ lw_tbl := fun w h => (goodIn_p wsL_law0_r11 [406, 411, 415, 420] (by decide +kernel) (by decide +kernel) w h).1
theorem wsin_12 : ∀ w ∈ wsL_law0_r12, w ∈ lw_tbl := fun w h => (goodIn_p wsL_law0_r12 [424, 428, 1235, 1239, 1243, 1247] (by decide +kernel) (by decide +kernel) w h).1
theorem wsin_13 : ∀ w ∈ wsL_law0_r13, w ∈ lw_tbl := fun w h => (goodIn_p wsL_law0_r13 [1251, 1255, 1258, 1261, 656] (by decide +kernel) (by decide +kernel) w h).1
theorem wsin_14 : ∀ w ∈ wsL_law0_r14, w ∈ lw_tbl := fun w h => (goodIn_p wsL_law0_r14 [449, 453, 456, 459, 466, 471] (by decide +kernel) (by decide +kernel) w h).1
theorem wsin_15 : ∀ w ∈ wsL_law0_r15, w ∈ lw_tbl := fun w h => (goodIn_p wsL_law0_r15 [661, 665, 1265, 1268, 673] (by decide +kernel) (by decide +kernel) w h).1
theorem wsin_16 : ∀ w ∈ wsL_law0_r16, w ∈ lw_tbl := fun w h => (goodIn_p wsL_law0_r16 [677, 1272] (by decide +kernel) (by decide +kernel) w h).1
theorem wsin_17 : ∀ w ∈ wsL_law0_r17, w ∈ lw_tbl := fun w h => (goodIn_p wsL_law0_r17 [686, 690, 694, 697] (by decide +kernel) (by decide +kernel) w h).1
theorem wsin_18 : ∀ w ∈ wsL_law0_r18, w ∈ lw_tbl := fun w h => (goodIn_p wsL_law0_r18 [717, 1277, 1280, 724, 727] (by decide +kernel) (by decide +kernel) w h).1
theorem wsin_19 : ∀ w ∈ wsL_law0_r19, w ∈ lw_tbl := fun w h => (goodIn_p wsL_law0_r19 [730, 517, 735, 1285, 1288, 1292, 1295] (by decide +kernel) (by decide +kernel) w h).1
theorem wsin_20 : ∀ w ∈ wsL_law0_r20, w ∈ lw_tbl := fun w h => (goodIn_p wsL_law0_r20 [742, 746, 750, 754, 525] (by decide +kernel) (by decide +kernel) w h).1
theorem wsin_21 : ∀ w ∈ wsL_law0_r21, w ∈ lw_tbl := fun w h => (goodIn_p wsL_law0_r21 [759, 1299, 1302, 1305, 1308, 766] (by decide +kernel) (by decide +kernel) w h).1
theorem wsin_22 : ∀ w ∈ wsL_law0_r22, w ∈ lw_tbl := fun w h => (goodIn_p wsL_law0_r22 [770, 492, 1312, 1315] (by decide +kernel) (by decide +kernel) w h).1
theorem wsin_23 : ∀ w ∈ wsL_law0_r23, w ∈ lw_tbl := fun w h => (goodIn_p wsL_law0_r23 [778, 782, 789, 792, 438] (by decide +kernel) (by decide +kernel) w h).1
theorem wsin_24 : ∀ w ∈ wsL_law0_r24, w ∈ lw_tbl := fun w h => (goodIn_p wsL_law0_r24 [442, 445, 797, 499, 1320, 1323, 1327] (by decide +kernel) (by decide +kernel) w h).1
theorem wsin_25 : ∀ w ∈ wsL_law0_r25, w ∈ lw_tbl := fun w h => (goodIn_p wsL_law0_r25 [1330, 1333, 804, 808, 812] (by decide +kernel) (by decide +kernel) w h).1
theorem wsin_26 : ∀ w ∈ wsL_law0_r26, w ∈ lw_tbl := fun w h => (goodIn_p wsL_law0_r26 [816, 820, 1337, 1340, 1343, 1346] (by decide +kernel) (by decide +kernel) w h).1
theorem wsin_27 : ∀ w ∈ wsL_law0_r27, w ∈ lw_tbl := fun w h => (goodIn_p wsL_law0_r27 [827, 831, 1350, 838, 842] (by decide +kernel) (by decide +kernel) w h).1
theorem wsin_28 : ∀ w ∈ wsL_law0_r28, w ∈ lw_tbl := fun w h => (goodIn_p wsL_law0_r28 [845, 1355, 1360, 855, 484] (by decide +kernel) (by decide +kernel) w h).1
theorem wsin_29 : ∀ w ∈ wsL_law0_r29, w ∈ lw_tbl := fun w h => (goodIn_p wsL_law0_r29 [488, 860, 1364, 1367, 1370] (by decide +kernel) (by decide +kernel) w h).1
theorem wsin_30 : ∀ w ∈ wsL_law0_r30, w ∈ lw_tbl := fun w h => (goodIn_p wsL_law0_r30 [867, 871, 876, 884] (by decide +kernel) (by decide +kernel) w h).1
theorem wsin_31 : ∀ w ∈ wsL_law0_r31, w ∈ lw_tbl := fun w h => (goodIn_p wsL_law0_r31 [888, 893, 898, 903] (by decide +kernel) (by decide +kernel) w h).1
theorem wsin_32 : ∀ w ∈ wsL_law0_r32, w ∈ lw_tbl := fun w h => (goodIn_p wsL_law0_r32 [907, 911, 915, 919, 923, 927] (by decide +kernel) (by decide +kernel) w h).1
theorem wsin_33 : ∀ w ∈ wsL_law0_r33, w ∈ lw_tbl := fun w h => (goodIn_p wsL_law0_r33 [931, 935, 940, 1374, 1377] (by decide +kernel) (by decide +kernel) w h).1
theorem wsin_34 : ∀ w ∈ wsL_law0_r34, w ∈ lw_tbl := fun w h => (goodIn_p wsL_law0_r34 [1381, 1385, 1389, 1394, 1397] (by decide +kernel) (by decide +kernel) w h).1
theorem wsin_35 : ∀ w ∈ wsL_law0_r35, w ∈ lw_tbl := fun w h => (goodIn_p wsL_law0_r35 [1400, 1404, 434, 476, 480] (by decide +kernel) (by decide +kernel) w h).1
theorem wsin_36 : ∀ w ∈ wsL_law0_r36, w ∈ lw_tbl := fun w h => (goodIn_p wsL_law0_r36 [505, 509, 513, 522, 529, 533] (by decide +kernel) (by decide +kernel) w h).1
theorem wsin_37 : ∀ w ∈ wsL_law0_r37, w ∈ lw_tbl := fun w h => (goodIn_p wsL_law0_r37 [538, 542, 1408, 1411, 1414, 1417, 1420] (by decide +kernel) (by decide +kernel) w h).1
theorem wsin_38 : ∀ w ∈ wsL_law0_r38, w ∈ lw_tbl := fun w h => (goodIn_p wsL_law0_r38 [1423, 947, 951, 1427, 958] (by decide +kernel) (by decide +kernel) w h).1
theorem wsin_39 : ∀ w ∈ wsL_law0_r39, w ∈ lw_tbl := fun w h => (goodIn_p wsL_law0_r39 [1431, 966, 1436, 973] (by decide +kernel) (by decide +kernel) w h).1
theorem wsin_40 : ∀ w ∈ wsL_law0_r40, w ∈ lw_tbl := fun w h => (goodIn_p wsL_law0_r40 [977, 1440, 984, 988, 992] (by decide +kernel) (by decide +kernel) w h).1
theorem wsin_41 : ∀ w ∈ wsL_law0_r41, w ∈ lw_tbl := fun w h => (goodIn_p wsL_law0_r41 [995, 1444, 1003, 1448] (by decide +kernel) (by decide +kernel) w h).1
theorem wsin_42 : ∀ w ∈ wsL_law0_r42, w ∈ lw_tbl := fun w h => (goodIn_p wsL_law0_r42 [1010, 1453, 1017, 1021, 1025] (by decide +kernel) (by decide +kernel) w h).1
theorem wsin_43 : ∀ w ∈ wsL_law0_r43, w ∈ lw_tbl := fun w h => (goodIn_p wsL_law0_r43 [1457, 1460, 1032, 1035, 1041] (by decide +kernel) (by decide +kernel) w h).1
theorem wsin_44 : ∀ w ∈ wsL_law0_r44, w ∈ lw_tbl := fun w h => (goodIn_p wsL_law0_r44 [1045, 1051, 1056, 1062] (by decide +kernel) (by decide +kernel) w h).1
theorem wsin_45 : ∀ w ∈ wsL_law0_r45, w ∈ lw_tbl := fun w h => (goodIn_p wsL_law0_r45 [1066, 1072, 1078, 1464] (by decide +kernel) (by decide +kernel) w h).1
theorem wsin_46 : ∀ w ∈ wsL_law0_r46, w ∈ lw_tbl := fun w h => (goodIn_p wsL_law0_r46 [1471, 1087, 1093, 1100] (by decide +kernel) (by decide +kernel) w h).1
theorem wsin_47 : ∀ w ∈ wsL_law0_r47, w ∈ lw_tbl := fun w h => (goodIn_p wsL_law0_r47 [1105, 1475, 1481, 1114, 1117] (by decide +kernel) (by decide +kernel) w h).1
theorem wsin_48 : ∀ w ∈ wsL_law0_r48, w ∈ lw_tbl := fun w h => (goodIn_p wsL_law0_r48 [1121, 1125, 1485, 1134, 1138] (by decide +kernel) (by decide +kernel) w h).1
theorem wsin_49 : ∀ w ∈ wsL_law0_r49, w ∈ lw_tbl := fun w h => (goodIn_p wsL_law0_r49 [1143, 1489] (by decide +kernel) (by decide +kernel) w h).1
