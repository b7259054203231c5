/-! what the Statement gives of the start -/
def stC : Cond := Cond.and given_1 narrow_1
def stF : List Cond := flatC stC
def sTm (i : Nat) : Term := if i < 10 then .string "EchoCouncil$OrderKind" (([65, 71, 74, 77, 80, 83, 86, 89, 92, 95] : List Nat).getD i 0) else .string "EchoCouncilModel" 238
def kTm (i : Nat) : Term := .static "EchoCouncil$OrderKind" (eNm.getD i "") "LEchoCouncil$OrderKind;"
def swT : Term := .static "EchoCouncil$1" "$SwitchMap$EchoCouncil$OrderKind" "[I"
def kkT : Term := .static "EchoCouncil" "KINDS" "[LEchoCouncil$OrderKind;"
def dgT1 : Term := .static "java/lang/Integer" "DigitOnes" "[B"
def dgT2 : Term := .static "java/lang/Integer" "DigitTens" "[B"
theorem st_m1 : ∀ i, i < 11 → stF[([1353, 1362, 1371, 1382, 1392, 1400, 1410, 1419, 1428, 1344, 1287] : List Nat).getD i 0]? = some (Cond.exactly (sTm i) "java/lang/String") := by decide +kernel
theorem st_m2 : ∀ i, i < 11 → stF[([1354, 1363, 1372, 1383, 1393, 1401, 1411, 1420, 1429, 1345, 1288] : List Nat).getD i 0]? = some (Cond.eq (.field (sTm i) "java/lang/String" "coder" "B") (.int 0)) := by decide +kernel
theorem st_m3 : ∀ i, i < 11 → stF[([1355, 1364, 1373, 1384, 1394, 1402, 1412, 1421, 1430, 1346, 1289] : List Nat).getD i 0]? = some (Cond.arrayOf (.field (sTm i) "java/lang/String" "value" "[B") .byte) := by decide +kernel
theorem st_m4 : ∀ i, i < 11 → stF[([1356, 1365, 1374, 1385, 1395, 1403, 1413, 1422, 1431, 1347, 1290] : List Nat).getD i 0]? = some (Cond.eq (.length (.field (sTm i) "java/lang/String" "value" "[B")) (.int (Int32.ofNat (sLen.getD i 0)))) := by decide +kernel
theorem st_m5 : ∀ i, i < 11 → ∀ j, j < sLen.getD i 0 → stF[((([[1357, 1358, 1359, 1360, 1361], [1366, 1367, 1368, 1369, 1370], [1375, 1376, 1377, 1378, 1379, 1380, 1381], [1386, 1387, 1388, 1389, 1390, 1391], [1396, 1397, 1398, 1399], [1404, 1405, 1406, 1407, 1408, 1409], [1414, 1415, 1416, 1417, 1418], [1423, 1424, 1425, 1426, 1427], [1432, 1433, 1434, 1435, 1436], [1348, 1349, 1350, 1351, 1352], [1291, 1292, 1293, 1294, 1295, 1296, 1297, 1298, 1299, 1300, 1301, 1302, 1303, 1304, 1305, 1306, 1307, 1308, 1309, 1310, 1311, 1312, 1313, 1314, 1315, 1316, 1317, 1318, 1319, 1320, 1321, 1322, 1323, 1324, 1325, 1326, 1327, 1328, 1329, 1330, 1331, 1332, 1333, 1334, 1335, 1336, 1337, 1338, 1339, 1340, 1341, 1342, 1343]] : List (List Nat)).getD i []).getD j 0)]? = some (Cond.eq (.elem (.field (sTm i) "java/lang/String" "value" "[B") (.int (Int32.ofNat j))) (.int ((sByt.getD i []).getD j 0))) := by decide +kernel
theorem st_k1 : ∀ i, i < 10 → stF[([10, 31, 38, 46, 55, 65, 76, 88, 101, 4] : List Nat).getD i 0]? = some (Cond.exactly (kTm i) "EchoCouncil$OrderKind") := by decide +kernel
theorem st_k20 : ∀ i, i < 10 → stF[([11, 32, 39, 47, 56, 66, 77, 89, 102, 5] : List Nat).getD i 0]? = some (Cond.eq (.field (kTm i) "java/lang/Enum" "ordinal" "I") (.int (([0, 1, 2, 3, 4, 5, 6, 7, 8, 9] : List Int32).getD i 0))) := by decide +kernel
theorem st_k21 : ∀ i, i < 10 → stF[([13, 34, 41, 49, 58, 68, 79, 91, 104, 7] : List Nat).getD i 0]? = some (Cond.eq (.field (kTm i) "EchoCouncil$OrderKind" "numbers" "I") (.int (([1, 2, 2, 2, 1, 2, 3, 2, 1, 0] : List Int32).getD i 0))) := by decide +kernel
theorem st_k22 : ∀ i, i < 10 → stF[([14, 35, 42, 50, 59, 69, 80, 92, 105, 8] : List Nat).getD i 0]? = some (Cond.eq (.field (kTm i) "EchoCouncil$OrderKind" "digitsOfLast" "I") (.int (([1, 1, 2, 1, 1, 1, 1, 1, 1, 0] : List Int32).getD i 0))) := by decide +kernel
theorem st_k3 : ∀ i, i < 10 → ∀ j, j < 10 → i ≠ j → (stF[((([[99999, 37, 44, 52, 61, 71, 82, 94, 107, 99999], [99999, 99999, 45, 53, 62, 72, 83, 95, 108, 99999], [99999, 99999, 99999, 54, 63, 73, 84, 96, 109, 99999], [99999, 99999, 99999, 99999, 64, 74, 85, 97, 110, 99999], [99999, 99999, 99999, 99999, 99999, 75, 86, 98, 111, 99999], [99999, 99999, 99999, 99999, 99999, 99999, 87, 99, 112, 99999], [99999, 99999, 99999, 99999, 99999, 99999, 99999, 100, 113, 99999], [99999, 99999, 99999, 99999, 99999, 99999, 99999, 99999, 114, 99999], [99999, 99999, 99999, 99999, 99999, 99999, 99999, 99999, 99999, 99999], [15, 36, 43, 51, 60, 70, 81, 93, 106, 99999]] : List (List Nat)).getD i []).getD j 0)]? = some (Cond.not (.eq (kTm i) (kTm j))) ∨ stF[((([[99999, 37, 44, 52, 61, 71, 82, 94, 107, 99999], [99999, 99999, 45, 53, 62, 72, 83, 95, 108, 99999], [99999, 99999, 99999, 54, 63, 73, 84, 96, 109, 99999], [99999, 99999, 99999, 99999, 64, 74, 85, 97, 110, 99999], [99999, 99999, 99999, 99999, 99999, 75, 86, 98, 111, 99999], [99999, 99999, 99999, 99999, 99999, 99999, 87, 99, 112, 99999], [99999, 99999, 99999, 99999, 99999, 99999, 99999, 100, 113, 99999], [99999, 99999, 99999, 99999, 99999, 99999, 99999, 99999, 114, 99999], [99999, 99999, 99999, 99999, 99999, 99999, 99999, 99999, 99999, 99999], [15, 36, 43, 51, 60, 70, 81, 93, 106, 99999]] : List (List Nat)).getD j []).getD i 0)]? = some (Cond.not (.eq (kTm j) (kTm i)))) := by decide +kernel
theorem st_k4 : ∀ i, i < 10 → stF[([12, 33, 40, 48, 57, 67, 78, 90, 103, 6] : List Nat).getD i 0]? = some (Cond.eq (.field (kTm i) "EchoCouncil$OrderKind" "word" "Ljava/lang/String;") (sTm i)) := by decide +kernel
theorem st_k5 : ∀ i, i < 10 → stF[([120, 121, 122, 123, 124, 125, 126, 127, 128, 129] : List Nat).getD i 0]? = some (Cond.eq (.elem kkT (.int (Int32.ofNat i))) (kTm i)) := by decide +kernel
theorem st_k6 : ∀ i, i < 10 → stF[([19, 20, 21, 22, 23, 24, 25, 26, 27, 28] : List Nat).getD i 0]? = some (Cond.eq (.elem swT (.int (Int32.ofNat i))) (.int (swI i))) := by decide +kernel
theorem st_d1 : ∀ i, i < 100 → stF[([137, 138, 139, 140, 141, 142, 143, 144, 145, 146, 147, 148, 149, 150, 151, 152, 153, 154, 155, 156, 157, 158, 159, 160, 161, 162, 163, 164, 165, 166, 167, 168, 169, 170, 171, 172, 173, 174, 175, 176, 177, 178, 179, 180, 181, 182, 183, 184, 185, 186, 187, 188, 189, 190, 191, 192, 193, 194, 195, 196, 197, 198, 199, 200, 201, 202, 203, 204, 205, 206, 207, 208, 209, 210, 211, 212, 213, 214, 215, 216, 217, 218, 219, 220, 221, 222, 223, 224, 225, 226, 227, 228, 229, 230, 231, 232, 233, 234, 235, 236] : List Nat).getD i 0]? = some (Cond.eq (.elem dgT1 (.int (Int32.ofNat i))) (.int (dgO i))) := by decide +kernel
theorem st_d2 : ∀ i, i < 100 → stF[([240, 241, 242, 243, 244, 245, 246, 247, 248, 249, 250, 251, 252, 253, 254, 255, 256, 257, 258, 259, 260, 261, 262, 263, 264, 265, 266, 267, 268, 269, 270, 271, 272, 273, 274, 275, 276, 277, 278, 279, 280, 281, 282, 283, 284, 285, 286, 287, 288, 289, 290, 291, 292, 293, 294, 295, 296, 297, 298, 299, 300, 301, 302, 303, 304, 305, 306, 307, 308, 309, 310, 311, 312, 313, 314, 315, 316, 317, 318, 319, 320, 321, 322, 323, 324, 325, 326, 327, 328, 329, 330, 331, 332, 333, 334, 335, 336, 337, 338, 339] : List Nat).getD i 0]? = some (Cond.eq (.elem dgT2 (.int (Int32.ofNat i))) (.int (dgT i))) := by decide +kernel
theorem st_n : ∀ i, i < 5 → stF[([371, 372, 390, 391, 387] : List Nat).getD i 0]? = some (Cond.not (.castable (sNc.getD i ("", "")).1 (sNc.getD i ("", "")).2)) := by decide +kernel
theorem st_g : ∀ i, i < 26 → stF[([492, 511, 536, 564, 589, 618, 645, 675, 700, 722, 745, 784, 812, 853, 893, 933, 954, 978, 1001, 1018, 1041, 1165, 1194, 1213, 1236, 1266] : List Nat).getD i 0]? = some (Cond.exactly (.string "EchoCouncil" (sMsg.getD i (0, "")).1) "java/lang/String") := by decide +kernel
theorem st_oa : stF[9]? = some (Cond.eq (.static "java/lang/String" "COMPACT_STRINGS" "Z") (.int 1)) := by decide +kernel
theorem st_ob : stF[130]? = some (Cond.isRef (.static "jdk/internal/util/Preconditions" "SIOOBE_FORMATTER" "Ljava/util/function/BiFunction;")) := by decide +kernel
theorem st_oc : stF[29]? = some (Cond.isRef (.static Bundle.tN "UNASSIGNED_STACK" Bundle.steD)) := by decide +kernel
theorem st_od : stF[30]? = some (Cond.isRef (.static Bundle.tN "SUPPRESSED_SENTINEL" Bundle.listD)) := by decide +kernel
theorem st_oe : stF[17]? = some (Cond.arrayOf swT .int) := by decide +kernel
theorem st_of : stF[18]? = some (Cond.eq (.length swT) (.int 10)) := by decide +kernel
theorem st_og : stF[117]? = some (Cond.arrayOf kkT (.object "EchoCouncil$OrderKind")) := by decide +kernel
theorem st_oh : stF[118]? = some (Cond.eq (.length kkT) (.int 10)) := by decide +kernel
theorem st_oi : stF[135]? = some (Cond.arrayOf dgT1 .byte) := by decide +kernel
theorem st_oj : stF[136]? = some (Cond.eq (.length dgT1) (.int 100)) := by decide +kernel
theorem st_ok : stF[238]? = some (Cond.arrayOf dgT2 .byte) := by decide +kernel
theorem st_ol : stF[239]? = some (Cond.eq (.length dgT2) (.int 100)) := by decide +kernel
theorem st_k7 : ∀ i, i < 10 → Cond.laysStatic "EchoCouncil$OrderKind" (eNm.getD i "") "LEchoCouncil$OrderKind;" ∈ lw_tbl := by
  intro i hi
  rcases (show i = 0 ∨ i = 1 ∨ i = 2 ∨ i = 3 ∨ i = 4 ∨ i = 5 ∨ i = 6 ∨ i = 7 ∨ i = 8 ∨ i = 9 by omega) with rfl | rfl | rfl | rfl | rfl | rfl | rfl | rfl | rfl | rfl
  · exact tw_441
  · exact tw_667
  · exact tw_676
  · exact tw_685
  · exact tw_694
  · exact tw_703
  · exact tw_712
  · exact tw_721
  · exact tw_730
  · exact tw_212
theorem st_g2 : ∀ i, i < 26 → Cond.stringRef "EchoCouncil" (sMsg.getD i (0, "")).1 (sMsg.getD i (0, "")).2 ∈ lw_tbl := by
  intro i hi
  rcases (show i = 0 ∨ i = 1 ∨ i = 2 ∨ i = 3 ∨ i = 4 ∨ i = 5 ∨ i = 6 ∨ i = 7 ∨ i = 8 ∨ i = 9 ∨ i = 10 ∨ i = 11 ∨ i = 12 ∨ i = 13 ∨ i = 14 ∨ i = 15 ∨ i = 16 ∨ i = 17 ∨ i = 18 ∨ i = 19 ∨ i = 20 ∨ i = 21 ∨ i = 22 ∨ i = 23 ∨ i = 24 ∨ i = 25 by omega) with rfl | rfl | rfl | rfl | rfl | rfl | rfl | rfl | rfl | rfl | rfl | rfl | rfl | rfl | rfl | rfl | rfl | rfl | rfl | rfl | rfl | rfl | rfl | rfl | rfl | rfl
  · exact tw_588
  · exact tw_776
  · exact tw_798
  · exact tw_816
  · exact tw_817
  · exact tw_829
  · exact tw_835
  · exact tw_857
  · exact tw_899
  · exact tw_921
  · exact tw_959
  · exact tw_967
  · exact tw_976
  · exact tw_992
  · exact tw_1001
  · exact tw_1011
  · exact tw_1107
  · exact tw_1116
  · exact tw_1124
  · exact tw_1125
  · exact tw_1126
  · exact tw_1407
  · exact tw_1442
  · exact tw_1473
  · exact tw_1481
  · exact tw_1493
theorem st_t : ∀ i, i < 6 → Cond.castable (sExc.getD i "") (sExc.getD i "") ∈ lw_tbl := by
  intro i hi
  rcases (show i = 0 ∨ i = 1 ∨ i = 2 ∨ i = 3 ∨ i = 4 ∨ i = 5 by omega) with rfl | rfl | rfl | rfl | rfl | rfl
  · exact tw_544
  · exact tw_769
  · exact tw_791
  · exact tw_850
  · exact tw_1004
  · exact tw_1458
theorem st_d : ∀ i, i < 3 → Cond.declares (Bundle.initS (sDec.getD i "")) ∈ lw_tbl := by
  intro i hi
  rcases (show i = 0 ∨ i = 1 ∨ i = 2 by omega) with rfl | rfl | rfl
  · exact tw_546
  · exact tw_548
  · exact tw_550
theorem st_c : ∀ i, i < 6 → Cond.methodLinkNest (cNest.getD i ("", 0, yX8_init)).1 (cNest.getD i ("", 0, yX8_init)).2.1 (cNest.getD i ("", 0, yX8_init)).2.2 "EchoCouncil" ∈ lw_tbl := by
  intro i hi
  rcases (show i = 0 ∨ i = 1 ∨ i = 2 ∨ i = 3 ∨ i = 4 ∨ i = 5 by omega) with rfl | rfl | rfl | rfl | rfl | rfl
  · exact tw_46
  · exact tw_52
  · exact tw_80
  · exact tw_117
  · exact tw_189
  · exact tw_244
theorem st_i : ∀ i, i < 13 → Cond.instantiable (vwCl.getD i (RX9, TX9, 8)).1 (vwCl.getD i (RX9, TX9, 8)).2.2 ∈ lw_tbl := by
  intro i hi
  rcases (show i = 0 ∨ i = 1 ∨ i = 2 ∨ i = 3 ∨ i = 4 ∨ i = 5 ∨ i = 6 ∨ i = 7 ∨ i = 8 ∨ i = 9 ∨ i = 10 ∨ i = 11 ∨ i = 12 by omega) with rfl | rfl | rfl | rfl | rfl | rfl | rfl | rfl | rfl | rfl | rfl | rfl | rfl
  · exact tw_753
  · exact tw_274
  · exact tw_735
  · exact tw_1142
  · exact tw_79
  · exact tw_202
  · exact tw_182
  · exact tw_243
  · exact tw_51
  · exact tw_116
  · exact tw_45
  · exact tw_37
  · exact tw_1499
