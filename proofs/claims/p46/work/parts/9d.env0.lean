/-! what the Statement gives of the start -/
def stC : Cond := Cond.and given_1 narrow_1
def stF : List Cond := flatC stC
def sTm (i : Nat) : Term := .string "EchoCouncilLaw" (lTxt.getD i (0, "")).1
def kTm (i : Nat) : Term := .static "EchoCouncil$OrderKind" (eNm.getD i "") "LEchoCouncil$OrderKind;"
def swT : Term := .static "EchoCouncil$1" "$SwitchMap$EchoCouncil$OrderKind" "[I"
def kkT : Term := .static "EchoCouncil" "KINDS" "[LEchoCouncil$OrderKind;"
def dgT1 : Term := .static "java/lang/Integer" "DigitOnes" "[B"
def dgT2 : Term := .static "java/lang/Integer" "DigitTens" "[B"
theorem st_m1 : ∀ i, i < 12 → stF[([1015, 1019, 993, 998, 1003, 1024, 1154, 1159, 1164, 1169, 1174, 1179] : List Nat).getD i 0]? = some (Cond.exactly (sTm i) "java/lang/String") := by decide +kernel
theorem st_m2 : ∀ i, i < 12 → stF[([1016, 1020, 994, 999, 1004, 1025, 1155, 1160, 1165, 1170, 1175, 1180] : List Nat).getD i 0]? = some (Cond.eq (.field (sTm i) "java/lang/String" "coder" "B") (.int 0)) := by decide +kernel
theorem st_m3 : ∀ i, i < 12 → stF[([1017, 1021, 995, 1000, 1005, 1026, 1156, 1161, 1166, 1171, 1176, 1181] : List Nat).getD i 0]? = some (Cond.arrayOf (.field (sTm i) "java/lang/String" "value" "[B") .byte) := by decide +kernel
theorem st_m4 : ∀ i, i < 12 → stF[([1018, 1022, 996, 1001, 1006, 1027, 1157, 1162, 1167, 1172, 1177, 1182] : List Nat).getD i 0]? = some (Cond.eq (.length (.field (sTm i) "java/lang/String" "value" "[B")) (.int (Int32.ofNat (sLet i).length))) := by decide +kernel
theorem st_m5 : ∀ i, i < 12 → ∀ j, j < (sLet i).length → stF[([99999, 1023, 997, 1002, 1007, 1028, 1158, 1163, 1168, 1173, 1178, 1183] : List Nat).getD i 0]? = some (Cond.eq (.elem (.field (sTm i) "java/lang/String" "value" "[B") (.int (Int32.ofNat j))) (.int (((sLet i).map nI).getD j 0))) := by decide +kernel
theorem st_k1 : ∀ i, i < 10 → stF[([12, 31, 38, 46, 55, 65, 76, 88, 101, 4] : List Nat).getD i 0]? = some (Cond.exactly (kTm i) "EchoCouncil$OrderKind") := by decide +kernel
theorem st_k20 : ∀ i, i < 10 → stF[([13, 32, 39, 47, 56, 66, 77, 89, 102, 5] : List Nat).getD i 0]? = some (Cond.eq (.field (kTm i) "java/lang/Enum" "ordinal" "I") (.int (([0, 1, 2, 3, 4, 5, 6, 7, 8, 9] : List Int32).getD i 0))) := by decide +kernel
theorem st_k21 : ∀ i, i < 10 → stF[([15, 34, 41, 49, 58, 68, 79, 91, 104, 7] : List Nat).getD i 0]? = some (Cond.eq (.field (kTm i) "EchoCouncil$OrderKind" "numbers" "I") (.int (([1, 2, 2, 2, 1, 2, 3, 2, 1, 0] : List Int32).getD i 0))) := by decide +kernel
theorem st_k22 : ∀ i, i < 10 → stF[([16, 35, 42, 50, 59, 69, 80, 92, 105, 8] : List Nat).getD i 0]? = some (Cond.eq (.field (kTm i) "EchoCouncil$OrderKind" "digitsOfLast" "I") (.int (([1, 1, 2, 1, 1, 1, 1, 1, 1, 0] : List Int32).getD i 0))) := by decide +kernel
theorem st_k3 : ∀ i, i < 10 → ∀ j, j < 10 → i ≠ j → (stF[((([[99999, 37, 44, 52, 61, 71, 82, 94, 107, 99999], [99999, 99999, 45, 53, 62, 72, 83, 95, 108, 99999], [99999, 99999, 99999, 54, 63, 73, 84, 96, 109, 99999], [99999, 99999, 99999, 99999, 64, 74, 85, 97, 110, 99999], [99999, 99999, 99999, 99999, 99999, 75, 86, 98, 111, 99999], [99999, 99999, 99999, 99999, 99999, 99999, 87, 99, 112, 99999], [99999, 99999, 99999, 99999, 99999, 99999, 99999, 100, 113, 99999], [99999, 99999, 99999, 99999, 99999, 99999, 99999, 99999, 114, 99999], [99999, 99999, 99999, 99999, 99999, 99999, 99999, 99999, 99999, 99999], [17, 36, 43, 51, 60, 70, 81, 93, 106, 99999]] : List (List Nat)).getD i []).getD j 0)]? = some (Cond.not (.eq (kTm i) (kTm j))) ∨ stF[((([[99999, 37, 44, 52, 61, 71, 82, 94, 107, 99999], [99999, 99999, 45, 53, 62, 72, 83, 95, 108, 99999], [99999, 99999, 99999, 54, 63, 73, 84, 96, 109, 99999], [99999, 99999, 99999, 99999, 64, 74, 85, 97, 110, 99999], [99999, 99999, 99999, 99999, 99999, 75, 86, 98, 111, 99999], [99999, 99999, 99999, 99999, 99999, 99999, 87, 99, 112, 99999], [99999, 99999, 99999, 99999, 99999, 99999, 99999, 100, 113, 99999], [99999, 99999, 99999, 99999, 99999, 99999, 99999, 99999, 114, 99999], [99999, 99999, 99999, 99999, 99999, 99999, 99999, 99999, 99999, 99999], [17, 36, 43, 51, 60, 70, 81, 93, 106, 99999]] : List (List Nat)).getD j []).getD i 0)]? = some (Cond.not (.eq (kTm j) (kTm i)))) := by decide +kernel
theorem st_k5 : ∀ i, i < 10 → stF[([120, 121, 122, 123, 124, 125, 126, 127, 128, 129] : List Nat).getD i 0]? = some (Cond.eq (.elem kkT (.int (Int32.ofNat i))) (kTm i)) := by decide +kernel
theorem st_k6 : ∀ i, i < 10 → stF[([21, 22, 23, 24, 25, 26, 27, 28, 29, 30] : List Nat).getD i 0]? = some (Cond.eq (.elem swT (.int (Int32.ofNat i))) (.int (swI i))) := by decide +kernel
theorem st_d1 : ∀ i, i < 100 → stF[([137, 138, 139, 140, 141, 142, 143, 144, 145, 146, 147, 148, 149, 150, 151, 152, 153, 154, 155, 156, 157, 158, 159, 160, 161, 162, 163, 164, 165, 166, 167, 168, 169, 170, 171, 172, 173, 174, 175, 176, 177, 178, 179, 180, 181, 182, 183, 184, 185, 186, 187, 188, 189, 190, 191, 192, 193, 194, 195, 196, 197, 198, 199, 200, 201, 202, 203, 204, 205, 206, 207, 208, 209, 210, 211, 212, 213, 214, 215, 216, 217, 218, 219, 220, 221, 222, 223, 224, 225, 226, 227, 228, 229, 230, 231, 232, 233, 234, 235, 236] : List Nat).getD i 0]? = some (Cond.eq (.elem dgT1 (.int (Int32.ofNat i))) (.int (dgO i))) := by decide +kernel
theorem st_d2 : ∀ i, i < 100 → stF[([240, 241, 242, 243, 244, 245, 246, 247, 248, 249, 250, 251, 252, 253, 254, 255, 256, 257, 258, 259, 260, 261, 262, 263, 264, 265, 266, 267, 268, 269, 270, 271, 272, 273, 274, 275, 276, 277, 278, 279, 280, 281, 282, 283, 284, 285, 286, 287, 288, 289, 290, 291, 292, 293, 294, 295, 296, 297, 298, 299, 300, 301, 302, 303, 304, 305, 306, 307, 308, 309, 310, 311, 312, 313, 314, 315, 316, 317, 318, 319, 320, 321, 322, 323, 324, 325, 326, 327, 328, 329, 330, 331, 332, 333, 334, 335, 336, 337, 338, 339] : List Nat).getD i 0]? = some (Cond.eq (.elem dgT2 (.int (Int32.ofNat i))) (.int (dgT i))) := by decide +kernel
theorem st_n : ∀ i, i < 4 → stF[([351, 352, 368, 365] : List Nat).getD i 0]? = some (Cond.not (.castable (sNc.getD i ("", "")).1 (sNc.getD i ("", "")).2)) := by decide +kernel
theorem st_g : ∀ i, i < 22 → stF[([904, 461, 486, 514, 539, 568, 595, 625, 650, 672, 695, 734, 762, 803, 923, 947, 843, 860, 883, 1125, 442, 970] : List Nat).getD i 0]? = some (Cond.exactly (.string "EchoCouncil" (sMsg.getD i (0, "")).1) "java/lang/String") := by decide +kernel
theorem st_oa : stF[9]? = some (Cond.eq (.static "java/lang/String" "COMPACT_STRINGS" "Z") (.int 1)) := by decide +kernel
theorem st_ob : stF[130]? = some (Cond.isRef (.static "jdk/internal/util/Preconditions" "SIOOBE_FORMATTER" "Ljava/util/function/BiFunction;")) := by decide +kernel
theorem st_oc : stF[10]? = some (Cond.isRef (.static Bundle.tN "UNASSIGNED_STACK" Bundle.steD)) := by decide +kernel
theorem st_od : stF[11]? = some (Cond.isRef (.static Bundle.tN "SUPPRESSED_SENTINEL" Bundle.listD)) := by decide +kernel
theorem st_oe : stF[19]? = some (Cond.arrayOf swT .int) := by decide +kernel
theorem st_of : stF[20]? = some (Cond.eq (.length swT) (.int 10)) := by decide +kernel
theorem st_og : stF[117]? = some (Cond.arrayOf kkT (.object "EchoCouncil$OrderKind")) := by decide +kernel
theorem st_oh : stF[118]? = some (Cond.eq (.length kkT) (.int 10)) := by decide +kernel
theorem st_oi : stF[135]? = some (Cond.arrayOf dgT1 .byte) := by decide +kernel
theorem st_oj : stF[136]? = some (Cond.eq (.length dgT1) (.int 100)) := by decide +kernel
theorem st_ok : stF[238]? = some (Cond.arrayOf dgT2 .byte) := by decide +kernel
theorem st_ol : stF[239]? = some (Cond.eq (.length dgT2) (.int 100)) := by decide +kernel
theorem st_k7 : ∀ i, i < 10 → Cond.laysStatic "EchoCouncil$OrderKind" (eNm.getD i "") "LEchoCouncil$OrderKind;" ∈ lw_tbl := by
  intro i hi
  rcases (show i = 0 ∨ i = 1 ∨ i = 2 ∨ i = 3 ∨ i = 4 ∨ i = 5 ∨ i = 6 ∨ i = 7 ∨ i = 8 ∨ i = 9 by omega) with rfl | rfl | rfl | rfl | rfl | rfl | rfl | rfl | rfl | rfl
  · exact tw_684
  · exact tw_855
  · exact tw_861
  · exact tw_867
  · exact tw_873
  · exact tw_879
  · exact tw_885
  · exact tw_891
  · exact tw_897
  · exact tw_210
theorem st_g2 : ∀ i, i < 22 → Cond.stringRef "EchoCouncil" (sMsg.getD i (0, "")).1 (sMsg.getD i (0, "")).2 ∈ lw_tbl := by
  intro i hi
  rcases (show i = 0 ∨ i = 1 ∨ i = 2 ∨ i = 3 ∨ i = 4 ∨ i = 5 ∨ i = 6 ∨ i = 7 ∨ i = 8 ∨ i = 9 ∨ i = 10 ∨ i = 11 ∨ i = 12 ∨ i = 13 ∨ i = 14 ∨ i = 15 ∨ i = 16 ∨ i = 17 ∨ i = 18 ∨ i = 19 ∨ i = 20 ∨ i = 21 by omega) with rfl | rfl | rfl | rfl | rfl | rfl | rfl | rfl | rfl | rfl | rfl | rfl | rfl | rfl | rfl | rfl | rfl | rfl | rfl | rfl | rfl | rfl
  · exact tw_768
  · exact tw_483
  · exact tw_509
  · exact tw_522
  · exact tw_523
  · exact tw_536
  · exact tw_539
  · exact tw_561
  · exact tw_606
  · exact tw_612
  · exact tw_626
  · exact tw_631
  · exact tw_640
  · exact tw_653
  · exact tw_988
  · exact tw_998
  · exact tw_658
  · exact tw_659
  · exact tw_660
  · exact tw_1379
  · exact tw_404
  · exact tw_1094
theorem st_l2 : ∀ i, i < 12 → Cond.stringRef RL (lTxt.getD i (0, "")).1 (lTxt.getD i (0, "")).2 ∈ lw_tbl := by
  intro i hi
  rcases (show i = 0 ∨ i = 1 ∨ i = 2 ∨ i = 3 ∨ i = 4 ∨ i = 5 ∨ i = 6 ∨ i = 7 ∨ i = 8 ∨ i = 9 ∨ i = 10 ∨ i = 11 by omega) with rfl | rfl | rfl | rfl | rfl | rfl | rfl | rfl | rfl | rfl | rfl | rfl
  · exact tw_1289
  · exact tw_1290
  · exact tw_1177
  · exact tw_1227
  · exact tw_1228
  · exact tw_1291
  · exact tw_1391
  · exact tw_1392
  · exact tw_1397
  · exact tw_1398
  · exact tw_1403
  · exact tw_1404
theorem st_t : ∀ i, i < 5 → Cond.castable (sExc.getD i "") (sExc.getD i "") ∈ lw_tbl := by
  intro i hi
  rcases (show i = 0 ∨ i = 1 ∨ i = 2 ∨ i = 3 ∨ i = 4 by omega) with rfl | rfl | rfl | rfl | rfl
  · exact tw_761
  · exact tw_476
  · exact tw_361
  · exact tw_554
  · exact tw_1063
theorem st_d : ∀ i, i < 3 → Cond.declares (Bundle.initS (sDec.getD i "")) ∈ lw_tbl := by
  intro i hi
  rcases (show i = 0 ∨ i = 1 ∨ i = 2 by omega) with rfl | rfl | rfl
  · exact tw_363
  · exact tw_365
  · exact tw_367
theorem st_c : ∀ i, i < 6 → Cond.methodLinkNest (cNest.getD i ("", 0, yX8_init)).1 (cNest.getD i ("", 0, yX8_init)).2.1 (cNest.getD i ("", 0, yX8_init)).2.2 "EchoCouncil" ∈ lw_tbl := by
  intro i hi
  rcases (show i = 0 ∨ i = 1 ∨ i = 2 ∨ i = 3 ∨ i = 4 ∨ i = 5 by omega) with rfl | rfl | rfl | rfl | rfl | rfl
  · exact tw_44
  · exact tw_50
  · exact tw_78
  · exact tw_115
  · exact tw_187
  · exact tw_241
theorem st_i : ∀ i, i < 12 → Cond.instantiable (vwCl.getD i (RX9, TX9, 8)).1 (vwCl.getD i (RX9, TX9, 8)).2.2 ∈ lw_tbl := by
  intro i hi
  rcases (show i = 0 ∨ i = 1 ∨ i = 2 ∨ i = 3 ∨ i = 4 ∨ i = 5 ∨ i = 6 ∨ i = 7 ∨ i = 8 ∨ i = 9 ∨ i = 10 ∨ i = 11 by omega) with rfl | rfl | rfl | rfl | rfl | rfl | rfl | rfl | rfl | rfl | rfl | rfl
  · exact tw_452
  · exact tw_271
  · exact tw_434
  · exact tw_1304
  · exact tw_77
  · exact tw_200
  · exact tw_180
  · exact tw_240
  · exact tw_49
  · exact tw_114
  · exact tw_43
  · exact tw_35
