theorem dX3_readsSign_0 : decode cX3_readsSign 0 = .ok (.aload_n 0, 1) := by decide +kernel
theorem dX3_readsSign_1 : decode cX3_readsSign 1 = .ok (.getfield 34, 3) := by decide +kernel
theorem dX3_readsSign_4 : decode cX3_readsSign 4 = .ok (.aload_n 0, 1) := by decide +kernel
theorem dX3_readsSign_5 : decode cX3_readsSign 5 = .ok (.getfield 44, 3) := by decide +kernel
theorem dX3_readsSign_8 : decode cX3_readsSign 8 = .ok (.if_icmp .ge 16, 3) := by decide +kernel
theorem dX3_readsSign_11 : decode cX3_readsSign 11 = .ok (.aload_n 0, 1) := by decide +kernel
theorem dX3_readsSign_12 : decode cX3_readsSign 12 = .ok (.getfield 9, 3) := by decide +kernel
theorem dX3_readsSign_15 : decode cX3_readsSign 15 = .ok (.aload_n 0, 1) := by decide +kernel
theorem dX3_readsSign_16 : decode cX3_readsSign 16 = .ok (.getfield 34, 3) := by decide +kernel
theorem dX3_readsSign_19 : decode cX3_readsSign 19 = .ok (.caload, 1) := by decide +kernel
theorem dX3_readsSign_20 : decode cX3_readsSign 20 = .ok (.iload_n 1, 1) := by decide +kernel
theorem dX3_readsSign_21 : decode cX3_readsSign 21 = .ok (.if_icmp .eq 5, 3) := by decide +kernel
theorem dX3_readsSign_24 : decode cX3_readsSign 24 = .ok (.iconst 0, 1) := by decide +kernel
theorem dX3_readsSign_25 : decode cX3_readsSign 25 = .ok (.ireturn, 1) := by decide +kernel
theorem dX3_readsSign_26 : decode cX3_readsSign 26 = .ok (.aload_n 0, 1) := by decide +kernel
theorem dX3_readsSign_27 : decode cX3_readsSign 27 = .ok (.dup, 1) := by decide +kernel
theorem dX3_readsSign_28 : decode cX3_readsSign 28 = .ok (.getfield 34, 3) := by decide +kernel
theorem dX3_readsSign_31 : decode cX3_readsSign 31 = .ok (.iconst 1, 1) := by decide +kernel
theorem dX3_readsSign_32 : decode cX3_readsSign 32 = .ok (.iadd, 1) := by decide +kernel
theorem dX3_readsSign_33 : decode cX3_readsSign 33 = .ok (.putfield 34, 3) := by decide +kernel
theorem dX3_readsSign_36 : decode cX3_readsSign 36 = .ok (.iconst 1, 1) := by decide +kernel
theorem dX3_readsSign_37 : decode cX3_readsSign 37 = .ok (.ireturn, 1) := by decide +kernel
theorem vm_X3_readsSign : aVm yX3_readsSign RX3 cX3_readsSign 2 (some .boolean) 1 := ⟨tw_1093, tw_1091, tw_1092, tw_7, rfl, by decide +kernel, by decide +kernel, by decide +kernel⟩
theorem dX3_isAtDigit_0 : decode cX3_isAtDigit 0 = .ok (.aload_n 0, 1) := by decide +kernel
theorem dX3_isAtDigit_1 : decode cX3_isAtDigit 1 = .ok (.getfield 34, 3) := by decide +kernel
theorem dX3_isAtDigit_4 : decode cX3_isAtDigit 4 = .ok (.aload_n 0, 1) := by decide +kernel
theorem dX3_isAtDigit_5 : decode cX3_isAtDigit 5 = .ok (.getfield 44, 3) := by decide +kernel
theorem dX3_isAtDigit_8 : decode cX3_isAtDigit 8 = .ok (.if_icmp .ge 35, 3) := by decide +kernel
theorem dX3_isAtDigit_11 : decode cX3_isAtDigit 11 = .ok (.aload_n 0, 1) := by decide +kernel
theorem dX3_isAtDigit_12 : decode cX3_isAtDigit 12 = .ok (.getfield 9, 3) := by decide +kernel
theorem dX3_isAtDigit_15 : decode cX3_isAtDigit 15 = .ok (.aload_n 0, 1) := by decide +kernel
theorem dX3_isAtDigit_16 : decode cX3_isAtDigit 16 = .ok (.getfield 34, 3) := by decide +kernel
theorem dX3_isAtDigit_19 : decode cX3_isAtDigit 19 = .ok (.caload, 1) := by decide +kernel
theorem dX3_isAtDigit_20 : decode cX3_isAtDigit 20 = .ok (.bipush 48, 2) := by decide +kernel
theorem dX3_isAtDigit_22 : decode cX3_isAtDigit 22 = .ok (.if_icmp .lt 21, 3) := by decide +kernel
theorem dX3_isAtDigit_25 : decode cX3_isAtDigit 25 = .ok (.aload_n 0, 1) := by decide +kernel
theorem dX3_isAtDigit_26 : decode cX3_isAtDigit 26 = .ok (.getfield 9, 3) := by decide +kernel
theorem dX3_isAtDigit_29 : decode cX3_isAtDigit 29 = .ok (.aload_n 0, 1) := by decide +kernel
theorem dX3_isAtDigit_30 : decode cX3_isAtDigit 30 = .ok (.getfield 34, 3) := by decide +kernel
theorem dX3_isAtDigit_33 : decode cX3_isAtDigit 33 = .ok (.caload, 1) := by decide +kernel
theorem dX3_isAtDigit_34 : decode cX3_isAtDigit 34 = .ok (.bipush 57, 2) := by decide +kernel
theorem dX3_isAtDigit_36 : decode cX3_isAtDigit 36 = .ok (.if_icmp .gt 7, 3) := by decide +kernel
theorem dX3_isAtDigit_39 : decode cX3_isAtDigit 39 = .ok (.iconst 1, 1) := by decide +kernel
theorem dX3_isAtDigit_40 : decode cX3_isAtDigit 40 = .ok (.goto 4, 3) := by decide +kernel
theorem dX3_isAtDigit_43 : decode cX3_isAtDigit 43 = .ok (.iconst 0, 1) := by decide +kernel
theorem dX3_isAtDigit_44 : decode cX3_isAtDigit 44 = .ok (.ireturn, 1) := by decide +kernel
theorem vm_X3_isAtDigit : aVm yX3_isAtDigit RX3 cX3_isAtDigit 1 (some .boolean) 0 := ⟨tw_1097, tw_1095, tw_1096, tw_7, rfl, by decide +kernel, by decide +kernel, by decide +kernel⟩
theorem dX3_readDigit_0 : decode cX3_readDigit 0 = .ok (.aload_n 0, 1) := by decide +kernel
theorem dX3_readDigit_1 : decode cX3_readDigit 1 = .ok (.getfield 9, 3) := by decide +kernel
theorem dX3_readDigit_4 : decode cX3_readDigit 4 = .ok (.aload_n 0, 1) := by decide +kernel
theorem dX3_readDigit_5 : decode cX3_readDigit 5 = .ok (.getfield 34, 3) := by decide +kernel
theorem dX3_readDigit_8 : decode cX3_readDigit 8 = .ok (.caload, 1) := by decide +kernel
theorem dX3_readDigit_9 : decode cX3_readDigit 9 = .ok (.bipush 48, 2) := by decide +kernel
theorem dX3_readDigit_11 : decode cX3_readDigit 11 = .ok (.isub, 1) := by decide +kernel
theorem dX3_readDigit_12 : decode cX3_readDigit 12 = .ok (.istore_n 1, 1) := by decide +kernel
theorem dX3_readDigit_13 : decode cX3_readDigit 13 = .ok (.aload_n 0, 1) := by decide +kernel
theorem dX3_readDigit_14 : decode cX3_readDigit 14 = .ok (.dup, 1) := by decide +kernel
theorem dX3_readDigit_15 : decode cX3_readDigit 15 = .ok (.getfield 34, 3) := by decide +kernel
theorem dX3_readDigit_18 : decode cX3_readDigit 18 = .ok (.iconst 1, 1) := by decide +kernel
theorem dX3_readDigit_19 : decode cX3_readDigit 19 = .ok (.iadd, 1) := by decide +kernel
theorem dX3_readDigit_20 : decode cX3_readDigit 20 = .ok (.putfield 34, 3) := by decide +kernel
theorem dX3_readDigit_23 : decode cX3_readDigit 23 = .ok (.iload_n 1, 1) := by decide +kernel
theorem dX3_readDigit_24 : decode cX3_readDigit 24 = .ok (.ireturn, 1) := by decide +kernel
theorem vm_X3_readDigit : aVm yX3_readDigit RX3 cX3_readDigit 2 (some .int) 0 := ⟨tw_1101, tw_1099, tw_1100, tw_7, rfl, by decide +kernel, by decide +kernel, by decide +kernel⟩
theorem dX3_countSame_0 : decode cX3_countSame 0 = .ok (.iconst 0, 1) := by decide +kernel
theorem dX3_countSame_1 : decode cX3_countSame 1 = .ok (.istore_n 2, 1) := by decide +kernel
theorem dX3_countSame_2 : decode cX3_countSame 2 = .ok (.iload_n 2, 1) := by decide +kernel
theorem dX3_countSame_3 : decode cX3_countSame 3 = .ok (.aload_n 1, 1) := by decide +kernel
theorem dX3_countSame_4 : decode cX3_countSame 4 = .ok (.invokevirtual 62, 3) := by decide +kernel
theorem dX3_countSame_7 : decode cX3_countSame 7 = .ok (.if_icmp .ge 41, 3) := by decide +kernel
theorem dX3_countSame_10 : decode cX3_countSame 10 = .ok (.aload_n 0, 1) := by decide +kernel
theorem dX3_countSame_11 : decode cX3_countSame 11 = .ok (.getfield 34, 3) := by decide +kernel
theorem dX3_countSame_14 : decode cX3_countSame 14 = .ok (.iload_n 2, 1) := by decide +kernel
theorem dX3_countSame_15 : decode cX3_countSame 15 = .ok (.iadd, 1) := by decide +kernel
theorem dX3_countSame_16 : decode cX3_countSame 16 = .ok (.aload_n 0, 1) := by decide +kernel
theorem dX3_countSame_17 : decode cX3_countSame 17 = .ok (.getfield 44, 3) := by decide +kernel
theorem dX3_countSame_20 : decode cX3_countSame 20 = .ok (.if_icmp .ge 28, 3) := by decide +kernel
theorem dX3_countSame_23 : decode cX3_countSame 23 = .ok (.aload_n 0, 1) := by decide +kernel
theorem dX3_countSame_24 : decode cX3_countSame 24 = .ok (.getfield 9, 3) := by decide +kernel
theorem dX3_countSame_27 : decode cX3_countSame 27 = .ok (.aload_n 0, 1) := by decide +kernel
theorem dX3_countSame_28 : decode cX3_countSame 28 = .ok (.getfield 34, 3) := by decide +kernel
theorem dX3_countSame_31 : decode cX3_countSame 31 = .ok (.iload_n 2, 1) := by decide +kernel
theorem dX3_countSame_32 : decode cX3_countSame 32 = .ok (.iadd, 1) := by decide +kernel
theorem dX3_countSame_33 : decode cX3_countSame 33 = .ok (.caload, 1) := by decide +kernel
theorem dX3_countSame_34 : decode cX3_countSame 34 = .ok (.aload_n 1, 1) := by decide +kernel
theorem dX3_countSame_35 : decode cX3_countSame 35 = .ok (.iload_n 2, 1) := by decide +kernel
theorem dX3_countSame_36 : decode cX3_countSame 36 = .ok (.invokevirtual 80, 3) := by decide +kernel
theorem dX3_countSame_39 : decode cX3_countSame 39 = .ok (.if_icmp .ne 9, 3) := by decide +kernel
theorem dX3_countSame_42 : decode cX3_countSame 42 = .ok (.iinc 2 1, 3) := by decide +kernel
theorem dX3_countSame_45 : decode cX3_countSame 45 = .ok (.goto (-43), 3) := by decide +kernel
theorem dX3_countSame_48 : decode cX3_countSame 48 = .ok (.iload_n 2, 1) := by decide +kernel
theorem dX3_countSame_49 : decode cX3_countSame 49 = .ok (.ireturn, 1) := by decide +kernel
theorem vm_X3_countSame : aVm yX3_countSame RX3 cX3_countSame 3 (some .int) 1 := ⟨tw_1038, tw_1036, tw_1037, tw_7, rfl, by decide +kernel, by decide +kernel, by decide +kernel⟩
theorem dX3_longestStart_0 : decode cX3_longestStart 0 = .ok (.iconst 0, 1) := by decide +kernel
theorem dX3_longestStart_1 : decode cX3_longestStart 1 = .ok (.istore_n 1, 1) := by decide +kernel
theorem dX3_longestStart_2 : decode cX3_longestStart 2 = .ok (.iconst 0, 1) := by decide +kernel
theorem dX3_longestStart_3 : decode cX3_longestStart 3 = .ok (.istore_n 2, 1) := by decide +kernel
theorem dX3_longestStart_4 : decode cX3_longestStart 4 = .ok (.iload_n 2, 1) := by decide +kernel
theorem dX3_longestStart_5 : decode cX3_longestStart 5 = .ok (.getstatic 51, 3) := by decide +kernel
theorem dX3_longestStart_8 : decode cX3_longestStart 8 = .ok (.arraylength, 1) := by decide +kernel
theorem dX3_longestStart_9 : decode cX3_longestStart 9 = .ok (.if_icmp .ge 26, 3) := by decide +kernel
theorem dX3_longestStart_12 : decode cX3_longestStart 12 = .ok (.iload_n 1, 1) := by decide +kernel
theorem dX3_longestStart_13 : decode cX3_longestStart 13 = .ok (.aload_n 0, 1) := by decide +kernel
theorem dX3_longestStart_14 : decode cX3_longestStart 14 = .ok (.getstatic 51, 3) := by decide +kernel
theorem dX3_longestStart_17 : decode cX3_longestStart 17 = .ok (.iload_n 2, 1) := by decide +kernel
theorem dX3_longestStart_18 : decode cX3_longestStart 18 = .ok (.aaload, 1) := by decide +kernel
theorem dX3_longestStart_19 : decode cX3_longestStart 19 = .ok (.getfield 54, 3) := by decide +kernel
theorem dX3_longestStart_22 : decode cX3_longestStart 22 = .ok (.invokevirtual 58, 3) := by decide +kernel
theorem dX3_longestStart_25 : decode cX3_longestStart 25 = .ok (.invokestatic 74, 3) := by decide +kernel
theorem dX3_longestStart_28 : decode cX3_longestStart 28 = .ok (.istore_n 1, 1) := by decide +kernel
theorem dX3_longestStart_29 : decode cX3_longestStart 29 = .ok (.iinc 2 1, 3) := by decide +kernel
theorem dX3_longestStart_32 : decode cX3_longestStart 32 = .ok (.goto (-28), 3) := by decide +kernel
theorem dX3_longestStart_35 : decode cX3_longestStart 35 = .ok (.iload_n 1, 1) := by decide +kernel
theorem dX3_longestStart_36 : decode cX3_longestStart 36 = .ok (.ireturn, 1) := by decide +kernel
theorem vm_X3_longestStart : aVm yX3_longestStart RX3 cX3_longestStart 3 (some .int) 0 := ⟨tw_1105, tw_1103, tw_1104, tw_7, rfl, by decide +kernel, by decide +kernel, by decide +kernel⟩
theorem dX3_readsNumbers_0 : decode cX3_readsNumbers 0 = .ok (.iconst 0, 1) := by decide +kernel
theorem dX3_readsNumbers_1 : decode cX3_readsNumbers 1 = .ok (.istore_n 3, 1) := by decide +kernel
theorem dX3_readsNumbers_2 : decode cX3_readsNumbers 2 = .ok (.iload_n 3, 1) := by decide +kernel
theorem dX3_readsNumbers_3 : decode cX3_readsNumbers 3 = .ok (.aload_n 1, 1) := by decide +kernel
theorem dX3_readsNumbers_4 : decode cX3_readsNumbers 4 = .ok (.getfield 84, 3) := by decide +kernel
theorem dX3_readsNumbers_7 : decode cX3_readsNumbers 7 = .ok (.if_icmp .ge 85, 3) := by decide +kernel
theorem dX3_readsNumbers_10 : decode cX3_readsNumbers 10 = .ok (.iload_n 3, 1) := by decide +kernel
theorem dX3_readsNumbers_11 : decode cX3_readsNumbers 11 = .ok (.aload_n 2, 1) := by decide +kernel
theorem dX3_readsNumbers_12 : decode cX3_readsNumbers 12 = .ok (.arraylength, 1) := by decide +kernel
theorem dX3_readsNumbers_13 : decode cX3_readsNumbers 13 = .ok (.if_icmp .ge 79, 3) := by decide +kernel
theorem dX3_readsNumbers_16 : decode cX3_readsNumbers 16 = .ok (.iload_n 3, 1) := by decide +kernel
theorem dX3_readsNumbers_17 : decode cX3_readsNumbers 17 = .ok (.ifCond .le 14, 3) := by decide +kernel
theorem dX3_readsNumbers_20 : decode cX3_readsNumbers 20 = .ok (.aload_n 0, 1) := by decide +kernel
theorem dX3_readsNumbers_21 : decode cX3_readsNumbers 21 = .ok (.bipush 32, 2) := by decide +kernel
theorem dX3_readsNumbers_23 : decode cX3_readsNumbers 23 = .ok (.invokevirtual 47, 3) := by decide +kernel
theorem dX3_readsNumbers_26 : decode cX3_readsNumbers 26 = .ok (.ifCond .ne 5, 3) := by decide +kernel
theorem dX3_readsNumbers_29 : decode cX3_readsNumbers 29 = .ok (.iconst 0, 1) := by decide +kernel
theorem dX3_readsNumbers_30 : decode cX3_readsNumbers 30 = .ok (.ireturn, 1) := by decide +kernel
theorem dX3_readsNumbers_31 : decode cX3_readsNumbers 31 = .ok (.aload_n 0, 1) := by decide +kernel
theorem dX3_readsNumbers_32 : decode cX3_readsNumbers 32 = .ok (.invokevirtual 86, 3) := by decide +kernel
theorem dX3_readsNumbers_35 : decode cX3_readsNumbers 35 = .ok (.ifCond .ne 5, 3) := by decide +kernel
theorem dX3_readsNumbers_38 : decode cX3_readsNumbers 38 = .ok (.iconst 0, 1) := by decide +kernel
theorem dX3_readsNumbers_39 : decode cX3_readsNumbers 39 = .ok (.ireturn, 1) := by decide +kernel
theorem dX3_readsNumbers_40 : decode cX3_readsNumbers 40 = .ok (.aload_n 2, 1) := by decide +kernel
theorem dX3_readsNumbers_41 : decode cX3_readsNumbers 41 = .ok (.iload_n 3, 1) := by decide +kernel
theorem dX3_readsNumbers_42 : decode cX3_readsNumbers 42 = .ok (.aload_n 0, 1) := by decide +kernel
theorem dX3_readsNumbers_43 : decode cX3_readsNumbers 43 = .ok (.invokevirtual 90, 3) := by decide +kernel
theorem dX3_readsNumbers_46 : decode cX3_readsNumbers 46 = .ok (.iastore, 1) := by decide +kernel
theorem dX3_readsNumbers_47 : decode cX3_readsNumbers 47 = .ok (.iload_n 3, 1) := by decide +kernel
theorem dX3_readsNumbers_48 : decode cX3_readsNumbers 48 = .ok (.aload_n 1, 1) := by decide +kernel
theorem dX3_readsNumbers_49 : decode cX3_readsNumbers 49 = .ok (.getfield 84, 3) := by decide +kernel
theorem dX3_readsNumbers_52 : decode cX3_readsNumbers 52 = .ok (.iconst 1, 1) := by decide +kernel
theorem dX3_readsNumbers_53 : decode cX3_readsNumbers 53 = .ok (.isub, 1) := by decide +kernel
theorem dX3_readsNumbers_54 : decode cX3_readsNumbers 54 = .ok (.if_icmp .ne 32, 3) := by decide +kernel
theorem dX3_readsNumbers_57 : decode cX3_readsNumbers 57 = .ok (.aload_n 1, 1) := by decide +kernel
theorem dX3_readsNumbers_58 : decode cX3_readsNumbers 58 = .ok (.getfield 93, 3) := by decide +kernel
theorem dX3_readsNumbers_61 : decode cX3_readsNumbers 61 = .ok (.iconst 2, 1) := by decide +kernel
theorem dX3_readsNumbers_62 : decode cX3_readsNumbers 62 = .ok (.if_icmp .ne 24, 3) := by decide +kernel
theorem dX3_readsNumbers_65 : decode cX3_readsNumbers 65 = .ok (.aload_n 0, 1) := by decide +kernel
theorem dX3_readsNumbers_66 : decode cX3_readsNumbers 66 = .ok (.invokevirtual 86, 3) := by decide +kernel
theorem dX3_readsNumbers_69 : decode cX3_readsNumbers 69 = .ok (.ifCond .eq 17, 3) := by decide +kernel
theorem dX3_readsNumbers_72 : decode cX3_readsNumbers 72 = .ok (.aload_n 2, 1) := by decide +kernel
theorem dX3_readsNumbers_73 : decode cX3_readsNumbers 73 = .ok (.iload_n 3, 1) := by decide +kernel
theorem dX3_readsNumbers_74 : decode cX3_readsNumbers 74 = .ok (.bipush 10, 2) := by decide +kernel
theorem dX3_readsNumbers_76 : decode cX3_readsNumbers 76 = .ok (.aload_n 2, 1) := by decide +kernel
theorem dX3_readsNumbers_77 : decode cX3_readsNumbers 77 = .ok (.iload_n 3, 1) := by decide +kernel
theorem dX3_readsNumbers_78 : decode cX3_readsNumbers 78 = .ok (.iaload, 1) := by decide +kernel
theorem dX3_readsNumbers_79 : decode cX3_readsNumbers 79 = .ok (.imul, 1) := by decide +kernel
theorem dX3_readsNumbers_80 : decode cX3_readsNumbers 80 = .ok (.aload_n 0, 1) := by decide +kernel
theorem dX3_readsNumbers_81 : decode cX3_readsNumbers 81 = .ok (.invokevirtual 90, 3) := by decide +kernel
theorem dX3_readsNumbers_84 : decode cX3_readsNumbers 84 = .ok (.iadd, 1) := by decide +kernel
theorem dX3_readsNumbers_85 : decode cX3_readsNumbers 85 = .ok (.iastore, 1) := by decide +kernel
theorem dX3_readsNumbers_86 : decode cX3_readsNumbers 86 = .ok (.iinc 3 1, 3) := by decide +kernel
theorem dX3_readsNumbers_89 : decode cX3_readsNumbers 89 = .ok (.goto (-87), 3) := by decide +kernel
theorem dX3_readsNumbers_92 : decode cX3_readsNumbers 92 = .ok (.iconst 1, 1) := by decide +kernel
theorem dX3_readsNumbers_93 : decode cX3_readsNumbers 93 = .ok (.ireturn, 1) := by decide +kernel
theorem vm_X3_readsNumbers : aVm yX3_readsNumbers RX3 cX3_readsNumbers 4 (some .boolean) 2 := ⟨tw_1089, tw_1087, tw_1088, tw_7, rfl, by decide +kernel, by decide +kernel, by decide +kernel⟩
theorem dX3_readsOrder_0 : decode cX3_readsOrder 0 = .ok (.iconst 0, 1) := by decide +kernel
theorem dX3_readsOrder_1 : decode cX3_readsOrder 1 = .ok (.istore_n 2, 1) := by decide +kernel
theorem dX3_readsOrder_2 : decode cX3_readsOrder 2 = .ok (.iload_n 2, 1) := by decide +kernel
theorem dX3_readsOrder_3 : decode cX3_readsOrder 3 = .ok (.getstatic 51, 3) := by decide +kernel
theorem dX3_readsOrder_6 : decode cX3_readsOrder 6 = .ok (.arraylength, 1) := by decide +kernel
theorem dX3_readsOrder_7 : decode cX3_readsOrder 7 = .ok (.if_icmp .ge 68, 3) := by decide +kernel
theorem dX3_readsOrder_10 : decode cX3_readsOrder 10 = .ok (.getstatic 51, 3) := by decide +kernel
theorem dX3_readsOrder_13 : decode cX3_readsOrder 13 = .ok (.iload_n 2, 1) := by decide +kernel
theorem dX3_readsOrder_14 : decode cX3_readsOrder 14 = .ok (.aaload, 1) := by decide +kernel
theorem dX3_readsOrder_15 : decode cX3_readsOrder 15 = .ok (.astore_n 3, 1) := by decide +kernel
theorem dX3_readsOrder_16 : decode cX3_readsOrder 16 = .ok (.aload_n 0, 1) := by decide +kernel
theorem dX3_readsOrder_17 : decode cX3_readsOrder 17 = .ok (.aload_n 3, 1) := by decide +kernel
theorem dX3_readsOrder_18 : decode cX3_readsOrder 18 = .ok (.getfield 54, 3) := by decide +kernel
theorem dX3_readsOrder_21 : decode cX3_readsOrder 21 = .ok (.invokevirtual 58, 3) := by decide +kernel
theorem dX3_readsOrder_24 : decode cX3_readsOrder 24 = .ok (.aload_n 3, 1) := by decide +kernel
theorem dX3_readsOrder_25 : decode cX3_readsOrder 25 = .ok (.getfield 54, 3) := by decide +kernel
theorem dX3_readsOrder_28 : decode cX3_readsOrder 28 = .ok (.invokevirtual 62, 3) := by decide +kernel
theorem dX3_readsOrder_31 : decode cX3_readsOrder 31 = .ok (.if_icmp .ne 38, 3) := by decide +kernel
theorem dX3_readsOrder_34 : decode cX3_readsOrder 34 = .ok (.aload_n 0, 1) := by decide +kernel
theorem dX3_readsOrder_35 : decode cX3_readsOrder 35 = .ok (.dup, 1) := by decide +kernel
theorem dX3_readsOrder_36 : decode cX3_readsOrder 36 = .ok (.getfield 34, 3) := by decide +kernel
theorem dX3_readsOrder_39 : decode cX3_readsOrder 39 = .ok (.aload_n 3, 1) := by decide +kernel
theorem dX3_readsOrder_40 : decode cX3_readsOrder 40 = .ok (.getfield 54, 3) := by decide +kernel
theorem dX3_readsOrder_43 : decode cX3_readsOrder 43 = .ok (.invokevirtual 62, 3) := by decide +kernel
theorem dX3_readsOrder_46 : decode cX3_readsOrder 46 = .ok (.iadd, 1) := by decide +kernel
theorem dX3_readsOrder_47 : decode cX3_readsOrder 47 = .ok (.putfield 34, 3) := by decide +kernel
theorem dX3_readsOrder_50 : decode cX3_readsOrder 50 = .ok (.aload_n 0, 1) := by decide +kernel
theorem dX3_readsOrder_51 : decode cX3_readsOrder 51 = .ok (.getfield 21, 3) := by decide +kernel
theorem dX3_readsOrder_54 : decode cX3_readsOrder 54 = .ok (.iload_n 1, 1) := by decide +kernel
theorem dX3_readsOrder_55 : decode cX3_readsOrder 55 = .ok (.aload_n 3, 1) := by decide +kernel
theorem dX3_readsOrder_56 : decode cX3_readsOrder 56 = .ok (.aastore, 1) := by decide +kernel
theorem dX3_readsOrder_57 : decode cX3_readsOrder 57 = .ok (.aload_n 0, 1) := by decide +kernel
theorem dX3_readsOrder_58 : decode cX3_readsOrder 58 = .ok (.aload_n 3, 1) := by decide +kernel
theorem dX3_readsOrder_59 : decode cX3_readsOrder 59 = .ok (.aload_n 0, 1) := by decide +kernel
theorem dX3_readsOrder_60 : decode cX3_readsOrder 60 = .ok (.getfield 27, 3) := by decide +kernel
theorem dX3_readsOrder_63 : decode cX3_readsOrder 63 = .ok (.iload_n 1, 1) := by decide +kernel
theorem dX3_readsOrder_64 : decode cX3_readsOrder 64 = .ok (.aaload, 1) := by decide +kernel
theorem dX3_readsOrder_65 : decode cX3_readsOrder 65 = .ok (.invokevirtual 67, 3) := by decide +kernel
theorem dX3_readsOrder_68 : decode cX3_readsOrder 68 = .ok (.ireturn, 1) := by decide +kernel
theorem dX3_readsOrder_69 : decode cX3_readsOrder 69 = .ok (.iinc 2 1, 3) := by decide +kernel
theorem dX3_readsOrder_72 : decode cX3_readsOrder 72 = .ok (.goto (-70), 3) := by decide +kernel
theorem dX3_readsOrder_75 : decode cX3_readsOrder 75 = .ok (.aload_n 0, 1) := by decide +kernel
theorem dX3_readsOrder_76 : decode cX3_readsOrder 76 = .ok (.dup, 1) := by decide +kernel
theorem dX3_readsOrder_77 : decode cX3_readsOrder 77 = .ok (.getfield 34, 3) := by decide +kernel
theorem dX3_readsOrder_80 : decode cX3_readsOrder 80 = .ok (.aload_n 0, 1) := by decide +kernel
theorem dX3_readsOrder_81 : decode cX3_readsOrder 81 = .ok (.invokevirtual 71, 3) := by decide +kernel
theorem dX3_readsOrder_84 : decode cX3_readsOrder 84 = .ok (.iadd, 1) := by decide +kernel
theorem dX3_readsOrder_85 : decode cX3_readsOrder 85 = .ok (.putfield 34, 3) := by decide +kernel
theorem dX3_readsOrder_88 : decode cX3_readsOrder 88 = .ok (.iconst 0, 1) := by decide +kernel
theorem dX3_readsOrder_89 : decode cX3_readsOrder 89 = .ok (.ireturn, 1) := by decide +kernel
theorem vm_X3_readsOrder : aVm yX3_readsOrder RX3 cX3_readsOrder 4 (some .boolean) 1 := ⟨tw_1032, tw_1030, tw_1031, tw_7, rfl, by decide +kernel, by decide +kernel, by decide +kernel⟩
theorem dX3_readAll_0 : decode cX3_readAll 0 = .ok (.aload_n 0, 1) := by decide +kernel
theorem dX3_readAll_1 : decode cX3_readAll 1 = .ok (.iconst 0, 1) := by decide +kernel
theorem dX3_readAll_2 : decode cX3_readAll 2 = .ok (.putfield 34, 3) := by decide +kernel
theorem dX3_readAll_5 : decode cX3_readAll 5 = .ok (.aload_n 0, 1) := by decide +kernel
theorem dX3_readAll_6 : decode cX3_readAll 6 = .ok (.iconst 0, 1) := by decide +kernel
theorem dX3_readAll_7 : decode cX3_readAll 7 = .ok (.putfield 37, 3) := by decide +kernel
theorem dX3_readAll_10 : decode cX3_readAll 10 = .ok (.aload_n 0, 1) := by decide +kernel
theorem dX3_readAll_11 : decode cX3_readAll 11 = .ok (.iconst (-1), 1) := by decide +kernel
theorem dX3_readAll_12 : decode cX3_readAll 12 = .ok (.putfield 15, 3) := by decide +kernel
theorem dX3_readAll_15 : decode cX3_readAll 15 = .ok (.aload_n 0, 1) := by decide +kernel
theorem dX3_readAll_16 : decode cX3_readAll 16 = .ok (.getfield 37, 3) := by decide +kernel
theorem dX3_readAll_19 : decode cX3_readAll 19 = .ok (.bipush 10, 2) := by decide +kernel
theorem dX3_readAll_21 : decode cX3_readAll 21 = .ok (.if_icmp .ge 48, 3) := by decide +kernel
theorem dX3_readAll_24 : decode cX3_readAll 24 = .ok (.aload_n 0, 1) := by decide +kernel
theorem dX3_readAll_25 : decode cX3_readAll 25 = .ok (.aload_n 0, 1) := by decide +kernel
theorem dX3_readAll_26 : decode cX3_readAll 26 = .ok (.getfield 37, 3) := by decide +kernel
theorem dX3_readAll_29 : decode cX3_readAll 29 = .ok (.invokevirtual 40, 3) := by decide +kernel
theorem dX3_readAll_32 : decode cX3_readAll 32 = .ok (.ifCond .eq 37, 3) := by decide +kernel
theorem dX3_readAll_35 : decode cX3_readAll 35 = .ok (.aload_n 0, 1) := by decide +kernel
theorem dX3_readAll_36 : decode cX3_readAll 36 = .ok (.dup, 1) := by decide +kernel
theorem dX3_readAll_37 : decode cX3_readAll 37 = .ok (.getfield 37, 3) := by decide +kernel
theorem dX3_readAll_40 : decode cX3_readAll 40 = .ok (.iconst 1, 1) := by decide +kernel
theorem dX3_readAll_41 : decode cX3_readAll 41 = .ok (.iadd, 1) := by decide +kernel
theorem dX3_readAll_42 : decode cX3_readAll 42 = .ok (.putfield 37, 3) := by decide +kernel
theorem dX3_readAll_45 : decode cX3_readAll 45 = .ok (.aload_n 0, 1) := by decide +kernel
theorem dX3_readAll_46 : decode cX3_readAll 46 = .ok (.getfield 34, 3) := by decide +kernel
theorem dX3_readAll_49 : decode cX3_readAll 49 = .ok (.aload_n 0, 1) := by decide +kernel
theorem dX3_readAll_50 : decode cX3_readAll 50 = .ok (.getfield 44, 3) := by decide +kernel
theorem dX3_readAll_53 : decode cX3_readAll 53 = .ok (.if_icmp .lt 4, 3) := by decide +kernel
theorem dX3_readAll_56 : decode cX3_readAll 56 = .ok (.return_, 1) := by decide +kernel
theorem dX3_readAll_57 : decode cX3_readAll 57 = .ok (.aload_n 0, 1) := by decide +kernel
theorem dX3_readAll_58 : decode cX3_readAll 58 = .ok (.bipush 59, 2) := by decide +kernel
theorem dX3_readAll_60 : decode cX3_readAll 60 = .ok (.invokevirtual 47, 3) := by decide +kernel
theorem dX3_readAll_63 : decode cX3_readAll 63 = .ok (.ifCond .ne (-48), 3) := by decide +kernel
theorem dX3_readAll_66 : decode cX3_readAll 66 = .ok (.goto 3, 3) := by decide +kernel
theorem dX3_readAll_69 : decode cX3_readAll 69 = .ok (.aload_n 0, 1) := by decide +kernel
theorem dX3_readAll_70 : decode cX3_readAll 70 = .ok (.aload_n 0, 1) := by decide +kernel
theorem dX3_readAll_71 : decode cX3_readAll 71 = .ok (.getfield 34, 3) := by decide +kernel
theorem dX3_readAll_74 : decode cX3_readAll 74 = .ok (.putfield 15, 3) := by decide +kernel
theorem dX3_readAll_77 : decode cX3_readAll 77 = .ok (.return_, 1) := by decide +kernel
theorem vm_X3_readAll : aVm yX3_readAll RX3 cX3_readAll 1 none 0 := ⟨tw_1028, tw_1026, tw_1027, tw_7, rfl, by decide +kernel, by decide +kernel, by decide +kernel⟩
theorem dX9_doesAllOrders_0 : decode cX9_doesAllOrders 0 = .ok (.aload_n 0, 1) := by decide +kernel
theorem dX9_doesAllOrders_1 : decode cX9_doesAllOrders 1 = .ok (.getfield 16, 3) := by decide +kernel
theorem dX9_doesAllOrders_4 : decode cX9_doesAllOrders 4 = .ok (.aload_n 0, 1) := by decide +kernel
theorem dX9_doesAllOrders_5 : decode cX9_doesAllOrders 5 = .ok (.getfield 10, 3) := by decide +kernel
theorem dX9_doesAllOrders_8 : decode cX9_doesAllOrders 8 = .ok (.invokevirtual 382, 3) := by decide +kernel
theorem dX9_doesAllOrders_11 : decode cX9_doesAllOrders 11 = .ok (.iconst 0, 1) := by decide +kernel
theorem dX9_doesAllOrders_12 : decode cX9_doesAllOrders 12 = .ok (.istore_n 1, 1) := by decide +kernel
theorem dX9_doesAllOrders_13 : decode cX9_doesAllOrders 13 = .ok (.iload_n 1, 1) := by decide +kernel
theorem dX9_doesAllOrders_14 : decode cX9_doesAllOrders 14 = .ok (.aload_n 0, 1) := by decide +kernel
theorem dX9_doesAllOrders_15 : decode cX9_doesAllOrders 15 = .ok (.getfield 32, 3) := by decide +kernel
theorem dX9_doesAllOrders_18 : decode cX9_doesAllOrders 18 = .ok (.getfield 299, 3) := by decide +kernel
theorem dX9_doesAllOrders_21 : decode cX9_doesAllOrders 21 = .ok (.if_icmp .ge 90, 3) := by decide +kernel
theorem dX9_doesAllOrders_24 : decode cX9_doesAllOrders 24 = .ok (.aload_n 0, 1) := by decide +kernel
theorem dX9_doesAllOrders_25 : decode cX9_doesAllOrders 25 = .ok (.getfield 32, 3) := by decide +kernel
theorem dX9_doesAllOrders_28 : decode cX9_doesAllOrders 28 = .ok (.getfield 419, 3) := by decide +kernel
theorem dX9_doesAllOrders_31 : decode cX9_doesAllOrders 31 = .ok (.iload_n 1, 1) := by decide +kernel
theorem dX9_doesAllOrders_32 : decode cX9_doesAllOrders 32 = .ok (.aaload, 1) := by decide +kernel
theorem dX9_doesAllOrders_33 : decode cX9_doesAllOrders 33 = .ok (.astore_n 2, 1) := by decide +kernel
theorem dX9_doesAllOrders_34 : decode cX9_doesAllOrders 34 = .ok (.aload_n 0, 1) := by decide +kernel
theorem dX9_doesAllOrders_35 : decode cX9_doesAllOrders 35 = .ok (.aload_n 0, 1) := by decide +kernel
theorem dX9_doesAllOrders_36 : decode cX9_doesAllOrders 36 = .ok (.getfield 32, 3) := by decide +kernel
theorem dX9_doesAllOrders_39 : decode cX9_doesAllOrders 39 = .ok (.getfield 423, 3) := by decide +kernel
theorem dX9_doesAllOrders_42 : decode cX9_doesAllOrders 42 = .ok (.iload_n 1, 1) := by decide +kernel
theorem dX9_doesAllOrders_43 : decode cX9_doesAllOrders 43 = .ok (.aaload, 1) := by decide +kernel
theorem dX9_doesAllOrders_44 : decode cX9_doesAllOrders 44 = .ok (.aload_n 2, 1) := by decide +kernel
theorem dX9_doesAllOrders_45 : decode cX9_doesAllOrders 45 = .ok (.iconst 0, 1) := by decide +kernel
theorem dX9_doesAllOrders_46 : decode cX9_doesAllOrders 46 = .ok (.iaload, 1) := by decide +kernel
theorem dX9_doesAllOrders_47 : decode cX9_doesAllOrders 47 = .ok (.aload_n 2, 1) := by decide +kernel
theorem dX9_doesAllOrders_48 : decode cX9_doesAllOrders 48 = .ok (.iconst 1, 1) := by decide +kernel
theorem dX9_doesAllOrders_49 : decode cX9_doesAllOrders 49 = .ok (.iaload, 1) := by decide +kernel
theorem dX9_doesAllOrders_50 : decode cX9_doesAllOrders 50 = .ok (.aload_n 2, 1) := by decide +kernel
theorem dX9_doesAllOrders_51 : decode cX9_doesAllOrders 51 = .ok (.iconst 2, 1) := by decide +kernel
theorem dX9_doesAllOrders_52 : decode cX9_doesAllOrders 52 = .ok (.iaload, 1) := by decide +kernel
theorem dX9_doesAllOrders_53 : decode cX9_doesAllOrders 53 = .ok (.invokevirtual 410, 3) := by decide +kernel
theorem dX9_doesAllOrders_56 : decode cX9_doesAllOrders 56 = .ok (.ifCond .eq 26, 3) := by decide +kernel
theorem dX9_doesAllOrders_59 : decode cX9_doesAllOrders 59 = .ok (.aload_n 0, 1) := by decide +kernel
theorem dX9_doesAllOrders_60 : decode cX9_doesAllOrders 60 = .ok (.getfield 39, 3) := by decide +kernel
theorem dX9_doesAllOrders_63 : decode cX9_doesAllOrders 63 = .ok (.bipush 12, 2) := by decide +kernel
theorem dX9_doesAllOrders_65 : decode cX9_doesAllOrders 65 = .ok (.iload_n 1, 1) := by decide +kernel
theorem dX9_doesAllOrders_66 : decode cX9_doesAllOrders 66 = .ok (.invokevirtual 427, 3) := by decide +kernel
theorem dX9_doesAllOrders_69 : decode cX9_doesAllOrders 69 = .ok (.aload_n 0, 1) := by decide +kernel
theorem dX9_doesAllOrders_70 : decode cX9_doesAllOrders 70 = .ok (.getfield 10, 3) := by decide +kernel
theorem dX9_doesAllOrders_73 : decode cX9_doesAllOrders 73 = .ok (.aload_n 0, 1) := by decide +kernel
theorem dX9_doesAllOrders_74 : decode cX9_doesAllOrders 74 = .ok (.getfield 16, 3) := by decide +kernel
theorem dX9_doesAllOrders_77 : decode cX9_doesAllOrders 77 = .ok (.invokevirtual 382, 3) := by decide +kernel
theorem dX9_doesAllOrders_80 : decode cX9_doesAllOrders 80 = .ok (.iconst 0, 1) := by decide +kernel
theorem dX9_doesAllOrders_81 : decode cX9_doesAllOrders 81 = .ok (.ireturn, 1) := by decide +kernel
theorem dX9_doesAllOrders_82 : decode cX9_doesAllOrders 82 = .ok (.aload_n 0, 1) := by decide +kernel
theorem dX9_doesAllOrders_83 : decode cX9_doesAllOrders 83 = .ok (.aload_n 0, 1) := by decide +kernel
theorem dX9_doesAllOrders_84 : decode cX9_doesAllOrders 84 = .ok (.getfield 32, 3) := by decide +kernel
theorem dX9_doesAllOrders_87 : decode cX9_doesAllOrders 87 = .ok (.getfield 423, 3) := by decide +kernel
theorem dX9_doesAllOrders_90 : decode cX9_doesAllOrders 90 = .ok (.iload_n 1, 1) := by decide +kernel
theorem dX9_doesAllOrders_91 : decode cX9_doesAllOrders 91 = .ok (.aaload, 1) := by decide +kernel
theorem dX9_doesAllOrders_92 : decode cX9_doesAllOrders 92 = .ok (.aload_n 2, 1) := by decide +kernel
theorem dX9_doesAllOrders_93 : decode cX9_doesAllOrders 93 = .ok (.iconst 0, 1) := by decide +kernel
theorem dX9_doesAllOrders_94 : decode cX9_doesAllOrders 94 = .ok (.iaload, 1) := by decide +kernel
theorem dX9_doesAllOrders_95 : decode cX9_doesAllOrders 95 = .ok (.aload_n 2, 1) := by decide +kernel
theorem dX9_doesAllOrders_96 : decode cX9_doesAllOrders 96 = .ok (.iconst 1, 1) := by decide +kernel
theorem dX9_doesAllOrders_97 : decode cX9_doesAllOrders 97 = .ok (.iaload, 1) := by decide +kernel
theorem dX9_doesAllOrders_98 : decode cX9_doesAllOrders 98 = .ok (.aload_n 2, 1) := by decide +kernel
theorem dX9_doesAllOrders_99 : decode cX9_doesAllOrders 99 = .ok (.iconst 2, 1) := by decide +kernel
theorem dX9_doesAllOrders_100 : decode cX9_doesAllOrders 100 = .ok (.iaload, 1) := by decide +kernel
theorem dX9_doesAllOrders_101 : decode cX9_doesAllOrders 101 = .ok (.invokevirtual 416, 3) := by decide +kernel
theorem dX9_doesAllOrders_104 : decode cX9_doesAllOrders 104 = .ok (.pop, 1) := by decide +kernel
theorem dX9_doesAllOrders_105 : decode cX9_doesAllOrders 105 = .ok (.iinc 1 1, 3) := by decide +kernel
theorem dX9_doesAllOrders_108 : decode cX9_doesAllOrders 108 = .ok (.goto (-95), 3) := by decide +kernel
theorem dX9_doesAllOrders_111 : decode cX9_doesAllOrders 111 = .ok (.aload_n 0, 1) := by decide +kernel
theorem dX9_doesAllOrders_112 : decode cX9_doesAllOrders 112 = .ok (.getfield 25, 3) := by decide +kernel
theorem dX9_doesAllOrders_115 : decode cX9_doesAllOrders 115 = .ok (.aload_n 0, 1) := by decide +kernel
theorem dX9_doesAllOrders_116 : decode cX9_doesAllOrders 116 = .ok (.getfield 16, 3) := by decide +kernel
theorem dX9_doesAllOrders_119 : decode cX9_doesAllOrders 119 = .ok (.invokevirtual 84, 3) := by decide +kernel
theorem dX9_doesAllOrders_122 : decode cX9_doesAllOrders 122 = .ok (.iconst 1, 1) := by decide +kernel
theorem dX9_doesAllOrders_123 : decode cX9_doesAllOrders 123 = .ok (.ireturn, 1) := by decide +kernel
theorem vm_X9_doesAllOrders : aVm yX9_doesAllOrders RX9 cX9_doesAllOrders 3 (some .boolean) 0 := ⟨tw_1111, tw_1110, List.mem_append_left _ (List.mem_of_getElem? (i := 24) (by decide +kernel)), tw_1, rfl, by decide +kernel, by decide +kernel, by decide +kernel⟩
theorem dX9_run_0 : decode cX9_run 0 = .ok (.aload_n 0, 1) := by decide +kernel
theorem dX9_run_1 : decode cX9_run 1 = .ok (.getfield 32, 3) := by decide +kernel
theorem dX9_run_4 : decode cX9_run 4 = .ok (.invokevirtual 282, 3) := by decide +kernel
theorem dX9_run_7 : decode cX9_run 7 = .ok (.aload_n 0, 1) := by decide +kernel
theorem dX9_run_8 : decode cX9_run 8 = .ok (.getfield 32, 3) := by decide +kernel
theorem dX9_run_11 : decode cX9_run 11 = .ok (.iconst 0, 1) := by decide +kernel
theorem dX9_run_12 : decode cX9_run 12 = .ok (.putfield 270, 3) := by decide +kernel
theorem dX9_run_15 : decode cX9_run 15 = .ok (.aload_n 0, 1) := by decide +kernel
theorem dX9_run_16 : decode cX9_run 16 = .ok (.getfield 32, 3) := by decide +kernel
theorem dX9_run_19 : decode cX9_run 19 = .ok (.getfield 285, 3) := by decide +kernel
theorem dX9_run_22 : decode cX9_run 22 = .ok (.iconst (-1), 1) := by decide +kernel
theorem dX9_run_23 : decode cX9_run 23 = .ok (.if_icmp .eq 14, 3) := by decide +kernel
theorem dX9_run_26 : decode cX9_run 26 = .ok (.new 127, 3) := by decide +kernel
theorem dX9_run_29 : decode cX9_run 29 = .ok (.dup, 1) := by decide +kernel
theorem dX9_run_30 : decode cX9_run 30 = .ok (.ldc_w 288, 3) := by decide +kernel
theorem dX9_run_33 : decode cX9_run 33 = .ok (.invokespecial 131, 3) := by decide +kernel
theorem dX9_run_36 : decode cX9_run 36 = .ok (.athrow, 1) := by decide +kernel
theorem dX9_run_37 : decode cX9_run 37 = .ok (.aload_n 0, 1) := by decide +kernel
theorem dX9_run_38 : decode cX9_run 38 = .ok (.invokevirtual 290, 3) := by decide +kernel
theorem dX9_run_41 : decode cX9_run 41 = .ok (.ifCond .ne 14, 3) := by decide +kernel
theorem dX9_run_44 : decode cX9_run 44 = .ok (.new 294, 3) := by decide +kernel
theorem dX9_run_47 : decode cX9_run 47 = .ok (.dup, 1) := by decide +kernel
theorem dX9_run_48 : decode cX9_run 48 = .ok (.ldc_w 296, 3) := by decide +kernel
theorem dX9_run_51 : decode cX9_run 51 = .ok (.invokespecial 298, 3) := by decide +kernel
theorem dX9_run_54 : decode cX9_run 54 = .ok (.athrow, 1) := by decide +kernel
theorem dX9_run_55 : decode cX9_run 55 = .ok (.aload_n 0, 1) := by decide +kernel
theorem dX9_run_56 : decode cX9_run 56 = .ok (.getfield 32, 3) := by decide +kernel
theorem dX9_run_59 : decode cX9_run 59 = .ok (.getfield 299, 3) := by decide +kernel
theorem dX9_run_62 : decode cX9_run 62 = .ok (.ireturn, 1) := by decide +kernel
theorem vm_X9_run : aVm yX9_run RX9 cX9_run 1 (some .int) 0 := ⟨tw_1024, tw_1022, tw_1023, tw_1, rfl, by decide +kernel, by decide +kernel, by decide +kernel⟩
def w_X3_readsSign (x1 : Int32) (q : aS) (P : Int32 → aS → Prop) : Prop := (((q.1 190 1) ≤ (q.1 190 6) → P 0 q) ∧ (¬ (q.1 190 1) ≤ (q.1 190 6) → (vp_in (q.1 190 6) 60 ∧ (((q.1 191 (Int32.toNatClampNeg (q.1 190 6))) = x1 → ∀ q2 : aS, q2 = (up2 q.1 190 6 ((q.1 190 6) + 1), q.2) → P 1 q2) ∧ (¬ (q.1 191 (Int32.toNatClampNeg (q.1 190 6))) = x1 → P 0 q)))))
def w_X3_isAtDigit (q : aS) (P : Int32 → aS → Prop) : Prop := (((q.1 190 1) ≤ (q.1 190 6) → P 0 q) ∧ (¬ (q.1 190 1) ≤ (q.1 190 6) → (vp_in (q.1 190 6) 60 ∧ (((q.1 191 (Int32.toNatClampNeg (q.1 190 6))) < 48 → P 0 q) ∧ (¬ (q.1 191 (Int32.toNatClampNeg (q.1 190 6))) < 48 → (vp_in (q.1 190 6) 60 ∧ ((57 < (q.1 191 (Int32.toNatClampNeg (q.1 190 6))) → P 0 q) ∧ (¬ 57 < (q.1 191 (Int32.toNatClampNeg (q.1 190 6))) → P 1 q))))))))
def w_X3_readDigit (q : aS) (P : Int32 → aS → Prop) : Prop := (vp_in (q.1 190 6) 60 ∧ ∀ x1 : Int32, x1 = ((q.1 191 (Int32.toNatClampNeg (q.1 190 6))) - 48) → ∀ q2 : aS, q2 = (up2 q.1 190 6 ((q.1 190 6) + 1), q.2) → P x1 q2)
def LX3_countSame_2 (i : Nat) (P : Int32 → aS → Prop) (K : Int32 → aS → Prop) : Nat → Int32 → aS → Prop
  | 0, _, _ => False
  | N + 1, v2, q => (((Int32.ofNat (sLen.getD i 0)) ≤ v2 → K v2 q) ∧ (¬ (Int32.ofNat (sLen.getD i 0)) ≤ v2 → (((q.1 190 1) ≤ ((q.1 190 6) + v2) → K v2 q) ∧ (¬ (q.1 190 1) ≤ ((q.1 190 6) + v2) → (vp_in ((q.1 190 6) + v2) 60 ∧ (vp_in v2 (sLen.getD i 0) ∧ ((¬ (q.1 191 (Int32.toNatClampNeg ((q.1 190 6) + v2))) = (sChr i (Int32.toNatClampNeg v2)) → K v2 q) ∧ ((q.1 191 (Int32.toNatClampNeg ((q.1 190 6) + v2))) = (sChr i (Int32.toNatClampNeg v2)) → ∀ x1 : Int32, x1 = v2 + 1 → (LX3_countSame_2 i P K N) x1 q))))))))
def w_X3_countSame (i : Nat) (q : aS) (P : Int32 → aS → Prop) : Prop := ∃ M4, LX3_countSame_2 i P (fun y2 q3 => P y2 q3) M4 0 q
def LX3_longestStart_4 (P : Int32 → aS → Prop) (K : Int32 → aS → Prop) : Nat → Int32 → Int32 → aS → Prop
  | 0, _, _, _ => False
  | N + 1, v1, v2, q => ((10 ≤ v2 → K v1 q) ∧ (¬ 10 ≤ v2 → (vp_in v2 10 ∧ w_X3_countSame (Int32.toNatClampNeg v2) q (fun r2 q3 => ∀ x4 : Int32, x4 = (if v1 < r2 then r2 else v1) → ∀ x5 : Int32, x5 = v2 + 1 → (LX3_longestStart_4 P K N) x4 x5 q3))))
def w_X3_longestStart (q : aS) (P : Int32 → aS → Prop) : Prop := ∃ M8, LX3_longestStart_4 P (fun y6 q7 => P y6 q7) M8 0 0 q
def JX3_readsNumbers_31 (kd : Nat) (r : Nat) (j3 : Int32) (P : Int32 → aS → Prop) (B : Int32 → aS → Prop) (K : aS → Prop) (q : aS) : Prop := w_X3_isAtDigit q (fun r1 q2 => ((¬ r1 = 0 → w_X3_readDigit q2 (fun r3 q4 => (vp_in j3 3 ∧ ∀ q5 : aS, q5 = (up2 q4.1 (194 + r) (Int32.toNatClampNeg j3) r3, q4.2) → ((¬ j3 = ((kNum kd) - 1) → ∀ x6 : Int32, x6 = j3 + 1 → B x6 q5) ∧ (j3 = ((kNum kd) - 1) → ((¬ (kDig kd) = 2 → ∀ x7 : Int32, x7 = j3 + 1 → B x7 q5) ∧ ((kDig kd) = 2 → w_X3_isAtDigit q5 (fun r8 q9 => ((r8 = 0 → ∀ x10 : Int32, x10 = j3 + 1 → B x10 q9) ∧ (¬ r8 = 0 → (vp_in j3 3 ∧ w_X3_readDigit q9 (fun r11 q12 => (vp_in j3 3 ∧ ∀ q13 : aS, q13 = (up2 q12.1 (194 + r) (Int32.toNatClampNeg j3) ((10 * (q9.1 (194 + r) (Int32.toNatClampNeg j3))) + r11), q12.2) → ∀ x14 : Int32, x14 = j3 + 1 → B x14 q13))))))))))))) ∧ (r1 = 0 → P 0 q2)))
def LX3_readsNumbers_2 (kd : Nat) (r : Nat) (P : Int32 → aS → Prop) (K : aS → Prop) : Nat → Int32 → aS → Prop
  | 0, _, _ => False
  | N + 1, v3, q => (((kNum kd) ≤ v3 → K  q) ∧ (¬ (kNum kd) ≤ v3 → ((3 ≤ v3 → K  q) ∧ (¬ 3 ≤ v3 → ((v3 ≤ 0 → JX3_readsNumbers_31 kd r v3 P (LX3_readsNumbers_2 kd r P K N) K q) ∧ (¬ v3 ≤ 0 → w_X3_readsSign 32 q (fun r15 q16 => ((¬ r15 = 0 → JX3_readsNumbers_31 kd r v3 P (LX3_readsNumbers_2 kd r P K N) K q16) ∧ (r15 = 0 → P 0 q16)))))))))
def w_X3_readsNumbers (kd : Nat) (r : Nat) (q : aS) (P : Int32 → aS → Prop) : Prop := ∃ M18, LX3_readsNumbers_2 kd r P (fun q17 => P 1 q17) M18 0 q
def LX3_readsOrder_2 (c1 : Int32) (P : Int32 → aS → Prop) (K : aS → Prop) : Nat → Int32 → aS → Prop
  | 0, _, _ => False
  | N + 1, v2, q => ((10 ≤ v2 → K  q) ∧ (¬ 10 ≤ v2 → (vp_in v2 10 ∧ w_X3_countSame (Int32.toNatClampNeg v2) q (fun r3 q4 => ((¬ r3 = (Int32.ofNat (sLen.getD (Int32.toNatClampNeg v2) 0)) → ∀ x5 : Int32, x5 = v2 + 1 → (LX3_readsOrder_2 c1 P K N) x5 q4) ∧ (r3 = (Int32.ofNat (sLen.getD (Int32.toNatClampNeg v2) 0)) → ∀ q6 : aS, q6 = (up2 q4.1 190 6 ((q4.1 190 6) + (Int32.ofNat (sLen.getD (Int32.toNatClampNeg v2) 0))), q4.2) → (vp_in c1 10 ∧ ∀ q7 : aS, q7 = (up2 q6.1 192 (Int32.toNatClampNeg c1) (nI (Int32.toNatClampNeg v2)), q6.2) → (vp_in c1 10 ∧ w_X3_readsNumbers (Int32.toNatClampNeg v2) (Int32.toNatClampNeg c1) q7 (fun r9 q10 => P r9 q10)))))))))
def w_X3_readsOrder (x1 : Int32) (q : aS) (P : Int32 → aS → Prop) : Prop := ∃ M15, LX3_readsOrder_2 x1 P (fun q11 => w_X3_longestStart q11 (fun r12 q13 => ∀ q14 : aS, q14 = (up2 q13.1 190 6 ((q11.1 190 6) + r12), q13.2) → P 0 q14)) M15 0 q
def LX3_readAll_15 (P : Int32 → aS → Prop) (K : aS → Prop) : Nat → aS → Prop
  | 0, _ => False
  | N + 1, q => ((10 ≤ (q.1 190 3) → ∀ q4 : aS, q4 = (up2 q.1 190 2 (q.1 190 6), q.2) → P 0 q4) ∧ (¬ 10 ≤ (q.1 190 3) → w_X3_readsOrder (q.1 190 3) q (fun r5 q6 => ((r5 = 0 → ∀ q7 : aS, q7 = (up2 q6.1 190 2 (q6.1 190 6), q6.2) → P 0 q7) ∧ (¬ r5 = 0 → ∀ q8 : aS, q8 = (up2 q6.1 190 3 ((q6.1 190 3) + 1), q6.2) → (((q8.1 190 6) < (q8.1 190 1) → w_X3_readsSign 59 q8 (fun r9 q10 => ((¬ r9 = 0 → (LX3_readAll_15 P K N)  q10) ∧ (r9 = 0 → K  q10)))) ∧ (¬ (q8.1 190 6) < (q8.1 190 1) → P 0 q8)))))))
def w_X3_readAll (q : aS) (P : Int32 → aS → Prop) : Prop := ∀ q1 : aS, q1 = (up2 q.1 190 6 0, q.2) → ∀ q2 : aS, q2 = (up2 q1.1 190 3 0, q1.2) → ∀ q3 : aS, q3 = (up2 q2.1 190 2 (-1), q2.2) → ∃ M13, LX3_readAll_15 P (fun q11 => ∀ q12 : aS, q12 = (up2 q11.1 190 2 (q11.1 190 6), q11.2) → P 0 q12) M13  q3
def LX9_doesAllOrders_13 (P : Int32 → aS → Prop) (K : aS → Prop) : Nat → Int32 → aS → Prop
  | 0, _, _ => False
  | N + 1, v1, q => (((q.1 190 3) ≤ v1 → K  q) ∧ (¬ (q.1 190 3) ≤ v1 → (vp_in v1 10 ∧ (vp_in v1 10 ∧ (Int32.toNatClampNeg (q.1 192 (Int32.toNatClampNeg v1))) < 10 ∧ (vp_in 0 3 ∧ (vp_in 1 3 ∧ (vp_in 2 3 ∧ w_X9_isRefused (Int32.toNatClampNeg (q.1 192 (Int32.toNatClampNeg v1))) (q.1 (194 + (Int32.toNatClampNeg v1)) (Int32.toNatClampNeg 0)) (q.1 (194 + (Int32.toNatClampNeg v1)) (Int32.toNatClampNeg 1)) (q.1 (194 + (Int32.toNatClampNeg v1)) (Int32.toNatClampNeg 2)) q (fun r5 q6 => ((r5 = 0 → (vp_in v1 10 ∧ (Int32.toNatClampNeg (q6.1 192 (Int32.toNatClampNeg v1))) < 10 ∧ (vp_in 0 3 ∧ (vp_in 1 3 ∧ (vp_in 2 3 ∧ w_X9_doOrder (Int32.toNatClampNeg (q6.1 192 (Int32.toNatClampNeg v1))) (q6.1 (194 + (Int32.toNatClampNeg v1)) (Int32.toNatClampNeg 0)) (q6.1 (194 + (Int32.toNatClampNeg v1)) (Int32.toNatClampNeg 1)) (q6.1 (194 + (Int32.toNatClampNeg v1)) (Int32.toNatClampNeg 2)) q6 (fun r8 q9 => ∀ x10 : Int32, x10 = v1 + 1 → (LX9_doesAllOrders_13 P K N) x10 q9)))))) ∧ (¬ r5 = 0 → w_X5_putBehind 12 v1 q6 (fun _ q12 => w_X8_copyFrom 1 18 q12 (fun _ q14 => P 0 q14))))))))))))
def w_X9_doesAllOrders (q : aS) (P : Int32 → aS → Prop) : Prop := w_X8_copyFrom 18 1 q (fun _ q2 => ∃ M18, LX9_doesAllOrders_13 P (fun q15 => w_X4_keep 18 q15 (fun _ q17 => P 1 q17)) M18 0 q2)
def w_X9_run (q : aS) (P : Int32 → aS → Prop) (X : String → aS → Prop) : Prop := w_X3_readAll q (fun _ q2 => ∀ q3 : aS, q3 = (up2 q2.1 190 1 0, q2.2) → (((q3.1 190 2) = (-1) → w_X9_doesAllOrders q3 (fun r4 q5 => ((¬ r4 = 0 → P (q5.1 190 3) q5) ∧ (r4 = 0 → X "java/lang/UnsupportedOperationException" q5)))) ∧ (¬ (q3.1 190 2) = (-1) → X "java/lang/IllegalArgumentException" q3)))
set_option maxRecDepth 20000 in
theorem t_X3_readsSign {l : Launch} {g : aG} (hX : isX g) (hl : l.stackTraces = false) (x1 : Int32) (q : aS) (P : Int32 → aS → Prop) (h : w_X3_readsSign x1 q P) : aMi l g yX3_readsSign (aWs yX3_readsSign cX3_readsSign 2 (some .boolean)) 0 0 0 [.ref (gAd g 190), .int x1] q (fun r u => (r = 0 ∨ r = 1) ∧ P r u) (fun _ _ => False) := by
  refine aMi_of RX3 ⟨by decide +kernel, rfl⟩ (cat_all rfl) (Nat.le_of_ble_eq_true rfl) hl hX.cl (fun f hR hC hE => ?_)
  show AW f g 0 [some (.ref (gAd g 190)), some (.int x1)] [] q 0 0
  unfold w_X3_readsSign at h
  refine a_aload_n (pc := 0) hC dX3_readsSign_0 rfl ?_
  refine a_get (pc := 1) hC cl_X3 (oX_190 hX) 6 (by decide) tw_225 rfl dX3_readsSign_1 ?_
  refine a_aload_n (pc := 4) hC dX3_readsSign_4 rfl ?_
  refine a_get (pc := 5) hC cl_X3 (oX_190 hX) 1 (by decide) tw_215 rfl dX3_readsSign_5 ?_
  refine a_icmp_ge (pc := 8) (tgt := 24) hC dX3_readsSign_8 (by decide) (fun c => ?_) (fun c => ?_)
  · replace h := h.1 c
    refine a_iconst (pc := 24) hC dX3_readsSign_24 (v := 0) rfl ?_
    exact a_bret (pc := 25) hC hE (Or.inl rfl) h (Nat.le_of_ble_eq_true rfl) (Nat.le_of_ble_eq_true rfl) dX3_readsSign_25
  · replace h := h.2 c
    refine a_aload_n (pc := 11) hC dX3_readsSign_11 rfl ?_
    refine a_get (pc := 12) hC cl_X3 (oX_190 hX) 0 (by decide) tw_213 rfl dX3_readsSign_12 ?_
    refine a_aload_n (pc := 15) hC dX3_readsSign_15 rfl ?_
    refine a_get (pc := 16) hC cl_X3 (oX_190 hX) 6 (by decide) tw_225 rfl dX3_readsSign_16 ?_
    refine a_cald (pc := 19) hC (oX_191 hX) h.1 dX3_readsSign_19 ?_
    replace h := h.2
    refine a_iload_n (pc := 20) hC dX3_readsSign_20 rfl ?_
    refine a_icmp_eq (pc := 21) (tgt := 26) hC dX3_readsSign_21 (by decide) (fun c => ?_) (fun c => ?_)
    · replace h := h.1 c
      refine a_aload_n (pc := 26) hC dX3_readsSign_26 rfl ?_
      refine a_dup (pc := 27) hC dX3_readsSign_27 rfl ?_
      refine a_get (pc := 28) hC cl_X3 (oX_190 hX) 6 (by decide) tw_225 rfl dX3_readsSign_28 ?_
      refine a_iconst (pc := 31) hC dX3_readsSign_31 (v := 1) rfl ?_
      refine a_iadd (pc := 32) hC dX3_readsSign_32 ?_
      refine a_put (pc := 33) hC cl_X3 (oX_190 hX) 6 (by decide) tw_225 tyX3 tyX3_ok rfl rfl rfl (Nat.le_of_ble_eq_true rfl) rfl dX3_readsSign_33 ?_
      replace h := h _ rfl
      refine a_iconst (pc := 36) hC dX3_readsSign_36 (v := 1) rfl ?_
      exact a_bret (pc := 37) hC hE (Or.inr rfl) h (Nat.le_of_ble_eq_true rfl) (Nat.le_of_ble_eq_true rfl) dX3_readsSign_37
    · replace h := h.2 c
      refine a_iconst (pc := 24) hC dX3_readsSign_24 (v := 0) rfl ?_
      exact a_bret (pc := 25) hC hE (Or.inl rfl) h (Nat.le_of_ble_eq_true rfl) (Nat.le_of_ble_eq_true rfl) dX3_readsSign_25
set_option maxRecDepth 20000 in
theorem t_X3_isAtDigit {l : Launch} {g : aG} (hX : isX g) (hl : l.stackTraces = false) (q : aS) (P : Int32 → aS → Prop) (h : w_X3_isAtDigit q P) : aMi l g yX3_isAtDigit (aWs yX3_isAtDigit cX3_isAtDigit 1 (some .boolean)) 0 0 0 [.ref (gAd g 190)] q (fun r u => (r = 0 ∨ r = 1) ∧ P r u) (fun _ _ => False) := by
  refine aMi_of RX3 ⟨by decide +kernel, rfl⟩ (cat_all rfl) (Nat.le_of_ble_eq_true rfl) hl hX.cl (fun f hR hC hE => ?_)
  show AW f g 0 [some (.ref (gAd g 190))] [] q 0 0
  unfold w_X3_isAtDigit at h
  refine a_aload_n (pc := 0) hC dX3_isAtDigit_0 rfl ?_
  refine a_get (pc := 1) hC cl_X3 (oX_190 hX) 6 (by decide) tw_225 rfl dX3_isAtDigit_1 ?_
  refine a_aload_n (pc := 4) hC dX3_isAtDigit_4 rfl ?_
  refine a_get (pc := 5) hC cl_X3 (oX_190 hX) 1 (by decide) tw_215 rfl dX3_isAtDigit_5 ?_
  refine a_icmp_ge (pc := 8) (tgt := 43) hC dX3_isAtDigit_8 (by decide) (fun c => ?_) (fun c => ?_)
  · replace h := h.1 c
    refine a_iconst (pc := 43) hC dX3_isAtDigit_43 (v := 0) rfl ?_
    exact a_bret (pc := 44) hC hE (Or.inl rfl) h (Nat.le_of_ble_eq_true rfl) (Nat.le_of_ble_eq_true rfl) dX3_isAtDigit_44
  · replace h := h.2 c
    refine a_aload_n (pc := 11) hC dX3_isAtDigit_11 rfl ?_
    refine a_get (pc := 12) hC cl_X3 (oX_190 hX) 0 (by decide) tw_213 rfl dX3_isAtDigit_12 ?_
    refine a_aload_n (pc := 15) hC dX3_isAtDigit_15 rfl ?_
    refine a_get (pc := 16) hC cl_X3 (oX_190 hX) 6 (by decide) tw_225 rfl dX3_isAtDigit_16 ?_
    refine a_cald (pc := 19) hC (oX_191 hX) h.1 dX3_isAtDigit_19 ?_
    replace h := h.2
    refine a_bipush (pc := 20) hC dX3_isAtDigit_20 (v := 48) rfl ?_
    refine a_icmp_lt (pc := 22) (tgt := 43) hC dX3_isAtDigit_22 (by decide) (fun c => ?_) (fun c => ?_)
    · replace h := h.1 c
      refine a_iconst (pc := 43) hC dX3_isAtDigit_43 (v := 0) rfl ?_
      exact a_bret (pc := 44) hC hE (Or.inl rfl) h (Nat.le_of_ble_eq_true rfl) (Nat.le_of_ble_eq_true rfl) dX3_isAtDigit_44
    · replace h := h.2 c
      refine a_aload_n (pc := 25) hC dX3_isAtDigit_25 rfl ?_
      refine a_get (pc := 26) hC cl_X3 (oX_190 hX) 0 (by decide) tw_213 rfl dX3_isAtDigit_26 ?_
      refine a_aload_n (pc := 29) hC dX3_isAtDigit_29 rfl ?_
      refine a_get (pc := 30) hC cl_X3 (oX_190 hX) 6 (by decide) tw_225 rfl dX3_isAtDigit_30 ?_
      refine a_cald (pc := 33) hC (oX_191 hX) h.1 dX3_isAtDigit_33 ?_
      replace h := h.2
      refine a_bipush (pc := 34) hC dX3_isAtDigit_34 (v := 57) rfl ?_
      refine a_icmp_gt (pc := 36) (tgt := 43) hC dX3_isAtDigit_36 (by decide) (fun c => ?_) (fun c => ?_)
      · replace h := h.1 c
        refine a_iconst (pc := 43) hC dX3_isAtDigit_43 (v := 0) rfl ?_
        exact a_bret (pc := 44) hC hE (Or.inl rfl) h (Nat.le_of_ble_eq_true rfl) (Nat.le_of_ble_eq_true rfl) dX3_isAtDigit_44
      · replace h := h.2 c
        refine a_iconst (pc := 39) hC dX3_isAtDigit_39 (v := 1) rfl ?_
        refine a_goto (pc := 40) (tgt := 44) hC dX3_isAtDigit_40 (by decide) ?_
        exact a_bret (pc := 44) hC hE (Or.inr rfl) h (Nat.le_of_ble_eq_true rfl) (Nat.le_of_ble_eq_true rfl) dX3_isAtDigit_44
set_option maxRecDepth 20000 in
theorem t_X3_readDigit {l : Launch} {g : aG} (hX : isX g) (hl : l.stackTraces = false) (q : aS) (P : Int32 → aS → Prop) (h : w_X3_readDigit q P) : aMi l g yX3_readDigit (aWs yX3_readDigit cX3_readDigit 2 (some .int)) 0 0 0 [.ref (gAd g 190)] q P (fun _ _ => False) := by
  refine aMi_of RX3 ⟨by decide +kernel, rfl⟩ (cat_all rfl) (Nat.le_of_ble_eq_true rfl) hl hX.cl (fun f hR hC hE => ?_)
  show AW f g 0 [some (.ref (gAd g 190)), none] [] q 0 0
  unfold w_X3_readDigit at h
  refine a_aload_n (pc := 0) hC dX3_readDigit_0 rfl ?_
  refine a_get (pc := 1) hC cl_X3 (oX_190 hX) 0 (by decide) tw_213 rfl dX3_readDigit_1 ?_
  refine a_aload_n (pc := 4) hC dX3_readDigit_4 rfl ?_
  refine a_get (pc := 5) hC cl_X3 (oX_190 hX) 6 (by decide) tw_225 rfl dX3_readDigit_5 ?_
  refine a_cald (pc := 8) hC (oX_191 hX) h.1 dX3_readDigit_8 ?_
  replace h := h.2
  refine a_bipush (pc := 9) hC dX3_readDigit_9 (v := 48) rfl ?_
  refine a_isub (pc := 11) hC dX3_readDigit_11 ?_
  refine a_istore_n (pc := 12) hC dX3_readDigit_12 (Nat.le_of_ble_eq_true rfl) ?_
  replace h := h _ rfl
  refine a_aload_n (pc := 13) hC dX3_readDigit_13 rfl ?_
  refine a_dup (pc := 14) hC dX3_readDigit_14 rfl ?_
  refine a_get (pc := 15) hC cl_X3 (oX_190 hX) 6 (by decide) tw_225 rfl dX3_readDigit_15 ?_
  refine a_iconst (pc := 18) hC dX3_readDigit_18 (v := 1) rfl ?_
  refine a_iadd (pc := 19) hC dX3_readDigit_19 ?_
  refine a_put (pc := 20) hC cl_X3 (oX_190 hX) 6 (by decide) tw_225 tyX3 tyX3_ok rfl rfl rfl (Nat.le_of_ble_eq_true rfl) rfl dX3_readDigit_20 ?_
  replace h := h _ rfl
  refine a_iload_n (pc := 23) hC dX3_readDigit_23 rfl ?_
  exact a_iret (pc := 24) hC hE h (Nat.le_of_ble_eq_true rfl) (Nat.le_of_ble_eq_true rfl) dX3_readDigit_24
set_option maxRecDepth 20000 in
theorem tLX3_countSame_2 {f : aF} {g : aG} (hX : isX g) (i : Nat) (hi : i < 11) (P : Int32 → aS → Prop) (hR : f_R f = aR 4 0 0) (hC : aOK f g cX3_countSame 3 RX3) (hE : aEi f g .int P (fun _ _ => False) 0 0) {K : Int32 → aS → Prop} (hK : ∀ (w2 : Int32) (q : aS), K w2 q → AW f g 48 [none, none, some (.int w2)] [] q 0 0) : ∀ (N : Nat) (v2 : Int32) (q : aS), LX3_countSame_2 i P K N v2 q → AW f g 2 [some (.ref (gAd g 190)), some (.ref (gK g (20 + i))), some (.int v2)] [] q 0 0 := by
  intro N
  induction N with
  | zero =>
    intro v2 q h
    exact h.elim
  | succ N ih =>
    intro v2 q h
    unfold LX3_countSame_2 at h
    refine a_iload_n (pc := 2) hC dX3_countSame_2 rfl ?_
    refine a_aload_n (pc := 3) hC dX3_countSame_3 rfl ?_
    refine a_strlen (pc := 4) hX.toS hC hR hi tw_1039 rfl ⟨(Nat.le_of_ble_eq_true rfl), (Nat.le_of_ble_eq_true rfl), (Nat.le_of_ble_eq_true rfl)⟩ (Nat.le_of_ble_eq_true rfl) dX3_countSame_4 ?_
    refine a_icmp_ge (pc := 7) (tgt := 48) hC dX3_countSame_7 (by decide) (fun c => ?_) (fun c => ?_)
    · replace h := h.1 c
      exact (hK _ _ h).forget ⟨rfl, trivial⟩
    · replace h := h.2 c
      refine a_aload_n (pc := 10) hC dX3_countSame_10 rfl ?_
      refine a_get (pc := 11) hC cl_X3 (oX_190 hX) 6 (by decide) tw_225 rfl dX3_countSame_11 ?_
      refine a_iload_n (pc := 14) hC dX3_countSame_14 rfl ?_
      refine a_iadd (pc := 15) hC dX3_countSame_15 ?_
      refine a_aload_n (pc := 16) hC dX3_countSame_16 rfl ?_
      refine a_get (pc := 17) hC cl_X3 (oX_190 hX) 1 (by decide) tw_215 rfl dX3_countSame_17 ?_
      refine a_icmp_ge (pc := 20) (tgt := 48) hC dX3_countSame_20 (by decide) (fun c => ?_) (fun c => ?_)
      · replace h := h.1 c
        exact (hK _ _ h).forget ⟨rfl, trivial⟩
      · replace h := h.2 c
        refine a_aload_n (pc := 23) hC dX3_countSame_23 rfl ?_
        refine a_get (pc := 24) hC cl_X3 (oX_190 hX) 0 (by decide) tw_213 rfl dX3_countSame_24 ?_
        refine a_aload_n (pc := 27) hC dX3_countSame_27 rfl ?_
        refine a_get (pc := 28) hC cl_X3 (oX_190 hX) 6 (by decide) tw_225 rfl dX3_countSame_28 ?_
        refine a_iload_n (pc := 31) hC dX3_countSame_31 rfl ?_
        refine a_iadd (pc := 32) hC dX3_countSame_32 ?_
        refine a_cald (pc := 33) hC (oX_191 hX) h.1 dX3_countSame_33 ?_
        replace h := h.2
        refine a_aload_n (pc := 34) hC dX3_countSame_34 rfl ?_
        refine a_iload_n (pc := 35) hC dX3_countSame_35 rfl ?_
        refine a_strchr (pc := 36) hX.toS hC hR hi tw_1048 rfl ⟨(Nat.le_of_ble_eq_true rfl), (Nat.le_of_ble_eq_true rfl), (Nat.le_of_ble_eq_true rfl)⟩ (Nat.le_of_ble_eq_true rfl) h.1 dX3_countSame_36 ?_
        replace h := h.2
        refine a_icmp_ne (pc := 39) (tgt := 48) hC dX3_countSame_39 (by decide) (fun c => ?_) (fun c => ?_)
        · replace h := h.1 c
          exact (hK _ _ h).forget ⟨rfl, trivial⟩
        · replace h := h.2 c
          refine a_iinc (pc := 42) hC dX3_countSame_42 rfl (c := 1) rfl ?_
          replace h := h _ rfl
          refine a_goto (pc := 45) (tgt := 2) hC dX3_countSame_45 (by decide) ?_
          exact (ih _ _ h).forget ⟨rfl, rfl, rfl, trivial⟩
set_option maxRecDepth 20000 in
theorem t_X3_countSame {l : Launch} {g : aG} (hX : isX g) (i : Nat) (hi : i < 11) (hl : l.stackTraces = false) (q : aS) (P : Int32 → aS → Prop) (h : w_X3_countSame i q P) : aMi l g yX3_countSame (aWs yX3_countSame cX3_countSame 3 (some .int)) 4 0 0 [.ref (gAd g 190), .ref (gK g (20 + i))] q P (fun _ _ => False) := by
  refine aMi_of RX3 ⟨by decide +kernel, rfl⟩ (cat_all rfl) (Nat.le_of_ble_eq_true rfl) hl hX.cl (fun f hR hC hE => ?_)
  show AW f g 0 [some (.ref (gAd g 190)), some (.ref (gK g (20 + i))), none] [] q 0 0
  unfold w_X3_countSame at h
  refine a_iconst (pc := 0) hC dX3_countSame_0 (v := 0) rfl ?_
  refine a_istore_n (pc := 1) hC dX3_countSame_1 (Nat.le_of_ble_eq_true rfl) ?_
  obtain ⟨N, h⟩ := h
  refine (tLX3_countSame_2 hX i hi P hR hC hE (fun y2 q3 h => ?_) N _ _ h).forget ⟨rfl, rfl, rfl, trivial⟩
  refine a_iload_n (pc := 48) hC dX3_countSame_48 rfl ?_
  exact a_iret (pc := 49) hC hE h (Nat.le_of_ble_eq_true rfl) (Nat.le_of_ble_eq_true rfl) dX3_countSame_49
set_option maxRecDepth 20000 in
theorem tLX3_longestStart_4 {f : aF} {g : aG} (hX : isX g) (P : Int32 → aS → Prop) (hR : f_R f = aR 5 0 0) (hC : aOK f g cX3_longestStart 3 RX3) (hE : aEi f g .int P (fun _ _ => False) 0 0) {K : Int32 → aS → Prop} (hK : ∀ (w1 : Int32) (q : aS), K w1 q → AW f g 35 [none, some (.int w1), none] [] q 0 0) : ∀ (N : Nat) (v1 : Int32) (v2 : Int32) (q : aS), LX3_longestStart_4 P K N v1 v2 q → AW f g 4 [some (.ref (gAd g 190)), some (.int v1), some (.int v2)] [] q 0 0 := by
  intro N
  induction N with
  | zero =>
    intro v1 v2 q h
    exact h.elim
  | succ N ih =>
    intro v1 v2 q h
    unfold LX3_longestStart_4 at h
    refine a_iload_n (pc := 4) hC dX3_longestStart_4 rfl ?_
    refine a_kinds (pc := 5) hX hC dX3_longestStart_5 ?_
    refine a_kindsl (pc := 8) hX hC dX3_longestStart_8 ?_
    refine a_icmp_ge (pc := 9) (tgt := 35) hC dX3_longestStart_9 (by decide) (fun c => ?_) (fun c => ?_)
    · replace h := h.1 c
      exact (hK _ _ h).forget ⟨rfl, trivial⟩
    · replace h := h.2 c
      refine a_iload_n (pc := 12) hC dX3_longestStart_12 rfl ?_
      refine a_aload_n (pc := 13) hC dX3_longestStart_13 rfl ?_
      refine a_kinds (pc := 14) hX hC dX3_longestStart_14 ?_
      refine a_iload_n (pc := 17) hC dX3_longestStart_17 rfl ?_
      refine a_kindsi (pc := 18) hX hC h.1 dX3_longestStart_18 ?_
      have hp1 := row_lt h.1
      replace h := h.2
      refine a_kword (pc := 19) hX hC hp1 tw_1988 dX3_longestStart_19 ?_
      refine a_callV (pc := 22) hC hR vm_X3_countSame tw_1035 cl_X3 (oX_190 hX) ⟨(Nat.le_of_ble_eq_true rfl), (Nat.le_of_ble_eq_true rfl), (Nat.le_of_ble_eq_true rfl), (Nat.le_of_ble_eq_true rfl)⟩ dX3_longestStart_22 (t_X3_countSame hX _ (Nat.lt_succ_of_lt hp1) hC.tr _ _ h) rfl rfl rfl (Nat.le_of_ble_eq_true rfl) (fun r2 q3 h => ?_)
      refine a_mmax (pc := 25) hC hR ⟨(Nat.le_of_ble_eq_true rfl), (Nat.le_of_ble_eq_true rfl), (Nat.le_of_ble_eq_true rfl)⟩ rfl tw_1106 tw_368 tw_24 tw_369 (Nat.le_of_ble_eq_true rfl) dX3_longestStart_25 ?_
      refine a_istore_n (pc := 28) hC dX3_longestStart_28 (Nat.le_of_ble_eq_true rfl) ?_
      replace h := h _ rfl
      refine a_iinc (pc := 29) hC dX3_longestStart_29 rfl (c := 1) rfl ?_
      replace h := h _ rfl
      refine a_goto (pc := 32) (tgt := 4) hC dX3_longestStart_32 (by decide) ?_
      exact (ih _ _ _ h).forget ⟨rfl, rfl, rfl, trivial⟩
set_option maxRecDepth 20000 in
theorem t_X3_longestStart {l : Launch} {g : aG} (hX : isX g) (hl : l.stackTraces = false) (q : aS) (P : Int32 → aS → Prop) (h : w_X3_longestStart q P) : aMi l g yX3_longestStart (aWs yX3_longestStart cX3_longestStart 3 (some .int)) 5 0 0 [.ref (gAd g 190)] q P (fun _ _ => False) := by
  refine aMi_of RX3 ⟨by decide +kernel, rfl⟩ (cat_all rfl) (Nat.le_of_ble_eq_true rfl) hl hX.cl (fun f hR hC hE => ?_)
  show AW f g 0 [some (.ref (gAd g 190)), none, none] [] q 0 0
  unfold w_X3_longestStart at h
  refine a_iconst (pc := 0) hC dX3_longestStart_0 (v := 0) rfl ?_
  refine a_istore_n (pc := 1) hC dX3_longestStart_1 (Nat.le_of_ble_eq_true rfl) ?_
  refine a_iconst (pc := 2) hC dX3_longestStart_2 (v := 0) rfl ?_
  refine a_istore_n (pc := 3) hC dX3_longestStart_3 (Nat.le_of_ble_eq_true rfl) ?_
  obtain ⟨N, h⟩ := h
  refine (tLX3_longestStart_4 hX P hR hC hE (fun y6 q7 h => ?_) N _ _ _ h).forget ⟨rfl, rfl, rfl, trivial⟩
  refine a_iload_n (pc := 35) hC dX3_longestStart_35 rfl ?_
  exact a_iret (pc := 36) hC hE h (Nat.le_of_ble_eq_true rfl) (Nat.le_of_ble_eq_true rfl) dX3_longestStart_36
set_option maxRecDepth 20000 in
theorem tJX3_readsNumbers_31 {f : aF} {g : aG} (hX : isX g) (kd : Nat) (r : Nat) (hkd : kd < 10) (hr : r < 10) (P : Int32 → aS → Prop) (hR : f_R f = aR 1 0 0) (hC : aOK f g cX3_readsNumbers 4 RX3) (hE : aEi f g .boolean (fun r u => (r = 0 ∨ r = 1) ∧ P r u) (fun _ _ => False) 0 0) (j3 : Int32) (B : Int32 → aS → Prop) (K : aS → Prop) (hB : ∀ (w3 : Int32) (q : aS), B w3 q → AW f g 2 [some (.ref (gAd g 190)), some (.ref (gK g kd)), some (.ref (gAd g (194 + r))), some (.int w3)] [] q 0 0) (hK : ∀ (q : aS), K q → AW f g 92 [none, none, none, none] [] q 0 0) (q : aS) (h : JX3_readsNumbers_31 kd r j3 P B K q) : AW f g 31 [some (.ref (gAd g 190)), some (.ref (gK g kd)), some (.ref (gAd g (194 + r))), some (.int j3)] [] q 0 0 := by
  unfold JX3_readsNumbers_31 at h
  refine a_aload_n (pc := 31) hC dX3_readsNumbers_31 rfl ?_
  refine a_callV (pc := 32) hC hR vm_X3_isAtDigit tw_1094 cl_X3 (oX_190 hX) ⟨(Nat.le_of_ble_eq_true rfl), (Nat.le_of_ble_eq_true rfl), (Nat.le_of_ble_eq_true rfl), (Nat.le_of_ble_eq_true rfl)⟩ dX3_readsNumbers_32 (t_X3_isAtDigit hX hC.tr _ _ h) rfl rfl rfl (Nat.le_of_ble_eq_true rfl) (fun r1 q2 h => ?_)
  have z_r1 := h.1
  replace h := h.2
  refine a_if_ne (pc := 35) (tgt := 40) hC dX3_readsNumbers_35 (by decide) (fun c => ?_) (fun c => ?_)
  · replace h := h.1 c
    refine a_aload_n (pc := 40) hC dX3_readsNumbers_40 rfl ?_
    refine a_iload_n (pc := 41) hC dX3_readsNumbers_41 rfl ?_
    refine a_aload_n (pc := 42) hC dX3_readsNumbers_42 rfl ?_
    refine a_callV (pc := 43) hC hR vm_X3_readDigit tw_1098 cl_X3 (oX_190 hX) ⟨(Nat.le_of_ble_eq_true rfl), (Nat.le_of_ble_eq_true rfl), (Nat.le_of_ble_eq_true rfl), (Nat.le_of_ble_eq_true rfl)⟩ dX3_readsNumbers_43 (t_X3_readDigit hX hC.tr _ _ h) rfl rfl rfl (Nat.le_of_ble_eq_true rfl) (fun r3 q4 h => ?_)
    refine a_iast (pc := 46) hC (oX_row hX _ hr) h.1 dX3_readsNumbers_46 ?_
    replace h := h.2
    replace h := h _ rfl
    refine a_iload_n (pc := 47) hC dX3_readsNumbers_47 rfl ?_
    refine a_aload_n (pc := 48) hC dX3_readsNumbers_48 rfl ?_
    refine a_kget (pc := 49) hX hC hkd (p := eF[1]) (by decide) tw_1989 (v := kNum _) rfl dX3_readsNumbers_49 ?_
    refine a_iconst (pc := 52) hC dX3_readsNumbers_52 (v := 1) rfl ?_
    refine a_isub (pc := 53) hC dX3_readsNumbers_53 ?_
    refine a_icmp_ne (pc := 54) (tgt := 86) hC dX3_readsNumbers_54 (by decide) (fun c => ?_) (fun c => ?_)
    · replace h := h.1 c
      refine a_iinc (pc := 86) hC dX3_readsNumbers_86 rfl (c := 1) rfl ?_
      replace h := h _ rfl
      refine a_goto (pc := 89) (tgt := 2) hC dX3_readsNumbers_89 (by decide) ?_
      exact (hB _ _ h).forget ⟨rfl, rfl, rfl, rfl, trivial⟩
    · replace h := h.2 c
      refine a_aload_n (pc := 57) hC dX3_readsNumbers_57 rfl ?_
      refine a_kget (pc := 58) hX hC hkd (p := eF[2]) (by decide) tw_1990 (v := kDig _) rfl dX3_readsNumbers_58 ?_
      refine a_iconst (pc := 61) hC dX3_readsNumbers_61 (v := 2) rfl ?_
      refine a_icmp_ne (pc := 62) (tgt := 86) hC dX3_readsNumbers_62 (by decide) (fun c => ?_) (fun c => ?_)
      · replace h := h.1 c
        refine a_iinc (pc := 86) hC dX3_readsNumbers_86 rfl (c := 1) rfl ?_
        replace h := h _ rfl
        refine a_goto (pc := 89) (tgt := 2) hC dX3_readsNumbers_89 (by decide) ?_
        exact (hB _ _ h).forget ⟨rfl, rfl, rfl, rfl, trivial⟩
      · replace h := h.2 c
        refine a_aload_n (pc := 65) hC dX3_readsNumbers_65 rfl ?_
        refine a_callV (pc := 66) hC hR vm_X3_isAtDigit tw_1094 cl_X3 (oX_190 hX) ⟨(Nat.le_of_ble_eq_true rfl), (Nat.le_of_ble_eq_true rfl), (Nat.le_of_ble_eq_true rfl), (Nat.le_of_ble_eq_true rfl)⟩ dX3_readsNumbers_66 (t_X3_isAtDigit hX hC.tr _ _ h) rfl rfl rfl (Nat.le_of_ble_eq_true rfl) (fun r8 q9 h => ?_)
        have z_r8 := h.1
        replace h := h.2
        refine a_if_eq (pc := 69) (tgt := 86) hC dX3_readsNumbers_69 (by decide) (fun c => ?_) (fun c => ?_)
        · replace h := h.1 c
          refine a_iinc (pc := 86) hC dX3_readsNumbers_86 rfl (c := 1) rfl ?_
          replace h := h _ rfl
          refine a_goto (pc := 89) (tgt := 2) hC dX3_readsNumbers_89 (by decide) ?_
          exact (hB _ _ h).forget ⟨rfl, rfl, rfl, rfl, trivial⟩
        · replace h := h.2 c
          refine a_aload_n (pc := 72) hC dX3_readsNumbers_72 rfl ?_
          refine a_iload_n (pc := 73) hC dX3_readsNumbers_73 rfl ?_
          refine a_bipush (pc := 74) hC dX3_readsNumbers_74 (v := 10) rfl ?_
          refine a_aload_n (pc := 76) hC dX3_readsNumbers_76 rfl ?_
          refine a_iload_n (pc := 77) hC dX3_readsNumbers_77 rfl ?_
          refine a_iald (pc := 78) hC (oX_row hX _ hr) h.1 dX3_readsNumbers_78 ?_
          replace h := h.2
          refine a_imul (pc := 79) hC dX3_readsNumbers_79 ?_
          refine a_aload_n (pc := 80) hC dX3_readsNumbers_80 rfl ?_
          refine a_callV (pc := 81) hC hR vm_X3_readDigit tw_1098 cl_X3 (oX_190 hX) ⟨(Nat.le_of_ble_eq_true rfl), (Nat.le_of_ble_eq_true rfl), (Nat.le_of_ble_eq_true rfl), (Nat.le_of_ble_eq_true rfl)⟩ dX3_readsNumbers_81 (t_X3_readDigit hX hC.tr _ _ h) rfl rfl rfl (Nat.le_of_ble_eq_true rfl) (fun r11 q12 h => ?_)
          refine a_iadd (pc := 84) hC dX3_readsNumbers_84 ?_
          refine a_iast (pc := 85) hC (oX_row hX _ hr) h.1 dX3_readsNumbers_85 ?_
          replace h := h.2
          replace h := h _ rfl
          refine a_iinc (pc := 86) hC dX3_readsNumbers_86 rfl (c := 1) rfl ?_
          replace h := h _ rfl
          refine a_goto (pc := 89) (tgt := 2) hC dX3_readsNumbers_89 (by decide) ?_
          exact (hB _ _ h).forget ⟨rfl, rfl, rfl, rfl, trivial⟩
  · replace h := h.2 c
    refine a_iconst (pc := 38) hC dX3_readsNumbers_38 (v := 0) rfl ?_
    exact a_bret (pc := 39) hC hE (Or.inl rfl) h (Nat.le_of_ble_eq_true rfl) (Nat.le_of_ble_eq_true rfl) dX3_readsNumbers_39
set_option maxRecDepth 20000 in
theorem tLX3_readsNumbers_2 {f : aF} {g : aG} (hX : isX g) (kd : Nat) (r : Nat) (hkd : kd < 10) (hr : r < 10) (P : Int32 → aS → Prop) (hR : f_R f = aR 1 0 0) (hC : aOK f g cX3_readsNumbers 4 RX3) (hE : aEi f g .boolean (fun r u => (r = 0 ∨ r = 1) ∧ P r u) (fun _ _ => False) 0 0) {K : aS → Prop} (hK : ∀ (q : aS), K q → AW f g 92 [none, none, none, none] [] q 0 0) : ∀ (N : Nat) (v3 : Int32) (q : aS), LX3_readsNumbers_2 kd r P K N v3 q → AW f g 2 [some (.ref (gAd g 190)), some (.ref (gK g kd)), some (.ref (gAd g (194 + r))), some (.int v3)] [] q 0 0 := by
  intro N
  induction N with
  | zero =>
    intro v3 q h
    exact h.elim
  | succ N ih =>
    intro v3 q h
    unfold LX3_readsNumbers_2 at h
    refine a_iload_n (pc := 2) hC dX3_readsNumbers_2 rfl ?_
    refine a_aload_n (pc := 3) hC dX3_readsNumbers_3 rfl ?_
    refine a_kget (pc := 4) hX hC hkd (p := eF[1]) (by decide) tw_1989 (v := kNum _) rfl dX3_readsNumbers_4 ?_
    refine a_icmp_ge (pc := 7) (tgt := 92) hC dX3_readsNumbers_7 (by decide) (fun c => ?_) (fun c => ?_)
    · replace h := h.1 c
      exact (hK _ h).forget trivial
    · replace h := h.2 c
      refine a_iload_n (pc := 10) hC dX3_readsNumbers_10 rfl ?_
      refine a_aload_n (pc := 11) hC dX3_readsNumbers_11 rfl ?_
      refine a_alen (pc := 12) hC (oX_row hX _ hr) (v := 3) rfl dX3_readsNumbers_12 ?_
      refine a_icmp_ge (pc := 13) (tgt := 92) hC dX3_readsNumbers_13 (by decide) (fun c => ?_) (fun c => ?_)
      · replace h := h.1 c
        exact (hK _ h).forget trivial
      · replace h := h.2 c
        refine a_iload_n (pc := 16) hC dX3_readsNumbers_16 rfl ?_
        refine a_if_le (pc := 17) (tgt := 31) hC dX3_readsNumbers_17 (by decide) (fun c => ?_) (fun c => ?_)
        · replace h := h.1 c
          exact (tJX3_readsNumbers_31 hX kd r hkd hr P hR hC hE _ _ _ ih hK _ h).forget ⟨rfl, rfl, rfl, rfl, trivial⟩
        · replace h := h.2 c
          refine a_aload_n (pc := 20) hC dX3_readsNumbers_20 rfl ?_
          refine a_bipush (pc := 21) hC dX3_readsNumbers_21 (v := 32) rfl ?_
          refine a_callV (pc := 23) hC hR vm_X3_readsSign tw_1090 cl_X3 (oX_190 hX) ⟨(Nat.le_of_ble_eq_true rfl), (Nat.le_of_ble_eq_true rfl), (Nat.le_of_ble_eq_true rfl), (Nat.le_of_ble_eq_true rfl)⟩ dX3_readsNumbers_23 (t_X3_readsSign hX hC.tr _ _ _ h) rfl rfl rfl (Nat.le_of_ble_eq_true rfl) (fun r15 q16 h => ?_)
          have z_r15 := h.1
          replace h := h.2
          refine a_if_ne (pc := 26) (tgt := 31) hC dX3_readsNumbers_26 (by decide) (fun c => ?_) (fun c => ?_)
          · replace h := h.1 c
            exact (tJX3_readsNumbers_31 hX kd r hkd hr P hR hC hE _ _ _ ih hK _ h).forget ⟨rfl, rfl, rfl, rfl, trivial⟩
          · replace h := h.2 c
            refine a_iconst (pc := 29) hC dX3_readsNumbers_29 (v := 0) rfl ?_
            exact a_bret (pc := 30) hC hE (Or.inl rfl) h (Nat.le_of_ble_eq_true rfl) (Nat.le_of_ble_eq_true rfl) dX3_readsNumbers_30
set_option maxRecDepth 20000 in
theorem t_X3_readsNumbers {l : Launch} {g : aG} (hX : isX g) (kd : Nat) (r : Nat) (hkd : kd < 10) (hr : r < 10) (hl : l.stackTraces = false) (q : aS) (P : Int32 → aS → Prop) (h : w_X3_readsNumbers kd r q P) : aMi l g yX3_readsNumbers (aWs yX3_readsNumbers cX3_readsNumbers 4 (some .boolean)) 1 0 0 [.ref (gAd g 190), .ref (gK g kd), .ref (gAd g (194 + r))] q (fun r u => (r = 0 ∨ r = 1) ∧ P r u) (fun _ _ => False) := by
  refine aMi_of RX3 ⟨by decide +kernel, rfl⟩ (cat_all rfl) (Nat.le_of_ble_eq_true rfl) hl hX.cl (fun f hR hC hE => ?_)
  show AW f g 0 [some (.ref (gAd g 190)), some (.ref (gK g kd)), some (.ref (gAd g (194 + r))), none] [] q 0 0
  unfold w_X3_readsNumbers at h
  refine a_iconst (pc := 0) hC dX3_readsNumbers_0 (v := 0) rfl ?_
  refine a_istore_n (pc := 1) hC dX3_readsNumbers_1 (Nat.le_of_ble_eq_true rfl) ?_
  obtain ⟨N, h⟩ := h
  refine (tLX3_readsNumbers_2 hX kd r hkd hr P hR hC hE (fun q17 h => ?_) N _ _ h).forget ⟨rfl, rfl, rfl, rfl, trivial⟩
  refine a_iconst (pc := 92) hC dX3_readsNumbers_92 (v := 1) rfl ?_
  exact a_bret (pc := 93) hC hE (Or.inr rfl) h (Nat.le_of_ble_eq_true rfl) (Nat.le_of_ble_eq_true rfl) dX3_readsNumbers_93
set_option maxRecDepth 20000 in
theorem tLX3_readsOrder_2 {f : aF} {g : aG} (hX : isX g) (P : Int32 → aS → Prop) (hR : f_R f = aR 6 0 0) (hC : aOK f g cX3_readsOrder 4 RX3) (hE : aEi f g .boolean (fun r u => (r = 0 ∨ r = 1) ∧ P r u) (fun _ _ => False) 0 0) (c1 : Int32) {K : aS → Prop} (hK : ∀ (q : aS), K q → AW f g 75 [some (.ref (gAd g 190)), none, none, none] [] q 0 0) : ∀ (N : Nat) (v2 : Int32) (q : aS), LX3_readsOrder_2 c1 P K N v2 q → AW f g 2 [some (.ref (gAd g 190)), some (.int c1), some (.int v2), none] [] q 0 0 := by
  intro N
  induction N with
  | zero =>
    intro v2 q h
    exact h.elim
  | succ N ih =>
    intro v2 q h
    unfold LX3_readsOrder_2 at h
    refine a_iload_n (pc := 2) hC dX3_readsOrder_2 rfl ?_
    refine a_kinds (pc := 3) hX hC dX3_readsOrder_3 ?_
    refine a_kindsl (pc := 6) hX hC dX3_readsOrder_6 ?_
    refine a_icmp_ge (pc := 7) (tgt := 75) hC dX3_readsOrder_7 (by decide) (fun c => ?_) (fun c => ?_)
    · replace h := h.1 c
      exact (hK _ h).forget ⟨rfl, trivial⟩
    · replace h := h.2 c
      refine a_kinds (pc := 10) hX hC dX3_readsOrder_10 ?_
      refine a_iload_n (pc := 13) hC dX3_readsOrder_13 rfl ?_
      refine a_kindsi (pc := 14) hX hC h.1 dX3_readsOrder_14 ?_
      have hp2 := row_lt h.1
      replace h := h.2
      refine a_astore_n (pc := 15) hC dX3_readsOrder_15 (Nat.le_of_ble_eq_true rfl) ?_
      refine a_aload_n (pc := 16) hC dX3_readsOrder_16 rfl ?_
      refine a_aload_n (pc := 17) hC dX3_readsOrder_17 rfl ?_
      refine a_kword (pc := 18) hX hC hp2 tw_1988 dX3_readsOrder_18 ?_
      refine a_callV (pc := 21) hC hR vm_X3_countSame tw_1035 cl_X3 (oX_190 hX) ⟨(Nat.le_of_ble_eq_true rfl), (Nat.le_of_ble_eq_true rfl), (Nat.le_of_ble_eq_true rfl), (Nat.le_of_ble_eq_true rfl)⟩ dX3_readsOrder_21 (t_X3_countSame hX _ (Nat.lt_succ_of_lt hp2) hC.tr _ _ h) rfl rfl rfl (Nat.le_of_ble_eq_true rfl) (fun r3 q4 h => ?_)
      refine a_aload_n (pc := 24) hC dX3_readsOrder_24 rfl ?_
      refine a_kword (pc := 25) hX hC hp2 tw_1988 dX3_readsOrder_25 ?_
      refine a_strlen (pc := 28) hX.toS hC hR (Nat.lt_succ_of_lt hp2) tw_1039 rfl ⟨(Nat.le_of_ble_eq_true rfl), (Nat.le_of_ble_eq_true rfl), (Nat.le_of_ble_eq_true rfl)⟩ (Nat.le_of_ble_eq_true rfl) dX3_readsOrder_28 ?_
      refine a_icmp_ne (pc := 31) (tgt := 69) hC dX3_readsOrder_31 (by decide) (fun c => ?_) (fun c => ?_)
      · replace h := h.1 c
        refine a_iinc (pc := 69) hC dX3_readsOrder_69 rfl (c := 1) rfl ?_
        replace h := h _ rfl
        refine a_goto (pc := 72) (tgt := 2) hC dX3_readsOrder_72 (by decide) ?_
        exact (ih _ _ h).forget ⟨rfl, rfl, rfl, trivial⟩
      · replace h := h.2 c
        refine a_aload_n (pc := 34) hC dX3_readsOrder_34 rfl ?_
        refine a_dup (pc := 35) hC dX3_readsOrder_35 rfl ?_
        refine a_get (pc := 36) hC cl_X3 (oX_190 hX) 6 (by decide) tw_225 rfl dX3_readsOrder_36 ?_
        refine a_aload_n (pc := 39) hC dX3_readsOrder_39 rfl ?_
        refine a_kword (pc := 40) hX hC hp2 tw_1988 dX3_readsOrder_40 ?_
        refine a_strlen (pc := 43) hX.toS hC hR (Nat.lt_succ_of_lt hp2) tw_1039 rfl ⟨(Nat.le_of_ble_eq_true rfl), (Nat.le_of_ble_eq_true rfl), (Nat.le_of_ble_eq_true rfl)⟩ (Nat.le_of_ble_eq_true rfl) dX3_readsOrder_43 ?_
        refine a_iadd (pc := 46) hC dX3_readsOrder_46 ?_
        refine a_put (pc := 47) hC cl_X3 (oX_190 hX) 6 (by decide) tw_225 tyX3 tyX3_ok rfl rfl rfl (Nat.le_of_ble_eq_true rfl) rfl dX3_readsOrder_47 ?_
        replace h := h _ rfl
        refine a_aload_n (pc := 50) hC dX3_readsOrder_50 rfl ?_
        refine a_get (pc := 51) hC cl_X3 (oX_190 hX) 4 (by decide) tw_221 rfl dX3_readsOrder_51 ?_
        refine a_iload_n (pc := 54) hC dX3_readsOrder_54 rfl ?_
        refine a_aload_n (pc := 55) hC dX3_readsOrder_55 rfl ?_
        refine a_aastk (pc := 56) hX hC hp2 h.1 dX3_readsOrder_56 ?_
        replace h := h.2
        replace h := h _ rfl
        refine a_aload_n (pc := 57) hC dX3_readsOrder_57 rfl ?_
        refine a_aload_n (pc := 58) hC dX3_readsOrder_58 rfl ?_
        refine a_aload_n (pc := 59) hC dX3_readsOrder_59 rfl ?_
        refine a_get (pc := 60) hC cl_X3 (oX_190 hX) 5 (by decide) tw_223 rfl dX3_readsOrder_60 ?_
        refine a_iload_n (pc := 63) hC dX3_readsOrder_63 rfl ?_
        refine a_aald (pc := 64) hC (oX_193 hX) rfl h.1 rfl dX3_readsOrder_64 ?_
        have hp8 := row_lt h.1
        replace h := h.2
        refine a_callV (pc := 65) hC hR vm_X3_readsNumbers tw_1086 cl_X3 (oX_190 hX) ⟨(Nat.le_of_ble_eq_true rfl), (Nat.le_of_ble_eq_true rfl), (Nat.le_of_ble_eq_true rfl), (Nat.le_of_ble_eq_true rfl)⟩ dX3_readsOrder_65 (t_X3_readsNumbers hX _ _ hp2 hp8 hC.tr _ _ h) rfl rfl rfl (Nat.le_of_ble_eq_true rfl) (fun r9 q10 h => ?_)
        have z_r9 := h.1
        replace h := h.2
        exact a_bret (pc := 68) hC hE z_r9 h (Nat.le_of_ble_eq_true rfl) (Nat.le_of_ble_eq_true rfl) dX3_readsOrder_68
set_option maxRecDepth 20000 in
theorem t_X3_readsOrder {l : Launch} {g : aG} (hX : isX g) (hl : l.stackTraces = false) (x1 : Int32) (q : aS) (P : Int32 → aS → Prop) (h : w_X3_readsOrder x1 q P) : aMi l g yX3_readsOrder (aWs yX3_readsOrder cX3_readsOrder 4 (some .boolean)) 6 0 0 [.ref (gAd g 190), .int x1] q (fun r u => (r = 0 ∨ r = 1) ∧ P r u) (fun _ _ => False) := by
  refine aMi_of RX3 ⟨by decide +kernel, rfl⟩ (cat_all rfl) (Nat.le_of_ble_eq_true rfl) hl hX.cl (fun f hR hC hE => ?_)
  show AW f g 0 [some (.ref (gAd g 190)), some (.int x1), none, none] [] q 0 0
  unfold w_X3_readsOrder at h
  refine a_iconst (pc := 0) hC dX3_readsOrder_0 (v := 0) rfl ?_
  refine a_istore_n (pc := 1) hC dX3_readsOrder_1 (Nat.le_of_ble_eq_true rfl) ?_
  obtain ⟨N, h⟩ := h
  refine (tLX3_readsOrder_2 hX P hR hC hE _ (fun q11 h => ?_) N _ _ h).forget ⟨rfl, rfl, rfl, trivial⟩
  refine a_aload_n (pc := 75) hC dX3_readsOrder_75 rfl ?_
  refine a_dup (pc := 76) hC dX3_readsOrder_76 rfl ?_
  refine a_get (pc := 77) hC cl_X3 (oX_190 hX) 6 (by decide) tw_225 rfl dX3_readsOrder_77 ?_
  refine a_aload_n (pc := 80) hC dX3_readsOrder_80 rfl ?_
  refine a_callV (pc := 81) hC hR vm_X3_longestStart tw_1102 cl_X3 (oX_190 hX) ⟨(Nat.le_of_ble_eq_true rfl), (Nat.le_of_ble_eq_true rfl), (Nat.le_of_ble_eq_true rfl), (Nat.le_of_ble_eq_true rfl)⟩ dX3_readsOrder_81 (t_X3_longestStart hX hC.tr _ _ h) rfl rfl rfl (Nat.le_of_ble_eq_true rfl) (fun r12 q13 h => ?_)
  refine a_iadd (pc := 84) hC dX3_readsOrder_84 ?_
  refine a_put (pc := 85) hC cl_X3 (oX_190 hX) 6 (by decide) tw_225 tyX3 tyX3_ok rfl rfl rfl (Nat.le_of_ble_eq_true rfl) rfl dX3_readsOrder_85 ?_
  replace h := h _ rfl
  refine a_iconst (pc := 88) hC dX3_readsOrder_88 (v := 0) rfl ?_
  exact a_bret (pc := 89) hC hE (Or.inl rfl) h (Nat.le_of_ble_eq_true rfl) (Nat.le_of_ble_eq_true rfl) dX3_readsOrder_89
set_option maxRecDepth 20000 in
theorem tLX3_readAll_15 {f : aF} {g : aG} (hX : isX g) (P : Int32 → aS → Prop) (hR : f_R f = aR 7 0 0) (hC : aOK f g cX3_readAll 1 RX3) (hE : aEv f g P (fun _ _ => False) 0 0) {K : aS → Prop} (hK : ∀ (q : aS), K q → AW f g 66 [some (.ref (gAd g 190))] [] q 0 0) : ∀ (N : Nat) (q : aS), LX3_readAll_15 P K N q → AW f g 15 [some (.ref (gAd g 190))] [] q 0 0 := by
  intro N
  induction N with
  | zero =>
    intro q h
    exact h.elim
  | succ N ih =>
    intro q h
    unfold LX3_readAll_15 at h
    refine a_aload_n (pc := 15) hC dX3_readAll_15 rfl ?_
    refine a_get (pc := 16) hC cl_X3 (oX_190 hX) 3 (by decide) tw_219 rfl dX3_readAll_16 ?_
    refine a_bipush (pc := 19) hC dX3_readAll_19 (v := 10) rfl ?_
    refine a_icmp_ge (pc := 21) (tgt := 69) hC dX3_readAll_21 (by decide) (fun c => ?_) (fun c => ?_)
    · replace h := h.1 c
      refine a_aload_n (pc := 69) hC dX3_readAll_69 rfl ?_
      refine a_aload_n (pc := 70) hC dX3_readAll_70 rfl ?_
      refine a_get (pc := 71) hC cl_X3 (oX_190 hX) 6 (by decide) tw_225 rfl dX3_readAll_71 ?_
      refine a_put (pc := 74) hC cl_X3 (oX_190 hX) 2 (by decide) tw_217 tyX3 tyX3_ok rfl rfl rfl (Nat.le_of_ble_eq_true rfl) rfl dX3_readAll_74 ?_
      replace h := h _ rfl
      exact a_vret (pc := 77) hC hE h (Nat.le_of_ble_eq_true rfl) (Nat.le_of_ble_eq_true rfl) dX3_readAll_77
    · replace h := h.2 c
      refine a_aload_n (pc := 24) hC dX3_readAll_24 rfl ?_
      refine a_aload_n (pc := 25) hC dX3_readAll_25 rfl ?_
      refine a_get (pc := 26) hC cl_X3 (oX_190 hX) 3 (by decide) tw_219 rfl dX3_readAll_26 ?_
      refine a_callV (pc := 29) hC hR vm_X3_readsOrder tw_1029 cl_X3 (oX_190 hX) ⟨(Nat.le_of_ble_eq_true rfl), (Nat.le_of_ble_eq_true rfl), (Nat.le_of_ble_eq_true rfl), (Nat.le_of_ble_eq_true rfl)⟩ dX3_readAll_29 (t_X3_readsOrder hX hC.tr _ _ _ h) rfl rfl rfl (Nat.le_of_ble_eq_true rfl) (fun r5 q6 h => ?_)
      have z_r5 := h.1
      replace h := h.2
      refine a_if_eq (pc := 32) (tgt := 69) hC dX3_readAll_32 (by decide) (fun c => ?_) (fun c => ?_)
      · replace h := h.1 c
        refine a_aload_n (pc := 69) hC dX3_readAll_69 rfl ?_
        refine a_aload_n (pc := 70) hC dX3_readAll_70 rfl ?_
        refine a_get (pc := 71) hC cl_X3 (oX_190 hX) 6 (by decide) tw_225 rfl dX3_readAll_71 ?_
        refine a_put (pc := 74) hC cl_X3 (oX_190 hX) 2 (by decide) tw_217 tyX3 tyX3_ok rfl rfl rfl (Nat.le_of_ble_eq_true rfl) rfl dX3_readAll_74 ?_
        replace h := h _ rfl
        exact a_vret (pc := 77) hC hE h (Nat.le_of_ble_eq_true rfl) (Nat.le_of_ble_eq_true rfl) dX3_readAll_77
      · replace h := h.2 c
        refine a_aload_n (pc := 35) hC dX3_readAll_35 rfl ?_
        refine a_dup (pc := 36) hC dX3_readAll_36 rfl ?_
        refine a_get (pc := 37) hC cl_X3 (oX_190 hX) 3 (by decide) tw_219 rfl dX3_readAll_37 ?_
        refine a_iconst (pc := 40) hC dX3_readAll_40 (v := 1) rfl ?_
        refine a_iadd (pc := 41) hC dX3_readAll_41 ?_
        refine a_put (pc := 42) hC cl_X3 (oX_190 hX) 3 (by decide) tw_219 tyX3 tyX3_ok rfl rfl rfl (Nat.le_of_ble_eq_true rfl) rfl dX3_readAll_42 ?_
        replace h := h _ rfl
        refine a_aload_n (pc := 45) hC dX3_readAll_45 rfl ?_
        refine a_get (pc := 46) hC cl_X3 (oX_190 hX) 6 (by decide) tw_225 rfl dX3_readAll_46 ?_
        refine a_aload_n (pc := 49) hC dX3_readAll_49 rfl ?_
        refine a_get (pc := 50) hC cl_X3 (oX_190 hX) 1 (by decide) tw_215 rfl dX3_readAll_50 ?_
        refine a_icmp_lt (pc := 53) (tgt := 57) hC dX3_readAll_53 (by decide) (fun c => ?_) (fun c => ?_)
        · replace h := h.1 c
          refine a_aload_n (pc := 57) hC dX3_readAll_57 rfl ?_
          refine a_bipush (pc := 58) hC dX3_readAll_58 (v := 59) rfl ?_
          refine a_callV (pc := 60) hC hR vm_X3_readsSign tw_1090 cl_X3 (oX_190 hX) ⟨(Nat.le_of_ble_eq_true rfl), (Nat.le_of_ble_eq_true rfl), (Nat.le_of_ble_eq_true rfl), (Nat.le_of_ble_eq_true rfl)⟩ dX3_readAll_60 (t_X3_readsSign hX hC.tr _ _ _ h) rfl rfl rfl (Nat.le_of_ble_eq_true rfl) (fun r9 q10 h => ?_)
          have z_r9 := h.1
          replace h := h.2
          refine a_if_ne (pc := 63) (tgt := 15) hC dX3_readAll_63 (by decide) (fun c => ?_) (fun c => ?_)
          · replace h := h.1 c
            exact (ih _ h).forget ⟨rfl, trivial⟩
          · replace h := h.2 c
            exact (hK _ h).forget ⟨rfl, trivial⟩
        · replace h := h.2 c
          exact a_vret (pc := 56) hC hE h (Nat.le_of_ble_eq_true rfl) (Nat.le_of_ble_eq_true rfl) dX3_readAll_56
set_option maxRecDepth 20000 in
theorem t_X3_readAll {l : Launch} {g : aG} (hX : isX g) (hl : l.stackTraces = false) (q : aS) (P : Int32 → aS → Prop) (h : w_X3_readAll q P) : aMv l g yX3_readAll (aWs yX3_readAll cX3_readAll 1 none) 7 0 0 [.ref (gAd g 190)] q P (fun _ _ => False) := by
  refine aMv_of RX3 ⟨by decide +kernel, rfl⟩ (cat_all rfl) (Nat.le_of_ble_eq_true rfl) hl hX.cl (fun f hR hC hE => ?_)
  show AW f g 0 [some (.ref (gAd g 190))] [] q 0 0
  unfold w_X3_readAll at h
  refine a_aload_n (pc := 0) hC dX3_readAll_0 rfl ?_
  refine a_iconst (pc := 1) hC dX3_readAll_1 (v := 0) rfl ?_
  refine a_put (pc := 2) hC cl_X3 (oX_190 hX) 6 (by decide) tw_225 tyX3 tyX3_ok rfl rfl rfl (Nat.le_of_ble_eq_true rfl) rfl dX3_readAll_2 ?_
  replace h := h _ rfl
  refine a_aload_n (pc := 5) hC dX3_readAll_5 rfl ?_
  refine a_iconst (pc := 6) hC dX3_readAll_6 (v := 0) rfl ?_
  refine a_put (pc := 7) hC cl_X3 (oX_190 hX) 3 (by decide) tw_219 tyX3 tyX3_ok rfl rfl rfl (Nat.le_of_ble_eq_true rfl) rfl dX3_readAll_7 ?_
  replace h := h _ rfl
  refine a_aload_n (pc := 10) hC dX3_readAll_10 rfl ?_
  refine a_iconst (pc := 11) hC dX3_readAll_11 (v := (-1)) rfl ?_
  refine a_put (pc := 12) hC cl_X3 (oX_190 hX) 2 (by decide) tw_217 tyX3 tyX3_ok rfl rfl rfl (Nat.le_of_ble_eq_true rfl) rfl dX3_readAll_12 ?_
  replace h := h _ rfl
  obtain ⟨N, h⟩ := h
  refine (tLX3_readAll_15 hX P hR hC hE (fun q11 h => ?_) N _ h).forget ⟨rfl, trivial⟩
  refine a_goto (pc := 66) (tgt := 69) hC dX3_readAll_66 (by decide) ?_
  refine a_aload_n (pc := 69) hC dX3_readAll_69 rfl ?_
  refine a_aload_n (pc := 70) hC dX3_readAll_70 rfl ?_
  refine a_get (pc := 71) hC cl_X3 (oX_190 hX) 6 (by decide) tw_225 rfl dX3_readAll_71 ?_
  refine a_put (pc := 74) hC cl_X3 (oX_190 hX) 2 (by decide) tw_217 tyX3 tyX3_ok rfl rfl rfl (Nat.le_of_ble_eq_true rfl) rfl dX3_readAll_74 ?_
  replace h := h _ rfl
  exact a_vret (pc := 77) hC hE h (Nat.le_of_ble_eq_true rfl) (Nat.le_of_ble_eq_true rfl) dX3_readAll_77
set_option maxRecDepth 20000 in
theorem tLX9_doesAllOrders_13 {f : aF} {g : aG} (hX : isX g) (P : Int32 → aS → Prop) (hR : f_R f = aR 6 0 0) (hC : aOK f g cX9_doesAllOrders 3 RX9) (hE : aEi f g .boolean (fun r u => (r = 0 ∨ r = 1) ∧ P r u) (fun _ _ => False) 0 0) {K : aS → Prop} (hK : ∀ (q : aS), K q → AW f g 111 [some (.ref (gAd g 0)), none, none] [] q 0 0) : ∀ (N : Nat) (v1 : Int32) (q : aS), LX9_doesAllOrders_13 P K N v1 q → AW f g 13 [some (.ref (gAd g 0)), some (.int v1), none] [] q 0 0 := by
  intro N
  induction N with
  | zero =>
    intro v1 q h
    exact h.elim
  | succ N ih =>
    intro v1 q h
    unfold LX9_doesAllOrders_13 at h
    refine a_iload_n (pc := 13) hC dX9_doesAllOrders_13 rfl ?_
    refine a_aload_n (pc := 14) hC dX9_doesAllOrders_14 rfl ?_
    refine a_get (pc := 15) hC cl_X9 (oX_0 hX) 5 (by decide) tw_311 rfl dX9_doesAllOrders_15 ?_
    refine a_get (pc := 18) hC cl_X3 (oX_190 hX) 3 (by decide) tw_220 rfl dX9_doesAllOrders_18 ?_
    refine a_icmp_ge (pc := 21) (tgt := 111) hC dX9_doesAllOrders_21 (by decide) (fun c => ?_) (fun c => ?_)
    · replace h := h.1 c
      exact (hK _ h).forget ⟨rfl, trivial⟩
    · replace h := h.2 c
      refine a_aload_n (pc := 24) hC dX9_doesAllOrders_24 rfl ?_
      refine a_get (pc := 25) hC cl_X9 (oX_0 hX) 5 (by decide) tw_311 rfl dX9_doesAllOrders_25 ?_
      refine a_get (pc := 28) hC cl_X3 (oX_190 hX) 5 (by decide) tw_224 rfl dX9_doesAllOrders_28 ?_
      refine a_iload_n (pc := 31) hC dX9_doesAllOrders_31 rfl ?_
      refine a_aald (pc := 32) hC (oX_193 hX) rfl h.1 rfl dX9_doesAllOrders_32 ?_
      have hp3 := row_lt h.1
      replace h := h.2
      refine a_astore_n (pc := 33) hC dX9_doesAllOrders_33 (Nat.le_of_ble_eq_true rfl) ?_
      refine a_aload_n (pc := 34) hC dX9_doesAllOrders_34 rfl ?_
      refine a_aload_n (pc := 35) hC dX9_doesAllOrders_35 rfl ?_
      refine a_get (pc := 36) hC cl_X9 (oX_0 hX) 5 (by decide) tw_311 rfl dX9_doesAllOrders_36 ?_
      refine a_get (pc := 39) hC cl_X3 (oX_190 hX) 4 (by decide) tw_222 rfl dX9_doesAllOrders_39 ?_
      refine a_iload_n (pc := 42) hC dX9_doesAllOrders_42 rfl ?_
      refine a_aald (pc := 43) hC (oX_192 hX) rfl h.1 rfl dX9_doesAllOrders_43 ?_
      have hp4 := h.2.1
      replace h := h.2.2
      refine a_aload_n (pc := 44) hC dX9_doesAllOrders_44 rfl ?_
      refine a_iconst (pc := 45) hC dX9_doesAllOrders_45 (v := 0) rfl ?_
      refine a_iald (pc := 46) hC (oX_row hX _ hp3) h.1 dX9_doesAllOrders_46 ?_
      replace h := h.2
      refine a_aload_n (pc := 47) hC dX9_doesAllOrders_47 rfl ?_
      refine a_iconst (pc := 48) hC dX9_doesAllOrders_48 (v := 1) rfl ?_
      refine a_iald (pc := 49) hC (oX_row hX _ hp3) h.1 dX9_doesAllOrders_49 ?_
      replace h := h.2
      refine a_aload_n (pc := 50) hC dX9_doesAllOrders_50 rfl ?_
      refine a_iconst (pc := 51) hC dX9_doesAllOrders_51 (v := 2) rfl ?_
      refine a_iald (pc := 52) hC (oX_row hX _ hp3) h.1 dX9_doesAllOrders_52 ?_
      replace h := h.2
      refine a_callV (pc := 53) hC hR vm_X9_isRefused tw_446 cl_X9 (oX_0 hX) ⟨(Nat.le_of_ble_eq_true rfl), (Nat.le_of_ble_eq_true rfl), (Nat.le_of_ble_eq_true rfl), (Nat.le_of_ble_eq_true rfl)⟩ dX9_doesAllOrders_53 (t_X9_isRefused hX _ hp4 hC.tr _ _ _ _ _ h) rfl rfl rfl (Nat.le_of_ble_eq_true rfl) (fun r5 q6 h => ?_)
      have z_r5 := h.1
      replace h := h.2
      refine a_if_eq (pc := 56) (tgt := 82) hC dX9_doesAllOrders_56 (by decide) (fun c => ?_) (fun c => ?_)
      · replace h := h.1 c
        refine a_aload_n (pc := 82) hC dX9_doesAllOrders_82 rfl ?_
        refine a_aload_n (pc := 83) hC dX9_doesAllOrders_83 rfl ?_
        refine a_get (pc := 84) hC cl_X9 (oX_0 hX) 5 (by decide) tw_311 rfl dX9_doesAllOrders_84 ?_
        refine a_get (pc := 87) hC cl_X3 (oX_190 hX) 4 (by decide) tw_222 rfl dX9_doesAllOrders_87 ?_
        refine a_iload_n (pc := 90) hC dX9_doesAllOrders_90 rfl ?_
        refine a_aald (pc := 91) hC (oX_192 hX) rfl h.1 rfl dX9_doesAllOrders_91 ?_
        have hp7 := h.2.1
        replace h := h.2.2
        refine a_aload_n (pc := 92) hC dX9_doesAllOrders_92 rfl ?_
        refine a_iconst (pc := 93) hC dX9_doesAllOrders_93 (v := 0) rfl ?_
        refine a_iald (pc := 94) hC (oX_row hX _ hp3) h.1 dX9_doesAllOrders_94 ?_
        replace h := h.2
        refine a_aload_n (pc := 95) hC dX9_doesAllOrders_95 rfl ?_
        refine a_iconst (pc := 96) hC dX9_doesAllOrders_96 (v := 1) rfl ?_
        refine a_iald (pc := 97) hC (oX_row hX _ hp3) h.1 dX9_doesAllOrders_97 ?_
        replace h := h.2
        refine a_aload_n (pc := 98) hC dX9_doesAllOrders_98 rfl ?_
        refine a_iconst (pc := 99) hC dX9_doesAllOrders_99 (v := 2) rfl ?_
        refine a_iald (pc := 100) hC (oX_row hX _ hp3) h.1 dX9_doesAllOrders_100 ?_
        replace h := h.2
        refine a_callV (pc := 101) hC hR vm_X9_doOrder tw_614 cl_X9 (oX_0 hX) ⟨(Nat.le_of_ble_eq_true rfl), (Nat.le_of_ble_eq_true rfl), (Nat.le_of_ble_eq_true rfl), (Nat.le_of_ble_eq_true rfl)⟩ dX9_doesAllOrders_101 (t_X9_doOrder hX _ hp7 hC.tr _ _ _ _ _ h) rfl rfl rfl (Nat.le_of_ble_eq_true rfl) (fun r8 q9 h => ?_)
        refine a_pop (pc := 104) hC dX9_doesAllOrders_104 rfl ?_
        refine a_iinc (pc := 105) hC dX9_doesAllOrders_105 rfl (c := 1) rfl ?_
        replace h := h _ rfl
        refine a_goto (pc := 108) (tgt := 13) hC dX9_doesAllOrders_108 (by decide) ?_
        exact (ih _ _ h).forget ⟨rfl, rfl, trivial⟩
      · replace h := h.2 c
        refine a_aload_n (pc := 59) hC dX9_doesAllOrders_59 rfl ?_
        refine a_get (pc := 60) hC cl_X9 (oX_0 hX) 6 (by decide) tw_312 rfl dX9_doesAllOrders_60 ?_
        refine a_bipush (pc := 63) hC dX9_doesAllOrders_63 (v := 12) rfl ?_
        refine a_iload_n (pc := 65) hC dX9_doesAllOrders_65 rfl ?_
        refine a_callVv (pc := 66) hC hR vm_X5_putBehind tw_1112 cl_X5 (oX_204 hX) ⟨(Nat.le_of_ble_eq_true rfl), (Nat.le_of_ble_eq_true rfl), (Nat.le_of_ble_eq_true rfl), (Nat.le_of_ble_eq_true rfl)⟩ dX9_doesAllOrders_66 (t_X5_putBehind hX hC.tr _ _ _ _ h) rfl rfl rfl (Nat.le_of_ble_eq_true rfl) (fun q12 h => ?_)
        refine a_aload_n (pc := 69) hC dX9_doesAllOrders_69 rfl ?_
        refine a_get (pc := 70) hC cl_X9 (oX_0 hX) 0 (by decide) tw_306 rfl dX9_doesAllOrders_70 ?_
        refine a_aload_n (pc := 73) hC dX9_doesAllOrders_73 rfl ?_
        refine a_get (pc := 74) hC cl_X9 (oX_0 hX) 1 (by decide) tw_307 rfl dX9_doesAllOrders_74 ?_
        refine a_callVv (pc := 77) hC hR vm_X8_copyFrom tw_431 cl_X8 (oX_1 hX) ⟨(Nat.le_of_ble_eq_true rfl), (Nat.le_of_ble_eq_true rfl), (Nat.le_of_ble_eq_true rfl), (Nat.le_of_ble_eq_true rfl)⟩ dX9_doesAllOrders_77 (t_X8_copyFrom hX _ _ (Or.inl rfl) (Or.inr (Or.inl rfl)) hC.tr _ _ h) rfl rfl rfl (Nat.le_of_ble_eq_true rfl) (fun q14 h => ?_)
        refine a_iconst (pc := 80) hC dX9_doesAllOrders_80 (v := 0) rfl ?_
        exact a_bret (pc := 81) hC hE (Or.inl rfl) h (Nat.le_of_ble_eq_true rfl) (Nat.le_of_ble_eq_true rfl) dX9_doesAllOrders_81
set_option maxRecDepth 20000 in
theorem t_X9_doesAllOrders {l : Launch} {g : aG} (hX : isX g) (hl : l.stackTraces = false) (q : aS) (P : Int32 → aS → Prop) (h : w_X9_doesAllOrders q P) : aMi l g yX9_doesAllOrders (aWs yX9_doesAllOrders cX9_doesAllOrders 3 (some .boolean)) 6 0 0 [.ref (gAd g 0)] q (fun r u => (r = 0 ∨ r = 1) ∧ P r u) (fun _ _ => False) := by
  refine aMi_of RX9 ⟨by decide +kernel, rfl⟩ (cat_all rfl) (Nat.le_of_ble_eq_true rfl) hl hX.cl (fun f hR hC hE => ?_)
  show AW f g 0 [some (.ref (gAd g 0)), none, none] [] q 0 0
  unfold w_X9_doesAllOrders at h
  refine a_aload_n (pc := 0) hC dX9_doesAllOrders_0 rfl ?_
  refine a_get (pc := 1) hC cl_X9 (oX_0 hX) 1 (by decide) tw_307 rfl dX9_doesAllOrders_1 ?_
  refine a_aload_n (pc := 4) hC dX9_doesAllOrders_4 rfl ?_
  refine a_get (pc := 5) hC cl_X9 (oX_0 hX) 0 (by decide) tw_306 rfl dX9_doesAllOrders_5 ?_
  refine a_callVv (pc := 8) hC hR vm_X8_copyFrom tw_431 cl_X8 (oB_0 hX (Or.inr (Or.inl rfl))) ⟨(Nat.le_of_ble_eq_true rfl), (Nat.le_of_ble_eq_true rfl), (Nat.le_of_ble_eq_true rfl), (Nat.le_of_ble_eq_true rfl)⟩ dX9_doesAllOrders_8 (t_X8_copyFrom hX _ _ (Or.inr (Or.inl rfl)) (Or.inl rfl) hC.tr _ _ h) rfl rfl rfl (Nat.le_of_ble_eq_true rfl) (fun q2 h => ?_)
  refine a_iconst (pc := 11) hC dX9_doesAllOrders_11 (v := 0) rfl ?_
  refine a_istore_n (pc := 12) hC dX9_doesAllOrders_12 (Nat.le_of_ble_eq_true rfl) ?_
  obtain ⟨N, h⟩ := h
  refine (tLX9_doesAllOrders_13 hX P hR hC hE (fun q15 h => ?_) N _ _ h).forget ⟨rfl, rfl, trivial⟩
  refine a_aload_n (pc := 111) hC dX9_doesAllOrders_111 rfl ?_
  refine a_get (pc := 112) hC cl_X9 (oX_0 hX) 4 (by decide) tw_310 rfl dX9_doesAllOrders_112 ?_
  refine a_aload_n (pc := 115) hC dX9_doesAllOrders_115 rfl ?_
  refine a_get (pc := 116) hC cl_X9 (oX_0 hX) 1 (by decide) tw_307 rfl dX9_doesAllOrders_116 ?_
  refine a_callVv (pc := 119) hC hR vm_X4_keep tw_335 cl_X4 (oX_52 hX) ⟨(Nat.le_of_ble_eq_true rfl), (Nat.le_of_ble_eq_true rfl), (Nat.le_of_ble_eq_true rfl), (Nat.le_of_ble_eq_true rfl)⟩ dX9_doesAllOrders_119 (t_X4_keep hX _ (Or.inr (Or.inl rfl)) hC.tr _ _ h) rfl rfl rfl (Nat.le_of_ble_eq_true rfl) (fun q17 h => ?_)
  refine a_iconst (pc := 122) hC dX9_doesAllOrders_122 (v := 1) rfl ?_
  exact a_bret (pc := 123) hC hE (Or.inr rfl) h (Nat.le_of_ble_eq_true rfl) (Nat.le_of_ble_eq_true rfl) dX9_doesAllOrders_123
set_option maxRecDepth 20000 in
theorem t_X9_run {l : Launch} {g : aG} (hX : isX g) (hl : l.stackTraces = false) (q : aS) (P : Int32 → aS → Prop) (X : String → aS → Prop) (h : w_X9_run q P X) : aMi l g yX9_run (aWs yX9_run cX9_run 1 (some .int)) 8 1 6 [.ref (gAd g 0)] q P X := by
  refine aMi_of RX9 ⟨by decide +kernel, rfl⟩ (cat_all rfl) (Nat.le_of_ble_eq_true rfl) hl hX.cl (fun f hR hC hE => ?_)
  show AW f g 0 [some (.ref (gAd g 0))] [] q 0 0
  unfold w_X9_run at h
  refine a_aload_n (pc := 0) hC dX9_run_0 rfl ?_
  refine a_get (pc := 1) hC cl_X9 (oX_0 hX) 5 (by decide) tw_311 rfl dX9_run_1 ?_
  refine a_callVv (pc := 4) hC hR vm_X3_readAll tw_1025 cl_X3 (oX_190 hX) ⟨(Nat.le_of_ble_eq_true rfl), (Nat.le_of_ble_eq_true rfl), (Nat.le_of_ble_eq_true rfl), (Nat.le_of_ble_eq_true rfl)⟩ dX9_run_4 (t_X3_readAll hX hC.tr _ _ h) rfl rfl rfl (Nat.le_of_ble_eq_true rfl) (fun q2 h => ?_)
  refine a_aload_n (pc := 7) hC dX9_run_7 rfl ?_
  refine a_get (pc := 8) hC cl_X9 (oX_0 hX) 5 (by decide) tw_311 rfl dX9_run_8 ?_
  refine a_iconst (pc := 11) hC dX9_run_11 (v := 0) rfl ?_
  refine a_put (pc := 12) hC cl_X3 (oX_190 hX) 1 (by decide) tw_216 tyX3 tyX3_ok rfl rfl rfl (Nat.le_of_ble_eq_true rfl) rfl dX9_run_12 ?_
  replace h := h _ rfl
  refine a_aload_n (pc := 15) hC dX9_run_15 rfl ?_
  refine a_get (pc := 16) hC cl_X9 (oX_0 hX) 5 (by decide) tw_311 rfl dX9_run_16 ?_
  refine a_get (pc := 19) hC cl_X3 (oX_190 hX) 2 (by decide) tw_218 rfl dX9_run_19 ?_
  refine a_iconst (pc := 22) hC dX9_run_22 (v := (-1)) rfl ?_
  refine a_icmp_eq (pc := 23) (tgt := 37) hC dX9_run_23 (by decide) (fun c => ?_) (fun c => ?_)
  · replace h := h.1 c
    refine a_aload_n (pc := 37) hC dX9_run_37 rfl ?_
    refine a_callV (pc := 38) hC hR vm_X9_doesAllOrders tw_1108 cl_X9 (oX_0 hX) ⟨(Nat.le_of_ble_eq_true rfl), (Nat.le_of_ble_eq_true rfl), (Nat.le_of_ble_eq_true rfl), (Nat.le_of_ble_eq_true rfl)⟩ dX9_run_38 (t_X9_doesAllOrders hX hC.tr _ _ h) rfl rfl rfl (Nat.le_of_ble_eq_true rfl) (fun r4 q5 h => ?_)
    have z_r4 := h.1
    replace h := h.2
    refine a_if_ne (pc := 41) (tgt := 55) hC dX9_run_41 (by decide) (fun c => ?_) (fun c => ?_)
    · replace h := h.1 c
      refine a_aload_n (pc := 55) hC dX9_run_55 rfl ?_
      refine a_get (pc := 56) hC cl_X9 (oX_0 hX) 5 (by decide) tw_311 rfl dX9_run_56 ?_
      refine a_get (pc := 59) hC cl_X3 (oX_190 hX) 3 (by decide) tw_220 rfl dX9_run_59 ?_
      exact a_iret (pc := 62) hC hE h (Nat.le_of_ble_eq_true rfl) (Nat.le_of_ble_eq_true rfl) dX9_run_62
    · replace h := h.2 c
      exact a_throwW (pc := 44) hX hC hR hE.1 ex_294 mm_296 rfl ⟨(Nat.le_of_ble_eq_true rfl), (Nat.le_of_ble_eq_true rfl), (Nat.le_of_ble_eq_true rfl), (Nat.le_of_ble_eq_true rfl), (Nat.le_of_ble_eq_true rfl)⟩ (Nat.le_of_ble_eq_true rfl) dX9_run_44 dX9_run_47 dX9_run_48 dX9_run_51 dX9_run_54 h
  · replace h := h.2 c
    exact a_throwW (pc := 26) hX hC hR hE.1 ex_127 mm_288 rfl ⟨(Nat.le_of_ble_eq_true rfl), (Nat.le_of_ble_eq_true rfl), (Nat.le_of_ble_eq_true rfl), (Nat.le_of_ble_eq_true rfl), (Nat.le_of_ble_eq_true rfl)⟩ (Nat.le_of_ble_eq_true rfl) dX9_run_26 dX9_run_29 dX9_run_30 dX9_run_33 dX9_run_36 h
