theorem dX10_roomOf_0 : decode cX10_roomOf 0 = .ok (.aload_n 0, 1) := by decide +kernel
theorem dX10_roomOf_1 : decode cX10_roomOf 1 = .ok (.aload_n 0, 1) := by decide +kernel
theorem dX10_roomOf_2 : decode cX10_roomOf 2 = .ok (.iload_n 1, 1) := by decide +kernel
theorem dX10_roomOf_3 : decode cX10_roomOf 3 = .ok (.invokevirtual 119, 3) := by decide +kernel
theorem dX10_roomOf_6 : decode cX10_roomOf 6 = .ok (.iload_n 2, 1) := by decide +kernel
theorem dX10_roomOf_7 : decode cX10_roomOf 7 = .ok (.iconst 0, 1) := by decide +kernel
theorem dX10_roomOf_8 : decode cX10_roomOf 8 = .ok (.iconst 5, 1) := by decide +kernel
theorem dX10_roomOf_9 : decode cX10_roomOf 9 = .ok (.invokestatic 70, 3) := by decide +kernel
theorem dX10_roomOf_12 : decode cX10_roomOf 12 = .ok (.invokevirtual 74, 3) := by decide +kernel
theorem dX10_roomOf_15 : decode cX10_roomOf 15 = .ok (.ifCond .ne 5, 3) := by decide +kernel
theorem dX10_roomOf_18 : decode cX10_roomOf 18 = .ok (.iconst 0, 1) := by decide +kernel
theorem dX10_roomOf_19 : decode cX10_roomOf 19 = .ok (.ireturn, 1) := by decide +kernel
theorem dX10_roomOf_20 : decode cX10_roomOf 20 = .ok (.iload_n 2, 1) := by decide +kernel
theorem dX10_roomOf_21 : decode cX10_roomOf 21 = .ok (.tableswitch 83 0 4 #[35, 35, 47, 53, 63], 35) := by decide +kernel
theorem dX10_roomOf_56 : decode cX10_roomOf 56 = .ok (.aload_n 0, 1) := by decide +kernel
theorem dX10_roomOf_57 : decode cX10_roomOf 57 = .ok (.getfield 9, 3) := by decide +kernel
theorem dX10_roomOf_60 : decode cX10_roomOf 60 = .ok (.iload_n 1, 1) := by decide +kernel
theorem dX10_roomOf_61 : decode cX10_roomOf 61 = .ok (.invokestatic 97, 3) := by decide +kernel
theorem dX10_roomOf_64 : decode cX10_roomOf 64 = .ok (.iload_n 2, 1) := by decide +kernel
theorem dX10_roomOf_65 : decode cX10_roomOf 65 = .ok (.iadd, 1) := by decide +kernel
theorem dX10_roomOf_66 : decode cX10_roomOf 66 = .ok (.iaload, 1) := by decide +kernel
theorem dX10_roomOf_67 : decode cX10_roomOf 67 = .ok (.ireturn, 1) := by decide +kernel
theorem dX10_roomOf_68 : decode cX10_roomOf 68 = .ok (.aload_n 0, 1) := by decide +kernel
theorem dX10_roomOf_69 : decode cX10_roomOf 69 = .ok (.iload_n 1, 1) := by decide +kernel
theorem dX10_roomOf_70 : decode cX10_roomOf 70 = .ok (.invokevirtual 129, 3) := by decide +kernel
theorem dX10_roomOf_73 : decode cX10_roomOf 73 = .ok (.ireturn, 1) := by decide +kernel
theorem dX10_roomOf_74 : decode cX10_roomOf 74 = .ok (.aload_n 0, 1) := by decide +kernel
theorem dX10_roomOf_75 : decode cX10_roomOf 75 = .ok (.iload_n 1, 1) := by decide +kernel
theorem dX10_roomOf_76 : decode cX10_roomOf 76 = .ok (.iconst 0, 1) := by decide +kernel
theorem dX10_roomOf_77 : decode cX10_roomOf 77 = .ok (.invokevirtual 177, 3) := by decide +kernel
theorem dX10_roomOf_80 : decode cX10_roomOf 80 = .ok (.invokestatic 92, 3) := by decide +kernel
theorem dX10_roomOf_83 : decode cX10_roomOf 83 = .ok (.ireturn, 1) := by decide +kernel
theorem dX10_roomOf_84 : decode cX10_roomOf 84 = .ok (.aload_n 0, 1) := by decide +kernel
theorem dX10_roomOf_85 : decode cX10_roomOf 85 = .ok (.iload_n 1, 1) := by decide +kernel
theorem dX10_roomOf_86 : decode cX10_roomOf 86 = .ok (.iconst 0, 1) := by decide +kernel
theorem dX10_roomOf_87 : decode cX10_roomOf 87 = .ok (.invokevirtual 177, 3) := by decide +kernel
theorem dX10_roomOf_90 : decode cX10_roomOf 90 = .ok (.invokestatic 92, 3) := by decide +kernel
theorem dX10_roomOf_93 : decode cX10_roomOf 93 = .ok (.aload_n 0, 1) := by decide +kernel
theorem dX10_roomOf_94 : decode cX10_roomOf 94 = .ok (.iload_n 1, 1) := by decide +kernel
theorem dX10_roomOf_95 : decode cX10_roomOf 95 = .ok (.iconst 1, 1) := by decide +kernel
theorem dX10_roomOf_96 : decode cX10_roomOf 96 = .ok (.invokevirtual 177, 3) := by decide +kernel
theorem dX10_roomOf_99 : decode cX10_roomOf 99 = .ok (.invokestatic 92, 3) := by decide +kernel
theorem dX10_roomOf_102 : decode cX10_roomOf 102 = .ok (.isub, 1) := by decide +kernel
theorem dX10_roomOf_103 : decode cX10_roomOf 103 = .ok (.ireturn, 1) := by decide +kernel
theorem dX10_roomOf_104 : decode cX10_roomOf 104 = .ok (.aload_n 0, 1) := by decide +kernel
theorem dX10_roomOf_105 : decode cX10_roomOf 105 = .ok (.getfield 9, 3) := by decide +kernel
theorem dX10_roomOf_108 : decode cX10_roomOf 108 = .ok (.iload_n 1, 1) := by decide +kernel
theorem dX10_roomOf_109 : decode cX10_roomOf 109 = .ok (.invokestatic 97, 3) := by decide +kernel
theorem dX10_roomOf_112 : decode cX10_roomOf 112 = .ok (.iconst 2, 1) := by decide +kernel
theorem dX10_roomOf_113 : decode cX10_roomOf 113 = .ok (.iadd, 1) := by decide +kernel
theorem dX10_roomOf_114 : decode cX10_roomOf 114 = .ok (.iaload, 1) := by decide +kernel
theorem dX10_roomOf_115 : decode cX10_roomOf 115 = .ok (.ireturn, 1) := by decide +kernel
theorem vm_X10_roomOf : aVm yX10_roomOf RX10 cX10_roomOf 3 (some .int) 2 := ⟨tw_1755, tw_1753, tw_1754, tw_15, rfl, by decide +kernel, by decide +kernel, by decide +kernel⟩
theorem dX10_echoOf_0 : decode cX10_echoOf 0 = .ok (.aload_n 0, 1) := by decide +kernel
theorem dX10_echoOf_1 : decode cX10_echoOf 1 = .ok (.aload_n 0, 1) := by decide +kernel
theorem dX10_echoOf_2 : decode cX10_echoOf 2 = .ok (.iload_n 1, 1) := by decide +kernel
theorem dX10_echoOf_3 : decode cX10_echoOf 3 = .ok (.invokevirtual 145, 3) := by decide +kernel
theorem dX10_echoOf_6 : decode cX10_echoOf 6 = .ok (.iload_n 2, 1) := by decide +kernel
theorem dX10_echoOf_7 : decode cX10_echoOf 7 = .ok (.iconst 0, 1) := by decide +kernel
theorem dX10_echoOf_8 : decode cX10_echoOf 8 = .ok (.iconst 4, 1) := by decide +kernel
theorem dX10_echoOf_9 : decode cX10_echoOf 9 = .ok (.invokestatic 70, 3) := by decide +kernel
theorem dX10_echoOf_12 : decode cX10_echoOf 12 = .ok (.invokevirtual 74, 3) := by decide +kernel
theorem dX10_echoOf_15 : decode cX10_echoOf 15 = .ok (.ifCond .eq 17, 3) := by decide +kernel
theorem dX10_echoOf_18 : decode cX10_echoOf 18 = .ok (.aload_n 0, 1) := by decide +kernel
theorem dX10_echoOf_19 : decode cX10_echoOf 19 = .ok (.getfield 9, 3) := by decide +kernel
theorem dX10_echoOf_22 : decode cX10_echoOf 22 = .ok (.iload_n 1, 1) := by decide +kernel
theorem dX10_echoOf_23 : decode cX10_echoOf 23 = .ok (.invokestatic 86, 3) := by decide +kernel
theorem dX10_echoOf_26 : decode cX10_echoOf 26 = .ok (.iload_n 2, 1) := by decide +kernel
theorem dX10_echoOf_27 : decode cX10_echoOf 27 = .ok (.iadd, 1) := by decide +kernel
theorem dX10_echoOf_28 : decode cX10_echoOf 28 = .ok (.iaload, 1) := by decide +kernel
theorem dX10_echoOf_29 : decode cX10_echoOf 29 = .ok (.goto 4, 3) := by decide +kernel
theorem dX10_echoOf_32 : decode cX10_echoOf 32 = .ok (.iconst 0, 1) := by decide +kernel
theorem dX10_echoOf_33 : decode cX10_echoOf 33 = .ok (.ireturn, 1) := by decide +kernel
theorem vm_X10_echoOf : aVm yX10_echoOf RX10 cX10_echoOf 3 (some .int) 2 := ⟨tw_1763, tw_1761, tw_1762, tw_15, rfl, by decide +kernel, by decide +kernel, by decide +kernel⟩
theorem dX10_letTo_0 : decode cX10_letTo 0 = .ok (.iconst 0, 1) := by decide +kernel
theorem dX10_letTo_1 : decode cX10_letTo 1 = .ok (.istore_n 3, 1) := by decide +kernel
theorem dX10_letTo_2 : decode cX10_letTo 2 = .ok (.iconst 0, 1) := by decide +kernel
theorem dX10_letTo_3 : decode cX10_letTo 3 = .ok (.istore 4, 2) := by decide +kernel
theorem dX10_letTo_5 : decode cX10_letTo 5 = .ok (.iload 4, 2) := by decide +kernel
theorem dX10_letTo_7 : decode cX10_letTo 7 = .ok (.aload_n 0, 1) := by decide +kernel
theorem dX10_letTo_8 : decode cX10_letTo 8 = .ok (.getfield 9, 3) := by decide +kernel
theorem dX10_letTo_11 : decode cX10_letTo 11 = .ok (.iconst 1, 1) := by decide +kernel
theorem dX10_letTo_12 : decode cX10_letTo 12 = .ok (.iaload, 1) := by decide +kernel
theorem dX10_letTo_13 : decode cX10_letTo 13 = .ok (.if_icmp .ge 56, 3) := by decide +kernel
theorem dX10_letTo_16 : decode cX10_letTo 16 = .ok (.iload_n 2, 1) := by decide +kernel
theorem dX10_letTo_17 : decode cX10_letTo 17 = .ok (.ifCond .eq 18, 3) := by decide +kernel
theorem dX10_letTo_20 : decode cX10_letTo 20 = .ok (.aload_n 0, 1) := by decide +kernel
theorem dX10_letTo_21 : decode cX10_letTo 21 = .ok (.getfield 9, 3) := by decide +kernel
theorem dX10_letTo_24 : decode cX10_letTo 24 = .ok (.iload 4, 2) := by decide +kernel
theorem dX10_letTo_26 : decode cX10_letTo 26 = .ok (.invokestatic 86, 3) := by decide +kernel
theorem dX10_letTo_29 : decode cX10_letTo 29 = .ok (.iconst 1, 1) := by decide +kernel
theorem dX10_letTo_30 : decode cX10_letTo 30 = .ok (.iadd, 1) := by decide +kernel
theorem dX10_letTo_31 : decode cX10_letTo 31 = .ok (.iaload, 1) := by decide +kernel
theorem dX10_letTo_32 : decode cX10_letTo 32 = .ok (.goto 4, 3) := by decide +kernel
theorem dX10_letTo_35 : decode cX10_letTo 35 = .ok (.iconst 1, 1) := by decide +kernel
theorem dX10_letTo_36 : decode cX10_letTo 36 = .ok (.istore 5, 2) := by decide +kernel
theorem dX10_letTo_38 : decode cX10_letTo 38 = .ok (.iload_n 3, 1) := by decide +kernel
theorem dX10_letTo_39 : decode cX10_letTo 39 = .ok (.aload_n 0, 1) := by decide +kernel
theorem dX10_letTo_40 : decode cX10_letTo 40 = .ok (.getfield 9, 3) := by decide +kernel
theorem dX10_letTo_43 : decode cX10_letTo 43 = .ok (.iload 4, 2) := by decide +kernel
theorem dX10_letTo_45 : decode cX10_letTo 45 = .ok (.invokestatic 86, 3) := by decide +kernel
theorem dX10_letTo_48 : decode cX10_letTo 48 = .ok (.iconst 2, 1) := by decide +kernel
theorem dX10_letTo_49 : decode cX10_letTo 49 = .ok (.iadd, 1) := by decide +kernel
theorem dX10_letTo_50 : decode cX10_letTo 50 = .ok (.iaload, 1) := by decide +kernel
theorem dX10_letTo_51 : decode cX10_letTo 51 = .ok (.iload_n 1, 1) := by decide +kernel
theorem dX10_letTo_52 : decode cX10_letTo 52 = .ok (.if_icmp .ne 8, 3) := by decide +kernel
theorem dX10_letTo_55 : decode cX10_letTo 55 = .ok (.iload 5, 2) := by decide +kernel
theorem dX10_letTo_57 : decode cX10_letTo 57 = .ok (.goto 4, 3) := by decide +kernel
theorem dX10_letTo_60 : decode cX10_letTo 60 = .ok (.iconst 0, 1) := by decide +kernel
theorem dX10_letTo_61 : decode cX10_letTo 61 = .ok (.iadd, 1) := by decide +kernel
theorem dX10_letTo_62 : decode cX10_letTo 62 = .ok (.istore_n 3, 1) := by decide +kernel
theorem dX10_letTo_63 : decode cX10_letTo 63 = .ok (.iinc 4 1, 3) := by decide +kernel
theorem dX10_letTo_66 : decode cX10_letTo 66 = .ok (.goto (-61), 3) := by decide +kernel
theorem dX10_letTo_69 : decode cX10_letTo 69 = .ok (.iload_n 3, 1) := by decide +kernel
theorem dX10_letTo_70 : decode cX10_letTo 70 = .ok (.ireturn, 1) := by decide +kernel
theorem vm_X10_letTo : aVm yX10_letTo RX10 cX10_letTo 6 (some .int) 2 := ⟨tw_1771, tw_1770, List.mem_append_left _ (List.mem_of_getElem? (i := 53) (by decide +kernel)), tw_15, rfl, by decide +kernel, by decide +kernel, by decide +kernel⟩
theorem dX10_singerOf_0 : decode cX10_singerOf 0 = .ok (.aload_n 0, 1) := by decide +kernel
theorem dX10_singerOf_1 : decode cX10_singerOf 1 = .ok (.aload_n 0, 1) := by decide +kernel
theorem dX10_singerOf_2 : decode cX10_singerOf 2 = .ok (.iload_n 1, 1) := by decide +kernel
theorem dX10_singerOf_3 : decode cX10_singerOf 3 = .ok (.invokevirtual 132, 3) := by decide +kernel
theorem dX10_singerOf_6 : decode cX10_singerOf 6 = .ok (.iload_n 2, 1) := by decide +kernel
theorem dX10_singerOf_7 : decode cX10_singerOf 7 = .ok (.iconst 0, 1) := by decide +kernel
theorem dX10_singerOf_8 : decode cX10_singerOf 8 = .ok (.bipush 6, 2) := by decide +kernel
theorem dX10_singerOf_10 : decode cX10_singerOf 10 = .ok (.invokestatic 70, 3) := by decide +kernel
theorem dX10_singerOf_13 : decode cX10_singerOf 13 = .ok (.invokevirtual 74, 3) := by decide +kernel
theorem dX10_singerOf_16 : decode cX10_singerOf 16 = .ok (.ifCond .ne 5, 3) := by decide +kernel
theorem dX10_singerOf_19 : decode cX10_singerOf 19 = .ok (.iconst 0, 1) := by decide +kernel
theorem dX10_singerOf_20 : decode cX10_singerOf 20 = .ok (.ireturn, 1) := by decide +kernel
theorem dX10_singerOf_21 : decode cX10_singerOf 21 = .ok (.iload_n 1, 1) := by decide +kernel
theorem dX10_singerOf_22 : decode cX10_singerOf 22 = .ok (.invokestatic 82, 3) := by decide +kernel
theorem dX10_singerOf_25 : decode cX10_singerOf 25 = .ok (.istore_n 3, 1) := by decide +kernel
theorem dX10_singerOf_26 : decode cX10_singerOf 26 = .ok (.iload_n 2, 1) := by decide +kernel
theorem dX10_singerOf_27 : decode cX10_singerOf 27 = .ok (.tableswitch 71 0 5 #[37, 37, 37, 46, 53, 62], 37) := by decide +kernel
theorem dX10_singerOf_64 : decode cX10_singerOf 64 = .ok (.aload_n 0, 1) := by decide +kernel
theorem dX10_singerOf_65 : decode cX10_singerOf 65 = .ok (.getfield 9, 3) := by decide +kernel
theorem dX10_singerOf_68 : decode cX10_singerOf 68 = .ok (.iload_n 3, 1) := by decide +kernel
theorem dX10_singerOf_69 : decode cX10_singerOf 69 = .ok (.iload_n 2, 1) := by decide +kernel
theorem dX10_singerOf_70 : decode cX10_singerOf 70 = .ok (.iadd, 1) := by decide +kernel
theorem dX10_singerOf_71 : decode cX10_singerOf 71 = .ok (.iaload, 1) := by decide +kernel
theorem dX10_singerOf_72 : decode cX10_singerOf 72 = .ok (.ireturn, 1) := by decide +kernel
theorem dX10_singerOf_73 : decode cX10_singerOf 73 = .ok (.aload_n 0, 1) := by decide +kernel
theorem dX10_singerOf_74 : decode cX10_singerOf 74 = .ok (.iload_n 1, 1) := by decide +kernel
theorem dX10_singerOf_75 : decode cX10_singerOf 75 = .ok (.iconst 0, 1) := by decide +kernel
theorem dX10_singerOf_76 : decode cX10_singerOf 76 = .ok (.invokevirtual 181, 3) := by decide +kernel
theorem dX10_singerOf_79 : decode cX10_singerOf 79 = .ok (.ireturn, 1) := by decide +kernel
theorem dX10_singerOf_80 : decode cX10_singerOf 80 = .ok (.aload_n 0, 1) := by decide +kernel
theorem dX10_singerOf_81 : decode cX10_singerOf 81 = .ok (.getfield 9, 3) := by decide +kernel
theorem dX10_singerOf_84 : decode cX10_singerOf 84 = .ok (.iload_n 3, 1) := by decide +kernel
theorem dX10_singerOf_85 : decode cX10_singerOf 85 = .ok (.iconst 3, 1) := by decide +kernel
theorem dX10_singerOf_86 : decode cX10_singerOf 86 = .ok (.iadd, 1) := by decide +kernel
theorem dX10_singerOf_87 : decode cX10_singerOf 87 = .ok (.iaload, 1) := by decide +kernel
theorem dX10_singerOf_88 : decode cX10_singerOf 88 = .ok (.ireturn, 1) := by decide +kernel
theorem dX10_singerOf_89 : decode cX10_singerOf 89 = .ok (.aload_n 0, 1) := by decide +kernel
theorem dX10_singerOf_90 : decode cX10_singerOf 90 = .ok (.getfield 9, 3) := by decide +kernel
theorem dX10_singerOf_93 : decode cX10_singerOf 93 = .ok (.iload_n 3, 1) := by decide +kernel
theorem dX10_singerOf_94 : decode cX10_singerOf 94 = .ok (.iconst 4, 1) := by decide +kernel
theorem dX10_singerOf_95 : decode cX10_singerOf 95 = .ok (.iadd, 1) := by decide +kernel
theorem dX10_singerOf_96 : decode cX10_singerOf 96 = .ok (.iaload, 1) := by decide +kernel
theorem dX10_singerOf_97 : decode cX10_singerOf 97 = .ok (.ireturn, 1) := by decide +kernel
theorem dX10_singerOf_98 : decode cX10_singerOf 98 = .ok (.aload_n 0, 1) := by decide +kernel
theorem dX10_singerOf_99 : decode cX10_singerOf 99 = .ok (.iload_n 1, 1) := by decide +kernel
theorem dX10_singerOf_100 : decode cX10_singerOf 100 = .ok (.iconst 1, 1) := by decide +kernel
theorem dX10_singerOf_101 : decode cX10_singerOf 101 = .ok (.invokevirtual 181, 3) := by decide +kernel
theorem dX10_singerOf_104 : decode cX10_singerOf 104 = .ok (.ireturn, 1) := by decide +kernel
theorem vm_X10_singerOf : aVm yX10_singerOf RX10 cX10_singerOf 4 (some .int) 2 := ⟨tw_1767, tw_1765, tw_1766, tw_15, rfl, by decide +kernel, by decide +kernel, by decide +kernel⟩
theorem dX10_tonesIn_0 : decode cX10_tonesIn 0 = .ok (.iconst 0, 1) := by decide +kernel
theorem dX10_tonesIn_1 : decode cX10_tonesIn 1 = .ok (.istore 4, 2) := by decide +kernel
theorem dX10_tonesIn_3 : decode cX10_tonesIn 3 = .ok (.bipush 9, 2) := by decide +kernel
theorem dX10_tonesIn_5 : decode cX10_tonesIn 5 = .ok (.aload_n 0, 1) := by decide +kernel
theorem dX10_tonesIn_6 : decode cX10_tonesIn 6 = .ok (.getfield 9, 3) := by decide +kernel
theorem dX10_tonesIn_9 : decode cX10_tonesIn 9 = .ok (.iload_n 2, 1) := by decide +kernel
theorem dX10_tonesIn_10 : decode cX10_tonesIn 10 = .ok (.invokestatic 97, 3) := by decide +kernel
theorem dX10_tonesIn_13 : decode cX10_tonesIn 13 = .ok (.iconst 1, 1) := by decide +kernel
theorem dX10_tonesIn_14 : decode cX10_tonesIn 14 = .ok (.iadd, 1) := by decide +kernel
theorem dX10_tonesIn_15 : decode cX10_tonesIn 15 = .ok (.iaload, 1) := by decide +kernel
theorem dX10_tonesIn_16 : decode cX10_tonesIn 16 = .ok (.iload_n 3, 1) := by decide +kernel
theorem dX10_tonesIn_17 : decode cX10_tonesIn 17 = .ok (.iadd, 1) := by decide +kernel
theorem dX10_tonesIn_18 : decode cX10_tonesIn 18 = .ok (.invokestatic 161, 3) := by decide +kernel
theorem dX10_tonesIn_21 : decode cX10_tonesIn 21 = .ok (.istore 5, 2) := by decide +kernel
theorem dX10_tonesIn_23 : decode cX10_tonesIn 23 = .ok (.iconst 0, 1) := by decide +kernel
theorem dX10_tonesIn_24 : decode cX10_tonesIn 24 = .ok (.istore 6, 2) := by decide +kernel
theorem dX10_tonesIn_26 : decode cX10_tonesIn 26 = .ok (.iload 6, 2) := by decide +kernel
theorem dX10_tonesIn_28 : decode cX10_tonesIn 28 = .ok (.aload_n 0, 1) := by decide +kernel
theorem dX10_tonesIn_29 : decode cX10_tonesIn 29 = .ok (.getfield 9, 3) := by decide +kernel
theorem dX10_tonesIn_32 : decode cX10_tonesIn 32 = .ok (.iconst 1, 1) := by decide +kernel
theorem dX10_tonesIn_33 : decode cX10_tonesIn 33 = .ok (.iaload, 1) := by decide +kernel
theorem dX10_tonesIn_34 : decode cX10_tonesIn 34 = .ok (.if_icmp .ge 92, 3) := by decide +kernel
theorem dX10_tonesIn_37 : decode cX10_tonesIn 37 = .ok (.iload 6, 2) := by decide +kernel
theorem dX10_tonesIn_39 : decode cX10_tonesIn 39 = .ok (.invokestatic 86, 3) := by decide +kernel
theorem dX10_tonesIn_42 : decode cX10_tonesIn 42 = .ok (.istore 7, 2) := by decide +kernel
theorem dX10_tonesIn_44 : decode cX10_tonesIn 44 = .ok (.aload_n 0, 1) := by decide +kernel
theorem dX10_tonesIn_45 : decode cX10_tonesIn 45 = .ok (.getfield 9, 3) := by decide +kernel
theorem dX10_tonesIn_48 : decode cX10_tonesIn 48 = .ok (.iload 7, 2) := by decide +kernel
theorem dX10_tonesIn_50 : decode cX10_tonesIn 50 = .ok (.iconst 0, 1) := by decide +kernel
theorem dX10_tonesIn_51 : decode cX10_tonesIn 51 = .ok (.iadd, 1) := by decide +kernel
theorem dX10_tonesIn_52 : decode cX10_tonesIn 52 = .ok (.iaload, 1) := by decide +kernel
theorem dX10_tonesIn_53 : decode cX10_tonesIn 53 = .ok (.iload_n 2, 1) := by decide +kernel
theorem dX10_tonesIn_54 : decode cX10_tonesIn 54 = .ok (.if_icmp .ne 33, 3) := by decide +kernel
theorem dX10_tonesIn_57 : decode cX10_tonesIn 57 = .ok (.aload_n 0, 1) := by decide +kernel
theorem dX10_tonesIn_58 : decode cX10_tonesIn 58 = .ok (.getfield 9, 3) := by decide +kernel
theorem dX10_tonesIn_61 : decode cX10_tonesIn 61 = .ok (.iload 7, 2) := by decide +kernel
theorem dX10_tonesIn_63 : decode cX10_tonesIn 63 = .ok (.iconst 2, 1) := by decide +kernel
theorem dX10_tonesIn_64 : decode cX10_tonesIn 64 = .ok (.iadd, 1) := by decide +kernel
theorem dX10_tonesIn_65 : decode cX10_tonesIn 65 = .ok (.iaload, 1) := by decide +kernel
theorem dX10_tonesIn_66 : decode cX10_tonesIn 66 = .ok (.iload_n 1, 1) := by decide +kernel
theorem dX10_tonesIn_67 : decode cX10_tonesIn 67 = .ok (.if_icmp .ne 20, 3) := by decide +kernel
theorem dX10_tonesIn_70 : decode cX10_tonesIn 70 = .ok (.aload_n 0, 1) := by decide +kernel
theorem dX10_tonesIn_71 : decode cX10_tonesIn 71 = .ok (.getfield 9, 3) := by decide +kernel
theorem dX10_tonesIn_74 : decode cX10_tonesIn 74 = .ok (.iload 7, 2) := by decide +kernel
theorem dX10_tonesIn_76 : decode cX10_tonesIn 76 = .ok (.iconst 3, 1) := by decide +kernel
theorem dX10_tonesIn_77 : decode cX10_tonesIn 77 = .ok (.iadd, 1) := by decide +kernel
theorem dX10_tonesIn_78 : decode cX10_tonesIn 78 = .ok (.iaload, 1) := by decide +kernel
theorem dX10_tonesIn_79 : decode cX10_tonesIn 79 = .ok (.iload_n 3, 1) := by decide +kernel
theorem dX10_tonesIn_80 : decode cX10_tonesIn 80 = .ok (.if_icmp .le 7, 3) := by decide +kernel
theorem dX10_tonesIn_83 : decode cX10_tonesIn 83 = .ok (.iconst 1, 1) := by decide +kernel
theorem dX10_tonesIn_84 : decode cX10_tonesIn 84 = .ok (.goto 4, 3) := by decide +kernel
theorem dX10_tonesIn_87 : decode cX10_tonesIn 87 = .ok (.iconst 0, 1) := by decide +kernel
theorem dX10_tonesIn_88 : decode cX10_tonesIn 88 = .ok (.istore 8, 2) := by decide +kernel
theorem dX10_tonesIn_90 : decode cX10_tonesIn 90 = .ok (.iload 4, 2) := by decide +kernel
theorem dX10_tonesIn_92 : decode cX10_tonesIn 92 = .ok (.iload 8, 2) := by decide +kernel
theorem dX10_tonesIn_94 : decode cX10_tonesIn 94 = .ok (.ifCond .eq 22, 3) := by decide +kernel
theorem dX10_tonesIn_97 : decode cX10_tonesIn 97 = .ok (.iconst 0, 1) := by decide +kernel
theorem dX10_tonesIn_98 : decode cX10_tonesIn 98 = .ok (.aload_n 0, 1) := by decide +kernel
theorem dX10_tonesIn_99 : decode cX10_tonesIn 99 = .ok (.getfield 9, 3) := by decide +kernel
theorem dX10_tonesIn_102 : decode cX10_tonesIn 102 = .ok (.iload 7, 2) := by decide +kernel
theorem dX10_tonesIn_104 : decode cX10_tonesIn 104 = .ok (.iconst 1, 1) := by decide +kernel
theorem dX10_tonesIn_105 : decode cX10_tonesIn 105 = .ok (.iadd, 1) := by decide +kernel
theorem dX10_tonesIn_106 : decode cX10_tonesIn 106 = .ok (.iaload, 1) := by decide +kernel
theorem dX10_tonesIn_107 : decode cX10_tonesIn 107 = .ok (.iload 5, 2) := by decide +kernel
theorem dX10_tonesIn_109 : decode cX10_tonesIn 109 = .ok (.isub, 1) := by decide +kernel
theorem dX10_tonesIn_110 : decode cX10_tonesIn 110 = .ok (.invokestatic 100, 3) := by decide +kernel
theorem dX10_tonesIn_113 : decode cX10_tonesIn 113 = .ok (.goto 4, 3) := by decide +kernel
theorem dX10_tonesIn_116 : decode cX10_tonesIn 116 = .ok (.iconst 0, 1) := by decide +kernel
theorem dX10_tonesIn_117 : decode cX10_tonesIn 117 = .ok (.iadd, 1) := by decide +kernel
theorem dX10_tonesIn_118 : decode cX10_tonesIn 118 = .ok (.istore 4, 2) := by decide +kernel
theorem dX10_tonesIn_120 : decode cX10_tonesIn 120 = .ok (.iinc 6 1, 3) := by decide +kernel
theorem dX10_tonesIn_123 : decode cX10_tonesIn 123 = .ok (.goto (-97), 3) := by decide +kernel
theorem dX10_tonesIn_126 : decode cX10_tonesIn 126 = .ok (.iload 4, 2) := by decide +kernel
theorem dX10_tonesIn_128 : decode cX10_tonesIn 128 = .ok (.ireturn, 1) := by decide +kernel
theorem vm_X10_tonesIn : aVm yX10_tonesIn RX10 cX10_tonesIn 9 (some .int) 3 := ⟨tw_1787, tw_1786, List.mem_append_left _ (List.mem_of_getElem? (i := 56) (by decide +kernel)), tw_15, rfl, by decide +kernel, by decide +kernel, by decide +kernel⟩
theorem dX10_isInside_0 : decode cX10_isInside 0 = .ok (.aload_n 0, 1) := by decide +kernel
theorem dX10_isInside_1 : decode cX10_isInside 1 = .ok (.iload_n 1, 1) := by decide +kernel
theorem dX10_isInside_2 : decode cX10_isInside 2 = .ok (.invokevirtual 132, 3) := by decide +kernel
theorem dX10_isInside_5 : decode cX10_isInside 5 = .ok (.ifCond .eq 22, 3) := by decide +kernel
theorem dX10_isInside_8 : decode cX10_isInside 8 = .ok (.aload_n 0, 1) := by decide +kernel
theorem dX10_isInside_9 : decode cX10_isInside 9 = .ok (.getfield 9, 3) := by decide +kernel
theorem dX10_isInside_12 : decode cX10_isInside 12 = .ok (.iload_n 1, 1) := by decide +kernel
theorem dX10_isInside_13 : decode cX10_isInside 13 = .ok (.invokestatic 82, 3) := by decide +kernel
theorem dX10_isInside_16 : decode cX10_isInside 16 = .ok (.iconst 2, 1) := by decide +kernel
theorem dX10_isInside_17 : decode cX10_isInside 17 = .ok (.iadd, 1) := by decide +kernel
theorem dX10_isInside_18 : decode cX10_isInside 18 = .ok (.iaload, 1) := by decide +kernel
theorem dX10_isInside_19 : decode cX10_isInside 19 = .ok (.iconst (-1), 1) := by decide +kernel
theorem dX10_isInside_20 : decode cX10_isInside 20 = .ok (.if_icmp .eq 7, 3) := by decide +kernel
theorem dX10_isInside_23 : decode cX10_isInside 23 = .ok (.iconst 1, 1) := by decide +kernel
theorem dX10_isInside_24 : decode cX10_isInside 24 = .ok (.goto 4, 3) := by decide +kernel
theorem dX10_isInside_27 : decode cX10_isInside 27 = .ok (.iconst 0, 1) := by decide +kernel
theorem dX10_isInside_28 : decode cX10_isInside 28 = .ok (.ireturn, 1) := by decide +kernel
theorem vm_X10_isInside : aVm yX10_isInside RX10 cX10_isInside 2 (some .boolean) 1 := ⟨tw_1783, tw_1782, List.mem_append_left _ (List.mem_of_getElem? (i := 55) (by decide +kernel)), tw_15, rfl, by decide +kernel, by decide +kernel, by decide +kernel⟩
theorem dX10_tonesNow_0 : decode cX10_tonesNow 0 = .ok (.aload_n 0, 1) := by decide +kernel
theorem dX10_tonesNow_1 : decode cX10_tonesNow 1 = .ok (.aload_n 0, 1) := by decide +kernel
theorem dX10_tonesNow_2 : decode cX10_tonesNow 2 = .ok (.iload_n 1, 1) := by decide +kernel
theorem dX10_tonesNow_3 : decode cX10_tonesNow 3 = .ok (.invokevirtual 132, 3) := by decide +kernel
theorem dX10_tonesNow_6 : decode cX10_tonesNow 6 = .ok (.aload_n 0, 1) := by decide +kernel
theorem dX10_tonesNow_7 : decode cX10_tonesNow 7 = .ok (.iload_n 1, 1) := by decide +kernel
theorem dX10_tonesNow_8 : decode cX10_tonesNow 8 = .ok (.invokevirtual 184, 3) := by decide +kernel
theorem dX10_tonesNow_11 : decode cX10_tonesNow 11 = .ok (.invokevirtual 74, 3) := by decide +kernel
theorem dX10_tonesNow_14 : decode cX10_tonesNow 14 = .ok (.ifCond .eq 23, 3) := by decide +kernel
theorem dX10_tonesNow_17 : decode cX10_tonesNow 17 = .ok (.aload_n 0, 1) := by decide +kernel
theorem dX10_tonesNow_18 : decode cX10_tonesNow 18 = .ok (.iload_n 1, 1) := by decide +kernel
theorem dX10_tonesNow_19 : decode cX10_tonesNow 19 = .ok (.aload_n 0, 1) := by decide +kernel
theorem dX10_tonesNow_20 : decode cX10_tonesNow 20 = .ok (.getfield 9, 3) := by decide +kernel
theorem dX10_tonesNow_23 : decode cX10_tonesNow 23 = .ok (.iload_n 1, 1) := by decide +kernel
theorem dX10_tonesNow_24 : decode cX10_tonesNow 24 = .ok (.invokestatic 82, 3) := by decide +kernel
theorem dX10_tonesNow_27 : decode cX10_tonesNow 27 = .ok (.iconst 2, 1) := by decide +kernel
theorem dX10_tonesNow_28 : decode cX10_tonesNow 28 = .ok (.iadd, 1) := by decide +kernel
theorem dX10_tonesNow_29 : decode cX10_tonesNow 29 = .ok (.iaload, 1) := by decide +kernel
theorem dX10_tonesNow_30 : decode cX10_tonesNow 30 = .ok (.iconst 0, 1) := by decide +kernel
theorem dX10_tonesNow_31 : decode cX10_tonesNow 31 = .ok (.invokevirtual 187, 3) := by decide +kernel
theorem dX10_tonesNow_34 : decode cX10_tonesNow 34 = .ok (.goto 4, 3) := by decide +kernel
theorem dX10_tonesNow_37 : decode cX10_tonesNow 37 = .ok (.iconst 0, 1) := by decide +kernel
theorem dX10_tonesNow_38 : decode cX10_tonesNow 38 = .ok (.ireturn, 1) := by decide +kernel
theorem vm_X10_tonesNow : aVm yX10_tonesNow RX10 cX10_tonesNow 2 (some .int) 1 := ⟨tw_1779, tw_1778, List.mem_append_left _ (List.mem_of_getElem? (i := 54) (by decide +kernel)), tw_15, rfl, by decide +kernel, by decide +kernel, by decide +kernel⟩
theorem dX10_tones_0 : decode cX10_tones 0 = .ok (.aload_n 0, 1) := by decide +kernel
theorem dX10_tones_1 : decode cX10_tones 1 = .ok (.iload_n 1, 1) := by decide +kernel
theorem dX10_tones_2 : decode cX10_tones 2 = .ok (.invokevirtual 190, 3) := by decide +kernel
theorem dX10_tones_5 : decode cX10_tones 5 = .ok (.ireturn, 1) := by decide +kernel
theorem vm_X10_tones : aVm yX10_tones RX10 cX10_tones 2 (some .int) 1 := ⟨tw_1775, tw_1773, tw_1774, tw_15, rfl, by decide +kernel, by decide +kernel, by decide +kernel⟩
theorem dX10_tonesAgain_0 : decode cX10_tonesAgain 0 = .ok (.aload_n 0, 1) := by decide +kernel
theorem dX10_tonesAgain_1 : decode cX10_tonesAgain 1 = .ok (.iload_n 1, 1) := by decide +kernel
theorem dX10_tonesAgain_2 : decode cX10_tonesAgain 2 = .ok (.invokevirtual 190, 3) := by decide +kernel
theorem dX10_tonesAgain_5 : decode cX10_tonesAgain 5 = .ok (.ireturn, 1) := by decide +kernel
theorem vm_X10_tonesAgain : aVm yX10_tonesAgain RX10 cX10_tonesAgain 2 (some .int) 1 := ⟨tw_1791, tw_1789, tw_1790, tw_15, rfl, by decide +kernel, by decide +kernel, by decide +kernel⟩
theorem dX10_versesNow_0 : decode cX10_versesNow 0 = .ok (.aload_n 0, 1) := by decide +kernel
theorem dX10_versesNow_1 : decode cX10_versesNow 1 = .ok (.aload_n 0, 1) := by decide +kernel
theorem dX10_versesNow_2 : decode cX10_versesNow 2 = .ok (.iload_n 1, 1) := by decide +kernel
theorem dX10_versesNow_3 : decode cX10_versesNow 3 = .ok (.invokevirtual 132, 3) := by decide +kernel
theorem dX10_versesNow_6 : decode cX10_versesNow 6 = .ok (.aload_n 0, 1) := by decide +kernel
theorem dX10_versesNow_7 : decode cX10_versesNow 7 = .ok (.iload_n 1, 1) := by decide +kernel
theorem dX10_versesNow_8 : decode cX10_versesNow 8 = .ok (.invokevirtual 184, 3) := by decide +kernel
theorem dX10_versesNow_11 : decode cX10_versesNow 11 = .ok (.invokevirtual 74, 3) := by decide +kernel
theorem dX10_versesNow_14 : decode cX10_versesNow 14 = .ok (.ifCond .ne 5, 3) := by decide +kernel
theorem dX10_versesNow_17 : decode cX10_versesNow 17 = .ok (.iconst 0, 1) := by decide +kernel
theorem dX10_versesNow_18 : decode cX10_versesNow 18 = .ok (.ireturn, 1) := by decide +kernel
theorem dX10_versesNow_19 : decode cX10_versesNow 19 = .ok (.iconst 0, 1) := by decide +kernel
theorem dX10_versesNow_20 : decode cX10_versesNow 20 = .ok (.istore_n 2, 1) := by decide +kernel
theorem dX10_versesNow_21 : decode cX10_versesNow 21 = .ok (.aload_n 0, 1) := by decide +kernel
theorem dX10_versesNow_22 : decode cX10_versesNow 22 = .ok (.iload_n 1, 1) := by decide +kernel
theorem dX10_versesNow_23 : decode cX10_versesNow 23 = .ok (.aload_n 0, 1) := by decide +kernel
theorem dX10_versesNow_24 : decode cX10_versesNow 24 = .ok (.getfield 9, 3) := by decide +kernel
theorem dX10_versesNow_27 : decode cX10_versesNow 27 = .ok (.iload_n 1, 1) := by decide +kernel
theorem dX10_versesNow_28 : decode cX10_versesNow 28 = .ok (.invokestatic 82, 3) := by decide +kernel
theorem dX10_versesNow_31 : decode cX10_versesNow 31 = .ok (.iconst 2, 1) := by decide +kernel
theorem dX10_versesNow_32 : decode cX10_versesNow 32 = .ok (.iadd, 1) := by decide +kernel
theorem dX10_versesNow_33 : decode cX10_versesNow 33 = .ok (.iaload, 1) := by decide +kernel
theorem dX10_versesNow_34 : decode cX10_versesNow 34 = .ok (.iload_n 2, 1) := by decide +kernel
theorem dX10_versesNow_35 : decode cX10_versesNow 35 = .ok (.invokevirtual 187, 3) := by decide +kernel
theorem dX10_versesNow_38 : decode cX10_versesNow 38 = .ok (.ifCond .le 9, 3) := by decide +kernel
theorem dX10_versesNow_41 : decode cX10_versesNow 41 = .ok (.iinc 2 1, 3) := by decide +kernel
theorem dX10_versesNow_44 : decode cX10_versesNow 44 = .ok (.goto (-23), 3) := by decide +kernel
theorem dX10_versesNow_47 : decode cX10_versesNow 47 = .ok (.iload_n 2, 1) := by decide +kernel
theorem dX10_versesNow_48 : decode cX10_versesNow 48 = .ok (.ireturn, 1) := by decide +kernel
theorem vm_X10_versesNow : aVm yX10_versesNow RX10 cX10_versesNow 3 (some .int) 1 := ⟨tw_1799, tw_1798, List.mem_append_left _ (List.mem_of_getElem? (i := 57) (by decide +kernel)), tw_15, rfl, by decide +kernel, by decide +kernel, by decide +kernel⟩
theorem dX10_verses_0 : decode cX10_verses 0 = .ok (.aload_n 0, 1) := by decide +kernel
theorem dX10_verses_1 : decode cX10_verses 1 = .ok (.iload_n 1, 1) := by decide +kernel
theorem dX10_verses_2 : decode cX10_verses 2 = .ok (.invokevirtual 193, 3) := by decide +kernel
theorem dX10_verses_5 : decode cX10_verses 5 = .ok (.ireturn, 1) := by decide +kernel
theorem vm_X10_verses : aVm yX10_verses RX10 cX10_verses 2 (some .int) 1 := ⟨tw_1795, tw_1793, tw_1794, tw_15, rfl, by decide +kernel, by decide +kernel, by decide +kernel⟩
theorem dX10_versesAgain_0 : decode cX10_versesAgain 0 = .ok (.aload_n 0, 1) := by decide +kernel
theorem dX10_versesAgain_1 : decode cX10_versesAgain 1 = .ok (.iload_n 1, 1) := by decide +kernel
theorem dX10_versesAgain_2 : decode cX10_versesAgain 2 = .ok (.invokevirtual 193, 3) := by decide +kernel
theorem dX10_versesAgain_5 : decode cX10_versesAgain 5 = .ok (.ireturn, 1) := by decide +kernel
theorem vm_X10_versesAgain : aVm yX10_versesAgain RX10 cX10_versesAgain 2 (some .int) 1 := ⟨tw_1803, tw_1801, tw_1802, tw_15, rfl, by decide +kernel, by decide +kernel, by decide +kernel⟩
theorem dX10_would_0 : decode cX10_would 0 = .ok (.aload_n 0, 1) := by decide +kernel
theorem dX10_would_1 : decode cX10_would 1 = .ok (.aload_n 0, 1) := by decide +kernel
theorem dX10_would_2 : decode cX10_would 2 = .ok (.iload_n 1, 1) := by decide +kernel
theorem dX10_would_3 : decode cX10_would 3 = .ok (.invokevirtual 132, 3) := by decide +kernel
theorem dX10_would_6 : decode cX10_would 6 = .ok (.ifCond .eq 15, 3) := by decide +kernel
theorem dX10_would_9 : decode cX10_would 9 = .ok (.aload_n 0, 1) := by decide +kernel
theorem dX10_would_10 : decode cX10_would 10 = .ok (.iload_n 2, 1) := by decide +kernel
theorem dX10_would_11 : decode cX10_would 11 = .ok (.invokevirtual 119, 3) := by decide +kernel
theorem dX10_would_14 : decode cX10_would 14 = .ok (.ifCond .eq 7, 3) := by decide +kernel
theorem dX10_would_17 : decode cX10_would 17 = .ok (.iconst 1, 1) := by decide +kernel
theorem dX10_would_18 : decode cX10_would 18 = .ok (.goto 4, 3) := by decide +kernel
theorem dX10_would_21 : decode cX10_would 21 = .ok (.iconst 0, 1) := by decide +kernel
theorem dX10_would_22 : decode cX10_would 22 = .ok (.iconst 1, 1) := by decide +kernel
theorem dX10_would_23 : decode cX10_would 23 = .ok (.invokevirtual 74, 3) := by decide +kernel
theorem dX10_would_26 : decode cX10_would 26 = .ok (.ifCond .eq 13, 3) := by decide +kernel
theorem dX10_would_29 : decode cX10_would 29 = .ok (.aload_n 0, 1) := by decide +kernel
theorem dX10_would_30 : decode cX10_would 30 = .ok (.iload_n 1, 1) := by decide +kernel
theorem dX10_would_31 : decode cX10_would 31 = .ok (.iload_n 2, 1) := by decide +kernel
theorem dX10_would_32 : decode cX10_would 32 = .ok (.iconst 0, 1) := by decide +kernel
theorem dX10_would_33 : decode cX10_would 33 = .ok (.invokevirtual 187, 3) := by decide +kernel
theorem dX10_would_36 : decode cX10_would 36 = .ok (.goto 4, 3) := by decide +kernel
theorem dX10_would_39 : decode cX10_would 39 = .ok (.iconst 0, 1) := by decide +kernel
theorem dX10_would_40 : decode cX10_would 40 = .ok (.ireturn, 1) := by decide +kernel
theorem vm_X10_would : aVm yX10_would RX10 cX10_would 3 (some .int) 2 := ⟨tw_1807, tw_1805, tw_1806, tw_15, rfl, by decide +kernel, by decide +kernel, by decide +kernel⟩
theorem dX10_bestRoom_0 : decode cX10_bestRoom 0 = .ok (.aload_n 0, 1) := by decide +kernel
theorem dX10_bestRoom_1 : decode cX10_bestRoom 1 = .ok (.aload_n 0, 1) := by decide +kernel
theorem dX10_bestRoom_2 : decode cX10_bestRoom 2 = .ok (.iload_n 1, 1) := by decide +kernel
theorem dX10_bestRoom_3 : decode cX10_bestRoom 3 = .ok (.invokevirtual 132, 3) := by decide +kernel
theorem dX10_bestRoom_6 : decode cX10_bestRoom 6 = .ok (.aload_n 0, 1) := by decide +kernel
theorem dX10_bestRoom_7 : decode cX10_bestRoom 7 = .ok (.getfield 9, 3) := by decide +kernel
theorem dX10_bestRoom_10 : decode cX10_bestRoom 10 = .ok (.iconst 0, 1) := by decide +kernel
theorem dX10_bestRoom_11 : decode cX10_bestRoom 11 = .ok (.iaload, 1) := by decide +kernel
theorem dX10_bestRoom_12 : decode cX10_bestRoom 12 = .ok (.ifCond .le 7, 3) := by decide +kernel
theorem dX10_bestRoom_15 : decode cX10_bestRoom 15 = .ok (.iconst 1, 1) := by decide +kernel
theorem dX10_bestRoom_16 : decode cX10_bestRoom 16 = .ok (.goto 4, 3) := by decide +kernel
theorem dX10_bestRoom_19 : decode cX10_bestRoom 19 = .ok (.iconst 0, 1) := by decide +kernel
theorem dX10_bestRoom_20 : decode cX10_bestRoom 20 = .ok (.invokevirtual 74, 3) := by decide +kernel
theorem dX10_bestRoom_23 : decode cX10_bestRoom 23 = .ok (.ifCond .ne 5, 3) := by decide +kernel
theorem dX10_bestRoom_26 : decode cX10_bestRoom 26 = .ok (.iconst 0, 1) := by decide +kernel
theorem dX10_bestRoom_27 : decode cX10_bestRoom 27 = .ok (.ireturn, 1) := by decide +kernel
theorem dX10_bestRoom_28 : decode cX10_bestRoom 28 = .ok (.iconst 0, 1) := by decide +kernel
theorem dX10_bestRoom_29 : decode cX10_bestRoom 29 = .ok (.istore_n 2, 1) := by decide +kernel
theorem dX10_bestRoom_30 : decode cX10_bestRoom 30 = .ok (.iconst 1, 1) := by decide +kernel
theorem dX10_bestRoom_31 : decode cX10_bestRoom 31 = .ok (.istore_n 3, 1) := by decide +kernel
theorem dX10_bestRoom_32 : decode cX10_bestRoom 32 = .ok (.iload_n 3, 1) := by decide +kernel
theorem dX10_bestRoom_33 : decode cX10_bestRoom 33 = .ok (.aload_n 0, 1) := by decide +kernel
theorem dX10_bestRoom_34 : decode cX10_bestRoom 34 = .ok (.getfield 9, 3) := by decide +kernel
theorem dX10_bestRoom_37 : decode cX10_bestRoom 37 = .ok (.iconst 0, 1) := by decide +kernel
theorem dX10_bestRoom_38 : decode cX10_bestRoom 38 = .ok (.iaload, 1) := by decide +kernel
theorem dX10_bestRoom_39 : decode cX10_bestRoom 39 = .ok (.if_icmp .ge 32, 3) := by decide +kernel
theorem dX10_bestRoom_42 : decode cX10_bestRoom 42 = .ok (.aload_n 0, 1) := by decide +kernel
theorem dX10_bestRoom_43 : decode cX10_bestRoom 43 = .ok (.iload_n 1, 1) := by decide +kernel
theorem dX10_bestRoom_44 : decode cX10_bestRoom 44 = .ok (.iload_n 3, 1) := by decide +kernel
theorem dX10_bestRoom_45 : decode cX10_bestRoom 45 = .ok (.iconst 0, 1) := by decide +kernel
theorem dX10_bestRoom_46 : decode cX10_bestRoom 46 = .ok (.invokevirtual 187, 3) := by decide +kernel
theorem dX10_bestRoom_49 : decode cX10_bestRoom 49 = .ok (.aload_n 0, 1) := by decide +kernel
theorem dX10_bestRoom_50 : decode cX10_bestRoom 50 = .ok (.iload_n 1, 1) := by decide +kernel
theorem dX10_bestRoom_51 : decode cX10_bestRoom 51 = .ok (.iload_n 2, 1) := by decide +kernel
theorem dX10_bestRoom_52 : decode cX10_bestRoom 52 = .ok (.iconst 0, 1) := by decide +kernel
theorem dX10_bestRoom_53 : decode cX10_bestRoom 53 = .ok (.invokevirtual 187, 3) := by decide +kernel
theorem dX10_bestRoom_56 : decode cX10_bestRoom 56 = .ok (.if_icmp .le 7, 3) := by decide +kernel
theorem dX10_bestRoom_59 : decode cX10_bestRoom 59 = .ok (.iload_n 3, 1) := by decide +kernel
theorem dX10_bestRoom_60 : decode cX10_bestRoom 60 = .ok (.goto 4, 3) := by decide +kernel
theorem dX10_bestRoom_63 : decode cX10_bestRoom 63 = .ok (.iload_n 2, 1) := by decide +kernel
theorem dX10_bestRoom_64 : decode cX10_bestRoom 64 = .ok (.istore_n 2, 1) := by decide +kernel
theorem dX10_bestRoom_65 : decode cX10_bestRoom 65 = .ok (.iinc 3 1, 3) := by decide +kernel
theorem dX10_bestRoom_68 : decode cX10_bestRoom 68 = .ok (.goto (-36), 3) := by decide +kernel
theorem dX10_bestRoom_71 : decode cX10_bestRoom 71 = .ok (.iload_n 2, 1) := by decide +kernel
theorem dX10_bestRoom_72 : decode cX10_bestRoom 72 = .ok (.ireturn, 1) := by decide +kernel
theorem vm_X10_bestRoom : aVm yX10_bestRoom RX10 cX10_bestRoom 4 (some .int) 1 := ⟨tw_1811, tw_1809, tw_1810, tw_15, rfl, by decide +kernel, by decide +kernel, by decide +kernel⟩
theorem dX10_canEnter_0 : decode cX10_canEnter 0 = .ok (.aload_n 0, 1) := by decide +kernel
theorem dX10_canEnter_1 : decode cX10_canEnter 1 = .ok (.aload_n 0, 1) := by decide +kernel
theorem dX10_canEnter_2 : decode cX10_canEnter 2 = .ok (.iload_n 1, 1) := by decide +kernel
theorem dX10_canEnter_3 : decode cX10_canEnter 3 = .ok (.invokevirtual 132, 3) := by decide +kernel
theorem dX10_canEnter_6 : decode cX10_canEnter 6 = .ok (.ifCond .eq 15, 3) := by decide +kernel
theorem dX10_canEnter_9 : decode cX10_canEnter 9 = .ok (.aload_n 0, 1) := by decide +kernel
theorem dX10_canEnter_10 : decode cX10_canEnter 10 = .ok (.iload_n 2, 1) := by decide +kernel
theorem dX10_canEnter_11 : decode cX10_canEnter 11 = .ok (.invokevirtual 119, 3) := by decide +kernel
theorem dX10_canEnter_14 : decode cX10_canEnter 14 = .ok (.ifCond .eq 7, 3) := by decide +kernel
theorem dX10_canEnter_17 : decode cX10_canEnter 17 = .ok (.iconst 1, 1) := by decide +kernel
theorem dX10_canEnter_18 : decode cX10_canEnter 18 = .ok (.goto 4, 3) := by decide +kernel
theorem dX10_canEnter_21 : decode cX10_canEnter 21 = .ok (.iconst 0, 1) := by decide +kernel
theorem dX10_canEnter_22 : decode cX10_canEnter 22 = .ok (.iconst 1, 1) := by decide +kernel
theorem dX10_canEnter_23 : decode cX10_canEnter 23 = .ok (.invokevirtual 74, 3) := by decide +kernel
theorem dX10_canEnter_26 : decode cX10_canEnter 26 = .ok (.ifCond .ne 5, 3) := by decide +kernel
theorem dX10_canEnter_29 : decode cX10_canEnter 29 = .ok (.iconst 0, 1) := by decide +kernel
theorem dX10_canEnter_30 : decode cX10_canEnter 30 = .ok (.ireturn, 1) := by decide +kernel
theorem dX10_canEnter_31 : decode cX10_canEnter 31 = .ok (.aload_n 0, 1) := by decide +kernel
theorem dX10_canEnter_32 : decode cX10_canEnter 32 = .ok (.iconst 0, 1) := by decide +kernel
theorem dX10_canEnter_33 : decode cX10_canEnter 33 = .ok (.putfield 38, 3) := by decide +kernel
theorem dX10_canEnter_36 : decode cX10_canEnter 36 = .ok (.aload_n 0, 1) := by decide +kernel
theorem dX10_canEnter_37 : decode cX10_canEnter 37 = .ok (.iload_n 1, 1) := by decide +kernel
theorem dX10_canEnter_38 : decode cX10_canEnter 38 = .ok (.iload_n 2, 1) := by decide +kernel
theorem dX10_canEnter_39 : decode cX10_canEnter 39 = .ok (.invokevirtual 135, 3) := by decide +kernel
theorem dX10_canEnter_42 : decode cX10_canEnter 42 = .ok (.aload_n 0, 1) := by decide +kernel
theorem dX10_canEnter_43 : decode cX10_canEnter 43 = .ok (.getfield 38, 3) := by decide +kernel
theorem dX10_canEnter_46 : decode cX10_canEnter 46 = .ok (.ifCond .ne 7, 3) := by decide +kernel
theorem dX10_canEnter_49 : decode cX10_canEnter 49 = .ok (.iconst 1, 1) := by decide +kernel
theorem dX10_canEnter_50 : decode cX10_canEnter 50 = .ok (.goto 4, 3) := by decide +kernel
theorem dX10_canEnter_53 : decode cX10_canEnter 53 = .ok (.iconst 0, 1) := by decide +kernel
theorem dX10_canEnter_54 : decode cX10_canEnter 54 = .ok (.ireturn, 1) := by decide +kernel
theorem vm_X10_canEnter : aVm yX10_canEnter RX10 cX10_canEnter 3 (some .boolean) 2 := ⟨tw_1815, tw_1813, tw_1814, tw_15, rfl, by decide +kernel, by decide +kernel, by decide +kernel⟩
theorem dX10_canRent_0 : decode cX10_canRent 0 = .ok (.aload_n 0, 1) := by decide +kernel
theorem dX10_canRent_1 : decode cX10_canRent 1 = .ok (.aload_n 0, 1) := by decide +kernel
theorem dX10_canRent_2 : decode cX10_canRent 2 = .ok (.iload_n 1, 1) := by decide +kernel
theorem dX10_canRent_3 : decode cX10_canRent 3 = .ok (.invokevirtual 132, 3) := by decide +kernel
theorem dX10_canRent_6 : decode cX10_canRent 6 = .ok (.ifCond .eq 15, 3) := by decide +kernel
theorem dX10_canRent_9 : decode cX10_canRent 9 = .ok (.aload_n 0, 1) := by decide +kernel
theorem dX10_canRent_10 : decode cX10_canRent 10 = .ok (.iload_n 2, 1) := by decide +kernel
theorem dX10_canRent_11 : decode cX10_canRent 11 = .ok (.invokevirtual 145, 3) := by decide +kernel
theorem dX10_canRent_14 : decode cX10_canRent 14 = .ok (.ifCond .eq 7, 3) := by decide +kernel
theorem dX10_canRent_17 : decode cX10_canRent 17 = .ok (.iconst 1, 1) := by decide +kernel
theorem dX10_canRent_18 : decode cX10_canRent 18 = .ok (.goto 4, 3) := by decide +kernel
theorem dX10_canRent_21 : decode cX10_canRent 21 = .ok (.iconst 0, 1) := by decide +kernel
theorem dX10_canRent_22 : decode cX10_canRent 22 = .ok (.iconst 1, 1) := by decide +kernel
theorem dX10_canRent_23 : decode cX10_canRent 23 = .ok (.invokevirtual 74, 3) := by decide +kernel
theorem dX10_canRent_26 : decode cX10_canRent 26 = .ok (.ifCond .ne 5, 3) := by decide +kernel
theorem dX10_canRent_29 : decode cX10_canRent 29 = .ok (.iconst 0, 1) := by decide +kernel
theorem dX10_canRent_30 : decode cX10_canRent 30 = .ok (.ireturn, 1) := by decide +kernel
theorem dX10_canRent_31 : decode cX10_canRent 31 = .ok (.aload_n 0, 1) := by decide +kernel
theorem dX10_canRent_32 : decode cX10_canRent 32 = .ok (.iconst 0, 1) := by decide +kernel
theorem dX10_canRent_33 : decode cX10_canRent 33 = .ok (.putfield 38, 3) := by decide +kernel
theorem dX10_canRent_36 : decode cX10_canRent 36 = .ok (.aload_n 0, 1) := by decide +kernel
theorem dX10_canRent_37 : decode cX10_canRent 37 = .ok (.iload_n 1, 1) := by decide +kernel
theorem dX10_canRent_38 : decode cX10_canRent 38 = .ok (.iload_n 2, 1) := by decide +kernel
theorem dX10_canRent_39 : decode cX10_canRent 39 = .ok (.invokevirtual 151, 3) := by decide +kernel
theorem dX10_canRent_42 : decode cX10_canRent 42 = .ok (.aload_n 0, 1) := by decide +kernel
theorem dX10_canRent_43 : decode cX10_canRent 43 = .ok (.getfield 38, 3) := by decide +kernel
theorem dX10_canRent_46 : decode cX10_canRent 46 = .ok (.ifCond .ne 7, 3) := by decide +kernel
theorem dX10_canRent_49 : decode cX10_canRent 49 = .ok (.iconst 1, 1) := by decide +kernel
theorem dX10_canRent_50 : decode cX10_canRent 50 = .ok (.goto 4, 3) := by decide +kernel
theorem dX10_canRent_53 : decode cX10_canRent 53 = .ok (.iconst 0, 1) := by decide +kernel
theorem dX10_canRent_54 : decode cX10_canRent 54 = .ok (.ireturn, 1) := by decide +kernel
theorem vm_X10_canRent : aVm yX10_canRent RX10 cX10_canRent 3 (some .boolean) 2 := ⟨tw_1819, tw_1817, tw_1818, tw_15, rfl, by decide +kernel, by decide +kernel, by decide +kernel⟩
theorem dX10_backFor_0 : decode cX10_backFor 0 = .ok (.aload_n 0, 1) := by decide +kernel
theorem dX10_backFor_1 : decode cX10_backFor 1 = .ok (.iload_n 1, 1) := by decide +kernel
theorem dX10_backFor_2 : decode cX10_backFor 2 = .ok (.invokevirtual 145, 3) := by decide +kernel
theorem dX10_backFor_5 : decode cX10_backFor 5 = .ok (.ifCond .eq 31, 3) := by decide +kernel
theorem dX10_backFor_8 : decode cX10_backFor 8 = .ok (.aload_n 0, 1) := by decide +kernel
theorem dX10_backFor_9 : decode cX10_backFor 9 = .ok (.getfield 9, 3) := by decide +kernel
theorem dX10_backFor_12 : decode cX10_backFor 12 = .ok (.iconst 0, 1) := by decide +kernel
theorem dX10_backFor_13 : decode cX10_backFor 13 = .ok (.bipush 7, 2) := by decide +kernel
theorem dX10_backFor_15 : decode cX10_backFor 15 = .ok (.iload_n 1, 1) := by decide +kernel
theorem dX10_backFor_16 : decode cX10_backFor 16 = .ok (.invokestatic 161, 3) := by decide +kernel
theorem dX10_backFor_19 : decode cX10_backFor 19 = .ok (.invokestatic 100, 3) := by decide +kernel
theorem dX10_backFor_22 : decode cX10_backFor 22 = .ok (.invokestatic 86, 3) := by decide +kernel
theorem dX10_backFor_25 : decode cX10_backFor 25 = .ok (.iconst 2, 1) := by decide +kernel
theorem dX10_backFor_26 : decode cX10_backFor 26 = .ok (.iadd, 1) := by decide +kernel
theorem dX10_backFor_27 : decode cX10_backFor 27 = .ok (.iaload, 1) := by decide +kernel
theorem dX10_backFor_28 : decode cX10_backFor 28 = .ok (.iconst (-1), 1) := by decide +kernel
theorem dX10_backFor_29 : decode cX10_backFor 29 = .ok (.if_icmp .eq 7, 3) := by decide +kernel
theorem dX10_backFor_32 : decode cX10_backFor 32 = .ok (.iconst 1, 1) := by decide +kernel
theorem dX10_backFor_33 : decode cX10_backFor 33 = .ok (.goto 4, 3) := by decide +kernel
theorem dX10_backFor_36 : decode cX10_backFor 36 = .ok (.iconst 0, 1) := by decide +kernel
theorem dX10_backFor_37 : decode cX10_backFor 37 = .ok (.istore_n 2, 1) := by decide +kernel
theorem dX10_backFor_38 : decode cX10_backFor 38 = .ok (.aload_n 0, 1) := by decide +kernel
theorem dX10_backFor_39 : decode cX10_backFor 39 = .ok (.aload_n 0, 1) := by decide +kernel
theorem dX10_backFor_40 : decode cX10_backFor 40 = .ok (.iload_n 1, 1) := by decide +kernel
theorem dX10_backFor_41 : decode cX10_backFor 41 = .ok (.invokevirtual 145, 3) := by decide +kernel
theorem dX10_backFor_44 : decode cX10_backFor 44 = .ok (.iload_n 2, 1) := by decide +kernel
theorem dX10_backFor_45 : decode cX10_backFor 45 = .ok (.invokevirtual 74, 3) := by decide +kernel
theorem dX10_backFor_48 : decode cX10_backFor 48 = .ok (.ifCond .eq 11, 3) := by decide +kernel
theorem dX10_backFor_51 : decode cX10_backFor 51 = .ok (.aload_n 0, 1) := by decide +kernel
theorem dX10_backFor_52 : decode cX10_backFor 52 = .ok (.iload_n 1, 1) := by decide +kernel
theorem dX10_backFor_53 : decode cX10_backFor 53 = .ok (.invokevirtual 158, 3) := by decide +kernel
theorem dX10_backFor_56 : decode cX10_backFor 56 = .ok (.goto 4, 3) := by decide +kernel
theorem dX10_backFor_59 : decode cX10_backFor 59 = .ok (.iconst 0, 1) := by decide +kernel
theorem dX10_backFor_60 : decode cX10_backFor 60 = .ok (.ireturn, 1) := by decide +kernel
theorem vm_X10_backFor : aVm yX10_backFor RX10 cX10_backFor 3 (some .int) 1 := ⟨tw_1823, tw_1821, tw_1822, tw_15, rfl, by decide +kernel, by decide +kernel, by decide +kernel⟩
theorem dX10_others_0 : decode cX10_others 0 = .ok (.aload_n 0, 1) := by decide +kernel
theorem dX10_others_1 : decode cX10_others 1 = .ok (.aload_n 0, 1) := by decide +kernel
theorem dX10_others_2 : decode cX10_others 2 = .ok (.iload_n 1, 1) := by decide +kernel
theorem dX10_others_3 : decode cX10_others 3 = .ok (.invokevirtual 119, 3) := by decide +kernel
theorem dX10_others_6 : decode cX10_others 6 = .ok (.iconst 1, 1) := by decide +kernel
theorem dX10_others_7 : decode cX10_others 7 = .ok (.invokevirtual 74, 3) := by decide +kernel
theorem dX10_others_10 : decode cX10_others 10 = .ok (.ifCond .eq 11, 3) := by decide +kernel
theorem dX10_others_13 : decode cX10_others 13 = .ok (.aload_n 0, 1) := by decide +kernel
theorem dX10_others_14 : decode cX10_others 14 = .ok (.iload_n 1, 1) := by decide +kernel
theorem dX10_others_15 : decode cX10_others 15 = .ok (.invokevirtual 89, 3) := by decide +kernel
theorem dX10_others_18 : decode cX10_others 18 = .ok (.goto 4, 3) := by decide +kernel
theorem dX10_others_21 : decode cX10_others 21 = .ok (.iconst 0, 1) := by decide +kernel
theorem dX10_others_22 : decode cX10_others 22 = .ok (.ireturn, 1) := by decide +kernel
theorem vm_X10_others : aVm yX10_others RX10 cX10_others 2 (some .int) 1 := ⟨tw_1827, tw_1825, tw_1826, tw_15, rfl, by decide +kernel, by decide +kernel, by decide +kernel⟩
theorem dX10_free_0 : decode cX10_free 0 = .ok (.aload_n 0, 1) := by decide +kernel
theorem dX10_free_1 : decode cX10_free 1 = .ok (.aload_n 0, 1) := by decide +kernel
theorem dX10_free_2 : decode cX10_free 2 = .ok (.iload_n 1, 1) := by decide +kernel
theorem dX10_free_3 : decode cX10_free 3 = .ok (.invokevirtual 119, 3) := by decide +kernel
theorem dX10_free_6 : decode cX10_free 6 = .ok (.iconst 1, 1) := by decide +kernel
theorem dX10_free_7 : decode cX10_free 7 = .ok (.invokevirtual 74, 3) := by decide +kernel
theorem dX10_free_10 : decode cX10_free 10 = .ok (.ifCond .eq 12, 3) := by decide +kernel
theorem dX10_free_13 : decode cX10_free 13 = .ok (.aload_n 0, 1) := by decide +kernel
theorem dX10_free_14 : decode cX10_free 14 = .ok (.iload_n 1, 1) := by decide +kernel
theorem dX10_free_15 : decode cX10_free 15 = .ok (.iconst 1, 1) := by decide +kernel
theorem dX10_free_16 : decode cX10_free 16 = .ok (.invokevirtual 177, 3) := by decide +kernel
theorem dX10_free_19 : decode cX10_free 19 = .ok (.goto 4, 3) := by decide +kernel
theorem dX10_free_22 : decode cX10_free 22 = .ok (.iconst 0, 1) := by decide +kernel
theorem dX10_free_23 : decode cX10_free 23 = .ok (.ireturn, 1) := by decide +kernel
theorem vm_X10_free : aVm yX10_free RX10 cX10_free 2 (some .int) 1 := ⟨tw_1831, tw_1829, tw_1830, tw_15, rfl, by decide +kernel, by decide +kernel, by decide +kernel⟩
theorem dX10_dryIn_0 : decode cX10_dryIn 0 = .ok (.aload_n 0, 1) := by decide +kernel
theorem dX10_dryIn_1 : decode cX10_dryIn 1 = .ok (.aload_n 0, 1) := by decide +kernel
theorem dX10_dryIn_2 : decode cX10_dryIn 2 = .ok (.iload_n 1, 1) := by decide +kernel
theorem dX10_dryIn_3 : decode cX10_dryIn 3 = .ok (.invokevirtual 119, 3) := by decide +kernel
theorem dX10_dryIn_6 : decode cX10_dryIn 6 = .ok (.iconst 1, 1) := by decide +kernel
theorem dX10_dryIn_7 : decode cX10_dryIn 7 = .ok (.invokevirtual 74, 3) := by decide +kernel
theorem dX10_dryIn_10 : decode cX10_dryIn 10 = .ok (.ifCond .eq 21, 3) := by decide +kernel
theorem dX10_dryIn_13 : decode cX10_dryIn 13 = .ok (.aload_n 0, 1) := by decide +kernel
theorem dX10_dryIn_14 : decode cX10_dryIn 14 = .ok (.getfield 9, 3) := by decide +kernel
theorem dX10_dryIn_17 : decode cX10_dryIn 17 = .ok (.iload_n 1, 1) := by decide +kernel
theorem dX10_dryIn_18 : decode cX10_dryIn 18 = .ok (.invokestatic 97, 3) := by decide +kernel
theorem dX10_dryIn_21 : decode cX10_dryIn 21 = .ok (.iconst 1, 1) := by decide +kernel
theorem dX10_dryIn_22 : decode cX10_dryIn 22 = .ok (.iadd, 1) := by decide +kernel
theorem dX10_dryIn_23 : decode cX10_dryIn 23 = .ok (.iaload, 1) := by decide +kernel
theorem dX10_dryIn_24 : decode cX10_dryIn 24 = .ok (.iconst 1, 1) := by decide +kernel
theorem dX10_dryIn_25 : decode cX10_dryIn 25 = .ok (.iadd, 1) := by decide +kernel
theorem dX10_dryIn_26 : decode cX10_dryIn 26 = .ok (.iconst 2, 1) := by decide +kernel
theorem dX10_dryIn_27 : decode cX10_dryIn 27 = .ok (.idiv, 1) := by decide +kernel
theorem dX10_dryIn_28 : decode cX10_dryIn 28 = .ok (.goto 4, 3) := by decide +kernel
theorem dX10_dryIn_31 : decode cX10_dryIn 31 = .ok (.iconst 0, 1) := by decide +kernel
theorem dX10_dryIn_32 : decode cX10_dryIn 32 = .ok (.ireturn, 1) := by decide +kernel
theorem vm_X10_dryIn : aVm yX10_dryIn RX10 cX10_dryIn 2 (some .int) 1 := ⟨tw_1835, tw_1833, tw_1834, tw_15, rfl, by decide +kernel, by decide +kernel, by decide +kernel⟩
theorem dX10_dampest_0 : decode cX10_dampest 0 = .ok (.iconst (-1), 1) := by decide +kernel
theorem dX10_dampest_1 : decode cX10_dampest 1 = .ok (.istore_n 2, 1) := by decide +kernel
theorem dX10_dampest_2 : decode cX10_dampest 2 = .ok (.iconst 0, 1) := by decide +kernel
theorem dX10_dampest_3 : decode cX10_dampest 3 = .ok (.istore_n 3, 1) := by decide +kernel
theorem dX10_dampest_4 : decode cX10_dampest 4 = .ok (.iload_n 3, 1) := by decide +kernel
theorem dX10_dampest_5 : decode cX10_dampest 5 = .ok (.aload_n 0, 1) := by decide +kernel
theorem dX10_dampest_6 : decode cX10_dampest 6 = .ok (.getfield 9, 3) := by decide +kernel
theorem dX10_dampest_9 : decode cX10_dampest 9 = .ok (.iconst 0, 1) := by decide +kernel
theorem dX10_dampest_10 : decode cX10_dampest 10 = .ok (.iaload, 1) := by decide +kernel
theorem dX10_dampest_11 : decode cX10_dampest 11 = .ok (.if_icmp .ge 120, 3) := by decide +kernel
theorem dX10_dampest_14 : decode cX10_dampest 14 = .ok (.iconst 0, 1) := by decide +kernel
theorem dX10_dampest_15 : decode cX10_dampest 15 = .ok (.istore 4, 2) := by decide +kernel
theorem dX10_dampest_17 : decode cX10_dampest 17 = .ok (.iconst 0, 1) := by decide +kernel
theorem dX10_dampest_18 : decode cX10_dampest 18 = .ok (.istore 5, 2) := by decide +kernel
theorem dX10_dampest_20 : decode cX10_dampest 20 = .ok (.iload 5, 2) := by decide +kernel
theorem dX10_dampest_22 : decode cX10_dampest 22 = .ok (.aload_n 0, 1) := by decide +kernel
theorem dX10_dampest_23 : decode cX10_dampest 23 = .ok (.getfield 9, 3) := by decide +kernel
theorem dX10_dampest_26 : decode cX10_dampest 26 = .ok (.iconst 0, 1) := by decide +kernel
theorem dX10_dampest_27 : decode cX10_dampest 27 = .ok (.iaload, 1) := by decide +kernel
theorem dX10_dampest_28 : decode cX10_dampest 28 = .ok (.if_icmp .ge 85, 3) := by decide +kernel
theorem dX10_dampest_31 : decode cX10_dampest 31 = .ok (.aload_n 0, 1) := by decide +kernel
theorem dX10_dampest_32 : decode cX10_dampest 32 = .ok (.getfield 9, 3) := by decide +kernel
theorem dX10_dampest_35 : decode cX10_dampest 35 = .ok (.iload 5, 2) := by decide +kernel
theorem dX10_dampest_37 : decode cX10_dampest 37 = .ok (.invokestatic 97, 3) := by decide +kernel
theorem dX10_dampest_40 : decode cX10_dampest 40 = .ok (.iconst 1, 1) := by decide +kernel
theorem dX10_dampest_41 : decode cX10_dampest 41 = .ok (.iadd, 1) := by decide +kernel
theorem dX10_dampest_42 : decode cX10_dampest 42 = .ok (.iaload, 1) := by decide +kernel
theorem dX10_dampest_43 : decode cX10_dampest 43 = .ok (.aload_n 0, 1) := by decide +kernel
theorem dX10_dampest_44 : decode cX10_dampest 44 = .ok (.getfield 9, 3) := by decide +kernel
theorem dX10_dampest_47 : decode cX10_dampest 47 = .ok (.iload_n 3, 1) := by decide +kernel
theorem dX10_dampest_48 : decode cX10_dampest 48 = .ok (.invokestatic 97, 3) := by decide +kernel
theorem dX10_dampest_51 : decode cX10_dampest 51 = .ok (.iconst 1, 1) := by decide +kernel
theorem dX10_dampest_52 : decode cX10_dampest 52 = .ok (.iadd, 1) := by decide +kernel
theorem dX10_dampest_53 : decode cX10_dampest 53 = .ok (.iaload, 1) := by decide +kernel
theorem dX10_dampest_54 : decode cX10_dampest 54 = .ok (.isub, 1) := by decide +kernel
theorem dX10_dampest_55 : decode cX10_dampest 55 = .ok (.istore 6, 2) := by decide +kernel
theorem dX10_dampest_57 : decode cX10_dampest 57 = .ok (.aload_n 0, 1) := by decide +kernel
theorem dX10_dampest_58 : decode cX10_dampest 58 = .ok (.iload 5, 2) := by decide +kernel
theorem dX10_dampest_60 : decode cX10_dampest 60 = .ok (.invokevirtual 129, 3) := by decide +kernel
theorem dX10_dampest_63 : decode cX10_dampest 63 = .ok (.aload_n 0, 1) := by decide +kernel
theorem dX10_dampest_64 : decode cX10_dampest 64 = .ok (.iload_n 3, 1) := by decide +kernel
theorem dX10_dampest_65 : decode cX10_dampest 65 = .ok (.invokevirtual 129, 3) := by decide +kernel
theorem dX10_dampest_68 : decode cX10_dampest 68 = .ok (.isub, 1) := by decide +kernel
theorem dX10_dampest_69 : decode cX10_dampest 69 = .ok (.istore 7, 2) := by decide +kernel
theorem dX10_dampest_71 : decode cX10_dampest 71 = .ok (.iload 4, 2) := by decide +kernel
theorem dX10_dampest_73 : decode cX10_dampest 73 = .ok (.iload 6, 2) := by decide +kernel
theorem dX10_dampest_75 : decode cX10_dampest 75 = .ok (.ifCond .gt 24, 3) := by decide +kernel
theorem dX10_dampest_78 : decode cX10_dampest 78 = .ok (.iload 6, 2) := by decide +kernel
theorem dX10_dampest_80 : decode cX10_dampest 80 = .ok (.ifCond .ne 23, 3) := by decide +kernel
theorem dX10_dampest_83 : decode cX10_dampest 83 = .ok (.iload 7, 2) := by decide +kernel
theorem dX10_dampest_85 : decode cX10_dampest 85 = .ok (.ifCond .gt 14, 3) := by decide +kernel
theorem dX10_dampest_88 : decode cX10_dampest 88 = .ok (.iload 7, 2) := by decide +kernel
theorem dX10_dampest_90 : decode cX10_dampest 90 = .ok (.ifCond .ne 13, 3) := by decide +kernel
theorem dX10_dampest_93 : decode cX10_dampest 93 = .ok (.iload 5, 2) := by decide +kernel
theorem dX10_dampest_95 : decode cX10_dampest 95 = .ok (.iload_n 3, 1) := by decide +kernel
theorem dX10_dampest_96 : decode cX10_dampest 96 = .ok (.if_icmp .ge 7, 3) := by decide +kernel
theorem dX10_dampest_99 : decode cX10_dampest 99 = .ok (.iconst 1, 1) := by decide +kernel
theorem dX10_dampest_100 : decode cX10_dampest 100 = .ok (.goto 4, 3) := by decide +kernel
theorem dX10_dampest_103 : decode cX10_dampest 103 = .ok (.iconst 0, 1) := by decide +kernel
theorem dX10_dampest_104 : decode cX10_dampest 104 = .ok (.iadd, 1) := by decide +kernel
theorem dX10_dampest_105 : decode cX10_dampest 105 = .ok (.istore 4, 2) := by decide +kernel
theorem dX10_dampest_107 : decode cX10_dampest 107 = .ok (.iinc 5 1, 3) := by decide +kernel
theorem dX10_dampest_110 : decode cX10_dampest 110 = .ok (.goto (-90), 3) := by decide +kernel
theorem dX10_dampest_113 : decode cX10_dampest 113 = .ok (.iload 4, 2) := by decide +kernel
theorem dX10_dampest_115 : decode cX10_dampest 115 = .ok (.iload_n 1, 1) := by decide +kernel
theorem dX10_dampest_116 : decode cX10_dampest 116 = .ok (.if_icmp .ne 7, 3) := by decide +kernel
theorem dX10_dampest_119 : decode cX10_dampest 119 = .ok (.iload_n 3, 1) := by decide +kernel
theorem dX10_dampest_120 : decode cX10_dampest 120 = .ok (.goto 4, 3) := by decide +kernel
theorem dX10_dampest_123 : decode cX10_dampest 123 = .ok (.iload_n 2, 1) := by decide +kernel
theorem dX10_dampest_124 : decode cX10_dampest 124 = .ok (.istore_n 2, 1) := by decide +kernel
theorem dX10_dampest_125 : decode cX10_dampest 125 = .ok (.iinc 3 1, 3) := by decide +kernel
theorem dX10_dampest_128 : decode cX10_dampest 128 = .ok (.goto (-124), 3) := by decide +kernel
theorem dX10_dampest_131 : decode cX10_dampest 131 = .ok (.aload_n 0, 1) := by decide +kernel
theorem dX10_dampest_132 : decode cX10_dampest 132 = .ok (.iload_n 2, 1) := by decide +kernel
theorem dX10_dampest_133 : decode cX10_dampest 133 = .ok (.iconst (-1), 1) := by decide +kernel
theorem dX10_dampest_134 : decode cX10_dampest 134 = .ok (.if_icmp .eq 7, 3) := by decide +kernel
theorem dX10_dampest_137 : decode cX10_dampest 137 = .ok (.iconst 1, 1) := by decide +kernel
theorem dX10_dampest_138 : decode cX10_dampest 138 = .ok (.goto 4, 3) := by decide +kernel
theorem dX10_dampest_141 : decode cX10_dampest 141 = .ok (.iconst 0, 1) := by decide +kernel
theorem dX10_dampest_142 : decode cX10_dampest 142 = .ok (.iconst 1, 1) := by decide +kernel
theorem dX10_dampest_143 : decode cX10_dampest 143 = .ok (.invokevirtual 74, 3) := by decide +kernel
theorem dX10_dampest_146 : decode cX10_dampest 146 = .ok (.ifCond .eq 7, 3) := by decide +kernel
theorem dX10_dampest_149 : decode cX10_dampest 149 = .ok (.iload_n 2, 1) := by decide +kernel
theorem dX10_dampest_150 : decode cX10_dampest 150 = .ok (.goto 4, 3) := by decide +kernel
theorem dX10_dampest_153 : decode cX10_dampest 153 = .ok (.iconst 0, 1) := by decide +kernel
theorem dX10_dampest_154 : decode cX10_dampest 154 = .ok (.ireturn, 1) := by decide +kernel
theorem vm_X10_dampest : aVm yX10_dampest RX10 cX10_dampest 8 (some .int) 1 := ⟨tw_1839, tw_1837, tw_1838, tw_15, rfl, by decide +kernel, by decide +kernel, by decide +kernel⟩
theorem dX10_rankOf_0 : decode cX10_rankOf 0 = .ok (.iload_n 1, 1) := by decide +kernel
theorem dX10_rankOf_1 : decode cX10_rankOf 1 = .ok (.invokestatic 82, 3) := by decide +kernel
theorem dX10_rankOf_4 : decode cX10_rankOf 4 = .ok (.istore_n 3, 1) := by decide +kernel
theorem dX10_rankOf_5 : decode cX10_rankOf 5 = .ok (.aload_n 0, 1) := by decide +kernel
theorem dX10_rankOf_6 : decode cX10_rankOf 6 = .ok (.getfield 9, 3) := by decide +kernel
theorem dX10_rankOf_9 : decode cX10_rankOf 9 = .ok (.iload_n 3, 1) := by decide +kernel
theorem dX10_rankOf_10 : decode cX10_rankOf 10 = .ok (.iload_n 2, 1) := by decide +kernel
theorem dX10_rankOf_11 : decode cX10_rankOf 11 = .ok (.ifCond .ne 7, 3) := by decide +kernel
theorem dX10_rankOf_14 : decode cX10_rankOf 14 = .ok (.iconst 1, 1) := by decide +kernel
theorem dX10_rankOf_15 : decode cX10_rankOf 15 = .ok (.goto 22, 3) := by decide +kernel
theorem dX10_rankOf_18 : decode cX10_rankOf 18 = .ok (.iload_n 2, 1) := by decide +kernel
theorem dX10_rankOf_19 : decode cX10_rankOf 19 = .ok (.iconst 1, 1) := by decide +kernel
theorem dX10_rankOf_20 : decode cX10_rankOf 20 = .ok (.if_icmp .ne 7, 3) := by decide +kernel
theorem dX10_rankOf_23 : decode cX10_rankOf 23 = .ok (.iconst 4, 1) := by decide +kernel
theorem dX10_rankOf_24 : decode cX10_rankOf 24 = .ok (.goto 13, 3) := by decide +kernel
theorem dX10_rankOf_27 : decode cX10_rankOf 27 = .ok (.iload_n 2, 1) := by decide +kernel
theorem dX10_rankOf_28 : decode cX10_rankOf 28 = .ok (.iconst 2, 1) := by decide +kernel
theorem dX10_rankOf_29 : decode cX10_rankOf 29 = .ok (.if_icmp .ne 7, 3) := by decide +kernel
theorem dX10_rankOf_32 : decode cX10_rankOf 32 = .ok (.iconst 3, 1) := by decide +kernel
theorem dX10_rankOf_33 : decode cX10_rankOf 33 = .ok (.goto 4, 3) := by decide +kernel
theorem dX10_rankOf_36 : decode cX10_rankOf 36 = .ok (.iconst 0, 1) := by decide +kernel
theorem dX10_rankOf_37 : decode cX10_rankOf 37 = .ok (.iadd, 1) := by decide +kernel
theorem dX10_rankOf_38 : decode cX10_rankOf 38 = .ok (.iaload, 1) := by decide +kernel
theorem dX10_rankOf_39 : decode cX10_rankOf 39 = .ok (.ireturn, 1) := by decide +kernel
theorem vm_X10_rankOf : aVm yX10_rankOf RX10 cX10_rankOf 4 (some .int) 2 := ⟨tw_1847, tw_1846, List.mem_append_left _ (List.mem_of_getElem? (i := 58) (by decide +kernel)), tw_15, rfl, by decide +kernel, by decide +kernel, by decide +kernel⟩
theorem dX10_ranked_0 : decode cX10_ranked 0 = .ok (.iconst (-1), 1) := by decide +kernel
theorem dX10_ranked_1 : decode cX10_ranked 1 = .ok (.istore_n 3, 1) := by decide +kernel
theorem dX10_ranked_2 : decode cX10_ranked 2 = .ok (.iconst 0, 1) := by decide +kernel
theorem dX10_ranked_3 : decode cX10_ranked 3 = .ok (.istore 4, 2) := by decide +kernel
theorem dX10_ranked_5 : decode cX10_ranked 5 = .ok (.iload 4, 2) := by decide +kernel
theorem dX10_ranked_7 : decode cX10_ranked 7 = .ok (.aload_n 0, 1) := by decide +kernel
theorem dX10_ranked_8 : decode cX10_ranked 8 = .ok (.getfield 9, 3) := by decide +kernel
theorem dX10_ranked_11 : decode cX10_ranked 11 = .ok (.iconst 2, 1) := by decide +kernel
theorem dX10_ranked_12 : decode cX10_ranked 12 = .ok (.iaload, 1) := by decide +kernel
theorem dX10_ranked_13 : decode cX10_ranked 13 = .ok (.if_icmp .ge 89, 3) := by decide +kernel
theorem dX10_ranked_16 : decode cX10_ranked 16 = .ok (.iconst 0, 1) := by decide +kernel
theorem dX10_ranked_17 : decode cX10_ranked 17 = .ok (.istore 5, 2) := by decide +kernel
theorem dX10_ranked_19 : decode cX10_ranked 19 = .ok (.iconst 0, 1) := by decide +kernel
theorem dX10_ranked_20 : decode cX10_ranked 20 = .ok (.istore 6, 2) := by decide +kernel
theorem dX10_ranked_22 : decode cX10_ranked 22 = .ok (.iload 6, 2) := by decide +kernel
theorem dX10_ranked_24 : decode cX10_ranked 24 = .ok (.aload_n 0, 1) := by decide +kernel
theorem dX10_ranked_25 : decode cX10_ranked 25 = .ok (.getfield 9, 3) := by decide +kernel
theorem dX10_ranked_28 : decode cX10_ranked 28 = .ok (.iconst 2, 1) := by decide +kernel
theorem dX10_ranked_29 : decode cX10_ranked 29 = .ok (.iaload, 1) := by decide +kernel
theorem dX10_ranked_30 : decode cX10_ranked 30 = .ok (.if_icmp .ge 53, 3) := by decide +kernel
theorem dX10_ranked_33 : decode cX10_ranked 33 = .ok (.aload_n 0, 1) := by decide +kernel
theorem dX10_ranked_34 : decode cX10_ranked 34 = .ok (.iload 6, 2) := by decide +kernel
theorem dX10_ranked_36 : decode cX10_ranked 36 = .ok (.iload_n 1, 1) := by decide +kernel
theorem dX10_ranked_37 : decode cX10_ranked 37 = .ok (.invokevirtual 196, 3) := by decide +kernel
theorem dX10_ranked_40 : decode cX10_ranked 40 = .ok (.aload_n 0, 1) := by decide +kernel
theorem dX10_ranked_41 : decode cX10_ranked 41 = .ok (.iload 4, 2) := by decide +kernel
theorem dX10_ranked_43 : decode cX10_ranked 43 = .ok (.iload_n 1, 1) := by decide +kernel
theorem dX10_ranked_44 : decode cX10_ranked 44 = .ok (.invokevirtual 196, 3) := by decide +kernel
theorem dX10_ranked_47 : decode cX10_ranked 47 = .ok (.isub, 1) := by decide +kernel
theorem dX10_ranked_48 : decode cX10_ranked 48 = .ok (.istore 7, 2) := by decide +kernel
theorem dX10_ranked_50 : decode cX10_ranked 50 = .ok (.iload 5, 2) := by decide +kernel
theorem dX10_ranked_52 : decode cX10_ranked 52 = .ok (.iload 7, 2) := by decide +kernel
theorem dX10_ranked_54 : decode cX10_ranked 54 = .ok (.ifCond .gt 15, 3) := by decide +kernel
theorem dX10_ranked_57 : decode cX10_ranked 57 = .ok (.iload 7, 2) := by decide +kernel
theorem dX10_ranked_59 : decode cX10_ranked 59 = .ok (.ifCond .ne 14, 3) := by decide +kernel
theorem dX10_ranked_62 : decode cX10_ranked 62 = .ok (.iload 6, 2) := by decide +kernel
theorem dX10_ranked_64 : decode cX10_ranked 64 = .ok (.iload 4, 2) := by decide +kernel
theorem dX10_ranked_66 : decode cX10_ranked 66 = .ok (.if_icmp .ge 7, 3) := by decide +kernel
theorem dX10_ranked_69 : decode cX10_ranked 69 = .ok (.iconst 1, 1) := by decide +kernel
theorem dX10_ranked_70 : decode cX10_ranked 70 = .ok (.goto 4, 3) := by decide +kernel
theorem dX10_ranked_73 : decode cX10_ranked 73 = .ok (.iconst 0, 1) := by decide +kernel
theorem dX10_ranked_74 : decode cX10_ranked 74 = .ok (.iadd, 1) := by decide +kernel
theorem dX10_ranked_75 : decode cX10_ranked 75 = .ok (.istore 5, 2) := by decide +kernel
theorem dX10_ranked_77 : decode cX10_ranked 77 = .ok (.iinc 6 1, 3) := by decide +kernel
theorem dX10_ranked_80 : decode cX10_ranked 80 = .ok (.goto (-58), 3) := by decide +kernel
theorem dX10_ranked_83 : decode cX10_ranked 83 = .ok (.iload 5, 2) := by decide +kernel
theorem dX10_ranked_85 : decode cX10_ranked 85 = .ok (.iload_n 2, 1) := by decide +kernel
theorem dX10_ranked_86 : decode cX10_ranked 86 = .ok (.if_icmp .ne 8, 3) := by decide +kernel
theorem dX10_ranked_89 : decode cX10_ranked 89 = .ok (.iload 4, 2) := by decide +kernel
theorem dX10_ranked_91 : decode cX10_ranked 91 = .ok (.goto 4, 3) := by decide +kernel
theorem dX10_ranked_94 : decode cX10_ranked 94 = .ok (.iload_n 3, 1) := by decide +kernel
theorem dX10_ranked_95 : decode cX10_ranked 95 = .ok (.istore_n 3, 1) := by decide +kernel
theorem dX10_ranked_96 : decode cX10_ranked 96 = .ok (.iinc 4 1, 3) := by decide +kernel
theorem dX10_ranked_99 : decode cX10_ranked 99 = .ok (.goto (-94), 3) := by decide +kernel
theorem dX10_ranked_102 : decode cX10_ranked 102 = .ok (.aload_n 0, 1) := by decide +kernel
theorem dX10_ranked_103 : decode cX10_ranked 103 = .ok (.iload_n 1, 1) := by decide +kernel
theorem dX10_ranked_104 : decode cX10_ranked 104 = .ok (.iconst 0, 1) := by decide +kernel
theorem dX10_ranked_105 : decode cX10_ranked 105 = .ok (.iconst 3, 1) := by decide +kernel
theorem dX10_ranked_106 : decode cX10_ranked 106 = .ok (.invokestatic 70, 3) := by decide +kernel
theorem dX10_ranked_109 : decode cX10_ranked 109 = .ok (.iload_n 3, 1) := by decide +kernel
theorem dX10_ranked_110 : decode cX10_ranked 110 = .ok (.iconst (-1), 1) := by decide +kernel
theorem dX10_ranked_111 : decode cX10_ranked 111 = .ok (.if_icmp .eq 7, 3) := by decide +kernel
theorem dX10_ranked_114 : decode cX10_ranked 114 = .ok (.iconst 1, 1) := by decide +kernel
theorem dX10_ranked_115 : decode cX10_ranked 115 = .ok (.goto 4, 3) := by decide +kernel
theorem dX10_ranked_118 : decode cX10_ranked 118 = .ok (.iconst 0, 1) := by decide +kernel
theorem dX10_ranked_119 : decode cX10_ranked 119 = .ok (.invokevirtual 74, 3) := by decide +kernel
theorem dX10_ranked_122 : decode cX10_ranked 122 = .ok (.ifCond .eq 7, 3) := by decide +kernel
theorem dX10_ranked_125 : decode cX10_ranked 125 = .ok (.iload_n 3, 1) := by decide +kernel
theorem dX10_ranked_126 : decode cX10_ranked 126 = .ok (.goto 4, 3) := by decide +kernel
theorem dX10_ranked_129 : decode cX10_ranked 129 = .ok (.iconst 0, 1) := by decide +kernel
theorem dX10_ranked_130 : decode cX10_ranked 130 = .ok (.ireturn, 1) := by decide +kernel
theorem vm_X10_ranked : aVm yX10_ranked RX10 cX10_ranked 8 (some .int) 2 := ⟨tw_1843, tw_1841, tw_1842, tw_15, rfl, by decide +kernel, by decide +kernel, by decide +kernel⟩
theorem dX10_strongest_0 : decode cX10_strongest 0 = .ok (.iconst (-1), 1) := by decide +kernel
theorem dX10_strongest_1 : decode cX10_strongest 1 = .ok (.istore_n 2, 1) := by decide +kernel
theorem dX10_strongest_2 : decode cX10_strongest 2 = .ok (.iconst 0, 1) := by decide +kernel
theorem dX10_strongest_3 : decode cX10_strongest 3 = .ok (.istore_n 3, 1) := by decide +kernel
theorem dX10_strongest_4 : decode cX10_strongest 4 = .ok (.iload_n 3, 1) := by decide +kernel
theorem dX10_strongest_5 : decode cX10_strongest 5 = .ok (.aload_n 0, 1) := by decide +kernel
theorem dX10_strongest_6 : decode cX10_strongest 6 = .ok (.getfield 9, 3) := by decide +kernel
theorem dX10_strongest_9 : decode cX10_strongest 9 = .ok (.iconst 1, 1) := by decide +kernel
theorem dX10_strongest_10 : decode cX10_strongest 10 = .ok (.iaload, 1) := by decide +kernel
theorem dX10_strongest_11 : decode cX10_strongest 11 = .ok (.if_icmp .ge 150, 3) := by decide +kernel
theorem dX10_strongest_14 : decode cX10_strongest 14 = .ok (.iconst 0, 1) := by decide +kernel
theorem dX10_strongest_15 : decode cX10_strongest 15 = .ok (.istore 4, 2) := by decide +kernel
theorem dX10_strongest_17 : decode cX10_strongest 17 = .ok (.iconst 0, 1) := by decide +kernel
theorem dX10_strongest_18 : decode cX10_strongest 18 = .ok (.istore 5, 2) := by decide +kernel
theorem dX10_strongest_20 : decode cX10_strongest 20 = .ok (.iload 5, 2) := by decide +kernel
theorem dX10_strongest_22 : decode cX10_strongest 22 = .ok (.aload_n 0, 1) := by decide +kernel
theorem dX10_strongest_23 : decode cX10_strongest 23 = .ok (.getfield 9, 3) := by decide +kernel
theorem dX10_strongest_26 : decode cX10_strongest 26 = .ok (.iconst 1, 1) := by decide +kernel
theorem dX10_strongest_27 : decode cX10_strongest 27 = .ok (.iaload, 1) := by decide +kernel
theorem dX10_strongest_28 : decode cX10_strongest 28 = .ok (.if_icmp .ge 115, 3) := by decide +kernel
theorem dX10_strongest_31 : decode cX10_strongest 31 = .ok (.aload_n 0, 1) := by decide +kernel
theorem dX10_strongest_32 : decode cX10_strongest 32 = .ok (.getfield 9, 3) := by decide +kernel
theorem dX10_strongest_35 : decode cX10_strongest 35 = .ok (.iload 5, 2) := by decide +kernel
theorem dX10_strongest_37 : decode cX10_strongest 37 = .ok (.invokestatic 86, 3) := by decide +kernel
theorem dX10_strongest_40 : decode cX10_strongest 40 = .ok (.iconst 1, 1) := by decide +kernel
theorem dX10_strongest_41 : decode cX10_strongest 41 = .ok (.iadd, 1) := by decide +kernel
theorem dX10_strongest_42 : decode cX10_strongest 42 = .ok (.iaload, 1) := by decide +kernel
theorem dX10_strongest_43 : decode cX10_strongest 43 = .ok (.aload_n 0, 1) := by decide +kernel
theorem dX10_strongest_44 : decode cX10_strongest 44 = .ok (.getfield 9, 3) := by decide +kernel
theorem dX10_strongest_47 : decode cX10_strongest 47 = .ok (.iload_n 3, 1) := by decide +kernel
theorem dX10_strongest_48 : decode cX10_strongest 48 = .ok (.invokestatic 86, 3) := by decide +kernel
theorem dX10_strongest_51 : decode cX10_strongest 51 = .ok (.iconst 1, 1) := by decide +kernel
theorem dX10_strongest_52 : decode cX10_strongest 52 = .ok (.iadd, 1) := by decide +kernel
theorem dX10_strongest_53 : decode cX10_strongest 53 = .ok (.iaload, 1) := by decide +kernel
theorem dX10_strongest_54 : decode cX10_strongest 54 = .ok (.isub, 1) := by decide +kernel
theorem dX10_strongest_55 : decode cX10_strongest 55 = .ok (.istore 6, 2) := by decide +kernel
theorem dX10_strongest_57 : decode cX10_strongest 57 = .ok (.aload_n 0, 1) := by decide +kernel
theorem dX10_strongest_58 : decode cX10_strongest 58 = .ok (.getfield 9, 3) := by decide +kernel
theorem dX10_strongest_61 : decode cX10_strongest 61 = .ok (.iload 5, 2) := by decide +kernel
theorem dX10_strongest_63 : decode cX10_strongest 63 = .ok (.invokestatic 86, 3) := by decide +kernel
theorem dX10_strongest_66 : decode cX10_strongest 66 = .ok (.iconst 2, 1) := by decide +kernel
theorem dX10_strongest_67 : decode cX10_strongest 67 = .ok (.iadd, 1) := by decide +kernel
theorem dX10_strongest_68 : decode cX10_strongest 68 = .ok (.iaload, 1) := by decide +kernel
theorem dX10_strongest_69 : decode cX10_strongest 69 = .ok (.iconst (-1), 1) := by decide +kernel
theorem dX10_strongest_70 : decode cX10_strongest 70 = .ok (.if_icmp .ne 7, 3) := by decide +kernel
theorem dX10_strongest_73 : decode cX10_strongest 73 = .ok (.iconst 1, 1) := by decide +kernel
theorem dX10_strongest_74 : decode cX10_strongest 74 = .ok (.goto 4, 3) := by decide +kernel
theorem dX10_strongest_77 : decode cX10_strongest 77 = .ok (.iconst 0, 1) := by decide +kernel
theorem dX10_strongest_78 : decode cX10_strongest 78 = .ok (.aload_n 0, 1) := by decide +kernel
theorem dX10_strongest_79 : decode cX10_strongest 79 = .ok (.getfield 9, 3) := by decide +kernel
theorem dX10_strongest_82 : decode cX10_strongest 82 = .ok (.iload_n 3, 1) := by decide +kernel
theorem dX10_strongest_83 : decode cX10_strongest 83 = .ok (.invokestatic 86, 3) := by decide +kernel
theorem dX10_strongest_86 : decode cX10_strongest 86 = .ok (.iconst 2, 1) := by decide +kernel
theorem dX10_strongest_87 : decode cX10_strongest 87 = .ok (.iadd, 1) := by decide +kernel
theorem dX10_strongest_88 : decode cX10_strongest 88 = .ok (.iaload, 1) := by decide +kernel
theorem dX10_strongest_89 : decode cX10_strongest 89 = .ok (.iconst (-1), 1) := by decide +kernel
theorem dX10_strongest_90 : decode cX10_strongest 90 = .ok (.if_icmp .ne 7, 3) := by decide +kernel
theorem dX10_strongest_93 : decode cX10_strongest 93 = .ok (.iconst 1, 1) := by decide +kernel
theorem dX10_strongest_94 : decode cX10_strongest 94 = .ok (.goto 4, 3) := by decide +kernel
theorem dX10_strongest_97 : decode cX10_strongest 97 = .ok (.iconst 0, 1) := by decide +kernel
theorem dX10_strongest_98 : decode cX10_strongest 98 = .ok (.isub, 1) := by decide +kernel
theorem dX10_strongest_99 : decode cX10_strongest 99 = .ok (.istore 7, 2) := by decide +kernel
theorem dX10_strongest_101 : decode cX10_strongest 101 = .ok (.iload 4, 2) := by decide +kernel
theorem dX10_strongest_103 : decode cX10_strongest 103 = .ok (.iload 6, 2) := by decide +kernel
theorem dX10_strongest_105 : decode cX10_strongest 105 = .ok (.ifCond .gt 24, 3) := by decide +kernel
theorem dX10_strongest_108 : decode cX10_strongest 108 = .ok (.iload 6, 2) := by decide +kernel
theorem dX10_strongest_110 : decode cX10_strongest 110 = .ok (.ifCond .ne 23, 3) := by decide +kernel
theorem dX10_strongest_113 : decode cX10_strongest 113 = .ok (.iload 7, 2) := by decide +kernel
theorem dX10_strongest_115 : decode cX10_strongest 115 = .ok (.ifCond .gt 14, 3) := by decide +kernel
theorem dX10_strongest_118 : decode cX10_strongest 118 = .ok (.iload 7, 2) := by decide +kernel
theorem dX10_strongest_120 : decode cX10_strongest 120 = .ok (.ifCond .ne 13, 3) := by decide +kernel
theorem dX10_strongest_123 : decode cX10_strongest 123 = .ok (.iload 5, 2) := by decide +kernel
theorem dX10_strongest_125 : decode cX10_strongest 125 = .ok (.iload_n 3, 1) := by decide +kernel
theorem dX10_strongest_126 : decode cX10_strongest 126 = .ok (.if_icmp .ge 7, 3) := by decide +kernel
theorem dX10_strongest_129 : decode cX10_strongest 129 = .ok (.iconst 1, 1) := by decide +kernel
theorem dX10_strongest_130 : decode cX10_strongest 130 = .ok (.goto 4, 3) := by decide +kernel
theorem dX10_strongest_133 : decode cX10_strongest 133 = .ok (.iconst 0, 1) := by decide +kernel
theorem dX10_strongest_134 : decode cX10_strongest 134 = .ok (.iadd, 1) := by decide +kernel
theorem dX10_strongest_135 : decode cX10_strongest 135 = .ok (.istore 4, 2) := by decide +kernel
theorem dX10_strongest_137 : decode cX10_strongest 137 = .ok (.iinc 5 1, 3) := by decide +kernel
theorem dX10_strongest_140 : decode cX10_strongest 140 = .ok (.goto (-120), 3) := by decide +kernel
theorem dX10_strongest_143 : decode cX10_strongest 143 = .ok (.iload 4, 2) := by decide +kernel
theorem dX10_strongest_145 : decode cX10_strongest 145 = .ok (.iload_n 1, 1) := by decide +kernel
theorem dX10_strongest_146 : decode cX10_strongest 146 = .ok (.if_icmp .ne 7, 3) := by decide +kernel
theorem dX10_strongest_149 : decode cX10_strongest 149 = .ok (.iload_n 3, 1) := by decide +kernel
theorem dX10_strongest_150 : decode cX10_strongest 150 = .ok (.goto 4, 3) := by decide +kernel
theorem dX10_strongest_153 : decode cX10_strongest 153 = .ok (.iload_n 2, 1) := by decide +kernel
theorem dX10_strongest_154 : decode cX10_strongest 154 = .ok (.istore_n 2, 1) := by decide +kernel
theorem dX10_strongest_155 : decode cX10_strongest 155 = .ok (.iinc 3 1, 3) := by decide +kernel
theorem dX10_strongest_158 : decode cX10_strongest 158 = .ok (.goto (-154), 3) := by decide +kernel
theorem dX10_strongest_161 : decode cX10_strongest 161 = .ok (.aload_n 0, 1) := by decide +kernel
theorem dX10_strongest_162 : decode cX10_strongest 162 = .ok (.iload_n 2, 1) := by decide +kernel
theorem dX10_strongest_163 : decode cX10_strongest 163 = .ok (.iconst (-1), 1) := by decide +kernel
theorem dX10_strongest_164 : decode cX10_strongest 164 = .ok (.if_icmp .eq 7, 3) := by decide +kernel
theorem dX10_strongest_167 : decode cX10_strongest 167 = .ok (.iconst 1, 1) := by decide +kernel
theorem dX10_strongest_168 : decode cX10_strongest 168 = .ok (.goto 4, 3) := by decide +kernel
theorem dX10_strongest_171 : decode cX10_strongest 171 = .ok (.iconst 0, 1) := by decide +kernel
theorem dX10_strongest_172 : decode cX10_strongest 172 = .ok (.iconst 1, 1) := by decide +kernel
theorem dX10_strongest_173 : decode cX10_strongest 173 = .ok (.invokevirtual 74, 3) := by decide +kernel
theorem dX10_strongest_176 : decode cX10_strongest 176 = .ok (.ifCond .eq 7, 3) := by decide +kernel
theorem dX10_strongest_179 : decode cX10_strongest 179 = .ok (.iload_n 2, 1) := by decide +kernel
theorem dX10_strongest_180 : decode cX10_strongest 180 = .ok (.goto 4, 3) := by decide +kernel
theorem dX10_strongest_183 : decode cX10_strongest 183 = .ok (.iconst 0, 1) := by decide +kernel
theorem dX10_strongest_184 : decode cX10_strongest 184 = .ok (.ireturn, 1) := by decide +kernel
theorem vm_X10_strongest : aVm yX10_strongest RX10 cX10_strongest 8 (some .int) 1 := ⟨tw_1851, tw_1849, tw_1850, tw_15, rfl, by decide +kernel, by decide +kernel, by decide +kernel⟩
theorem dX10_isTold_0 : decode cX10_isTold 0 = .ok (.aload_n 0, 1) := by decide +kernel
theorem dX10_isTold_1 : decode cX10_isTold 1 = .ok (.iconst 0, 1) := by decide +kernel
theorem dX10_isTold_2 : decode cX10_isTold 2 = .ok (.putfield 35, 3) := by decide +kernel
theorem dX10_isTold_5 : decode cX10_isTold 5 = .ok (.iconst 1, 1) := by decide +kernel
theorem dX10_isTold_6 : decode cX10_isTold 6 = .ok (.ireturn, 1) := by decide +kernel
theorem vm_X10_isTold : aVm yX10_isTold RX10 cX10_isTold 1 (some .boolean) 0 := ⟨tw_1855, tw_1853, tw_1854, tw_15, rfl, by decide +kernel, by decide +kernel, by decide +kernel⟩
def w_X10_roomOf (x1 : Int32) (x2 : Int32) (q : aS) (P : Int32 → aS → Prop) : Prop := w_X10_isRoom x1 q (fun r3 q4 => w_X10_isIn x2 0 5 q4 (fun r5 q6 => w_X10_goes r3 r5 q6 (fun r7 q8 => ((¬ r7 = 0 → ((x2 = 0 → w_X10_roomAt x1 q8 (fun r9 q10 => (vp_in (r9 + x2) 97 ∧ P (q10.1 1 (Int32.toNatClampNeg (r9 + x2))) q10))) ∧ (¬ x2 = 0 → ((x2 = 1 → w_X10_roomAt x1 q8 (fun r11 q12 => (vp_in (r11 + x2) 97 ∧ P (q12.1 1 (Int32.toNatClampNeg (r11 + x2))) q12))) ∧ (¬ x2 = 1 → ((x2 = 2 → w_X10_othersIn x1 q8 (fun r13 q14 => P r13 q14)) ∧ (¬ x2 = 2 → ((x2 = 3 → w_X10_echoesIn x1 0 q8 (fun r15 q16 => w_J6_bitCount_0f7a4 r15 q16 (fun r17 q18 => P r17 q18))) ∧ (¬ x2 = 3 → ((x2 = 4 → w_X10_echoesIn x1 0 q8 (fun r19 q20 => w_J6_bitCount_0f7a4 r19 q20 (fun r21 q22 => w_X10_echoesIn x1 1 q22 (fun r23 q24 => w_J6_bitCount_0f7a4 r23 q24 (fun r25 q26 => P (r21 - r25) q26))))) ∧ (¬ x2 = 4 → w_X10_roomAt x1 q8 (fun r27 q28 => (vp_in (r27 + 2) 97 ∧ P (q28.1 1 (Int32.toNatClampNeg (r27 + 2))) q28))))))))))))) ∧ (r7 = 0 → P 0 q8)))))
def w_X10_echoOf (x1 : Int32) (x2 : Int32) (q : aS) (P : Int32 → aS → Prop) : Prop := w_X10_isEcho x1 q (fun r3 q4 => w_X10_isIn x2 0 4 q4 (fun r5 q6 => w_X10_goes r3 r5 q6 (fun r7 q8 => ((r7 = 0 → P 0 q8) ∧ (¬ r7 = 0 → w_X10_echoAt x1 q8 (fun r9 q10 => (vp_in (r9 + x2) 97 ∧ P (q10.1 1 (Int32.toNatClampNeg (r9 + x2))) q10)))))))
def JX10_letTo_36 (c1 : Int32) (c2 : Int32) (j3 : Int32) (j4 : Int32) (s0 : Int32) (P : Int32 → aS → Prop) (B : Int32 → Int32 → aS → Prop) (K : Int32 → aS → Prop) (q : aS) : Prop := w_X10_echoAt j4 q (fun r3 q4 => (vp_in (r3 + 2) 97 ∧ ((¬ (q4.1 1 (Int32.toNatClampNeg (r3 + 2))) = c1 → ∀ x5 : Int32, x5 = (j3 + 0) → ∀ x6 : Int32, x6 = j4 + 1 → B x5 x6 q4) ∧ ((q4.1 1 (Int32.toNatClampNeg (r3 + 2))) = c1 → ∀ x7 : Int32, x7 = (j3 + s0) → ∀ x8 : Int32, x8 = j4 + 1 → B x7 x8 q4))))
def LX10_letTo_5 (c1 : Int32) (c2 : Int32) (P : Int32 → aS → Prop) (K : Int32 → aS → Prop) : Nat → Int32 → Int32 → aS → Prop
  | 0, _, _, _ => False
  | N + 1, v3, v4, q => (vp_in 1 97 ∧ (((q.1 1 (Int32.toNatClampNeg 1)) ≤ v4 → K v3 q) ∧ (¬ (q.1 1 (Int32.toNatClampNeg 1)) ≤ v4 → ((c2 = 0 → JX10_letTo_36 c1 c2 v3 v4 1 P (LX10_letTo_5 c1 c2 P K N) K q) ∧ (¬ c2 = 0 → w_X10_echoAt v4 q (fun r9 q10 => (vp_in (r9 + 1) 97 ∧ JX10_letTo_36 c1 c2 v3 v4 (q10.1 1 (Int32.toNatClampNeg (r9 + 1))) P (LX10_letTo_5 c1 c2 P K N) K q10)))))))
def w_X10_letTo (x1 : Int32) (x2 : Int32) (q : aS) (P : Int32 → aS → Prop) : Prop := ∃ M13, LX10_letTo_5 x1 x2 P (fun y11 q12 => P y11 q12) M13 0 0 q
def w_X10_singerOf (x1 : Int32) (x2 : Int32) (q : aS) (P : Int32 → aS → Prop) : Prop := w_X10_isSinger x1 q (fun r3 q4 => w_X10_isIn x2 0 6 q4 (fun r5 q6 => w_X10_goes r3 r5 q6 (fun r7 q8 => ((¬ r7 = 0 → w_X10_singerAt x1 q8 (fun r9 q10 => ((x2 = 0 → (vp_in (r9 + x2) 97 ∧ P (q10.1 1 (Int32.toNatClampNeg (r9 + x2))) q10)) ∧ (¬ x2 = 0 → ((x2 = 1 → (vp_in (r9 + x2) 97 ∧ P (q10.1 1 (Int32.toNatClampNeg (r9 + x2))) q10)) ∧ (¬ x2 = 1 → ((x2 = 2 → (vp_in (r9 + x2) 97 ∧ P (q10.1 1 (Int32.toNatClampNeg (r9 + x2))) q10)) ∧ (¬ x2 = 2 → ((x2 = 3 → w_X10_letTo x1 0 q10 (fun r11 q12 => P r11 q12)) ∧ (¬ x2 = 3 → ((x2 = 4 → (vp_in (r9 + 3) 97 ∧ P (q10.1 1 (Int32.toNatClampNeg (r9 + 3))) q10)) ∧ (¬ x2 = 4 → ((x2 = 5 → (vp_in (r9 + 4) 97 ∧ P (q10.1 1 (Int32.toNatClampNeg (r9 + 4))) q10)) ∧ (¬ x2 = 5 → w_X10_letTo x1 1 q10 (fun r13 q14 => P r13 q14))))))))))))))) ∧ (r7 = 0 → P 0 q8)))))
def JX10_tonesIn_88 (c1 : Int32) (c2 : Int32) (c3 : Int32) (c5 : Int32) (j4 : Int32) (j6 : Int32) (j7 : Int32) (s0 : Int32) (P : Int32 → aS → Prop) (B : Int32 → Int32 → aS → Prop) (K : Int32 → aS → Prop) (q : aS) : Prop := ((s0 = 0 → ∀ x9 : Int32, x9 = (j4 + 0) → ∀ x10 : Int32, x10 = j6 + 1 → B x9 x10 q) ∧ (¬ s0 = 0 → (vp_in (j7 + 1) 97 ∧ ∀ x11 : Int32, x11 = (j4 + (if 0 < ((q.1 1 (Int32.toNatClampNeg (j7 + 1))) - c5) then ((q.1 1 (Int32.toNatClampNeg (j7 + 1))) - c5) else 0)) → ∀ x12 : Int32, x12 = j6 + 1 → B x11 x12 q)))
def JX10_tonesIn_87 (c1 : Int32) (c2 : Int32) (c3 : Int32) (c5 : Int32) (j4 : Int32) (j6 : Int32) (j7 : Int32) (P : Int32 → aS → Prop) (B : Int32 → Int32 → aS → Prop) (K : Int32 → aS → Prop) (q : aS) : Prop := JX10_tonesIn_88 c1 c2 c3 c5 j4 j6 j7 0 P B K q
def LX10_tonesIn_26 (c1 : Int32) (c2 : Int32) (c3 : Int32) (c5 : Int32) (P : Int32 → aS → Prop) (K : Int32 → aS → Prop) : Nat → Int32 → Int32 → aS → Prop
  | 0, _, _, _ => False
  | N + 1, v4, v6, q => (vp_in 1 97 ∧ (((q.1 1 (Int32.toNatClampNeg 1)) ≤ v6 → K v4 q) ∧ (¬ (q.1 1 (Int32.toNatClampNeg 1)) ≤ v6 → w_X10_echoAt v6 q (fun r7 q8 => (vp_in (r7 + 0) 97 ∧ ((¬ (q8.1 1 (Int32.toNatClampNeg (r7 + 0))) = c2 → JX10_tonesIn_87 c1 c2 c3 c5 v4 v6 r7 P (LX10_tonesIn_26 c1 c2 c3 c5 P K N) K q8) ∧ ((q8.1 1 (Int32.toNatClampNeg (r7 + 0))) = c2 → (vp_in (r7 + 2) 97 ∧ ((¬ (q8.1 1 (Int32.toNatClampNeg (r7 + 2))) = c1 → JX10_tonesIn_87 c1 c2 c3 c5 v4 v6 r7 P (LX10_tonesIn_26 c1 c2 c3 c5 P K N) K q8) ∧ ((q8.1 1 (Int32.toNatClampNeg (r7 + 2))) = c1 → (vp_in (r7 + 3) 97 ∧ (((q8.1 1 (Int32.toNatClampNeg (r7 + 3))) ≤ c3 → JX10_tonesIn_87 c1 c2 c3 c5 v4 v6 r7 P (LX10_tonesIn_26 c1 c2 c3 c5 P K N) K q8) ∧ (¬ (q8.1 1 (Int32.toNatClampNeg (r7 + 3))) ≤ c3 → JX10_tonesIn_88 c1 c2 c3 c5 v4 v6 r7 1 P (LX10_tonesIn_26 c1 c2 c3 c5 P K N) K q8)))))))))))))
def w_X10_tonesIn (x1 : Int32) (x2 : Int32) (x3 : Int32) (q : aS) (P : Int32 → aS → Prop) : Prop := w_X10_roomAt x2 q (fun r4 q5 => (vp_in (r4 + 1) 97 ∧ ∀ x6 : Int32, x6 = (if ((q5.1 1 (Int32.toNatClampNeg (r4 + 1))) + x3) < 9 then ((q5.1 1 (Int32.toNatClampNeg (r4 + 1))) + x3) else 9) → ∃ M15, LX10_tonesIn_26 x1 x2 x3 x6 P (fun y13 q14 => P y13 q14) M15 0 0 q5))
def w_X10_isInside (x1 : Int32) (q : aS) (P : Int32 → aS → Prop) : Prop := w_X10_isSinger x1 q (fun r2 q3 => ((r2 = 0 → P 0 q3) ∧ (¬ r2 = 0 → w_X10_singerAt x1 q3 (fun r4 q5 => (vp_in (r4 + 2) 97 ∧ (((q5.1 1 (Int32.toNatClampNeg (r4 + 2))) = (-1) → P 0 q5) ∧ (¬ (q5.1 1 (Int32.toNatClampNeg (r4 + 2))) = (-1) → P 1 q5)))))))
def w_X10_tonesNow (x1 : Int32) (q : aS) (P : Int32 → aS → Prop) : Prop := w_X10_isSinger x1 q (fun r2 q3 => w_X10_isInside x1 q3 (fun r4 q5 => w_X10_goes r2 r4 q5 (fun r6 q7 => ((r6 = 0 → P 0 q7) ∧ (¬ r6 = 0 → w_X10_singerAt x1 q7 (fun r8 q9 => (vp_in (r8 + 2) 97 ∧ w_X10_tonesIn x1 (q9.1 1 (Int32.toNatClampNeg (r8 + 2))) 0 q9 (fun r10 q11 => P r10 q11))))))))
def w_X10_tones (x1 : Int32) (q : aS) (P : Int32 → aS → Prop) : Prop := w_X10_tonesNow x1 q (fun r2 q3 => P r2 q3)
def w_X10_tonesAgain (x1 : Int32) (q : aS) (P : Int32 → aS → Prop) : Prop := w_X10_tonesNow x1 q (fun r2 q3 => P r2 q3)
def LX10_versesNow_21 (c1 : Int32) (P : Int32 → aS → Prop) (K : Int32 → aS → Prop) : Nat → Int32 → aS → Prop
  | 0, _, _ => False
  | N + 1, v2, q => w_X10_singerAt c1 q (fun r8 q9 => (vp_in (r8 + 2) 97 ∧ w_X10_tonesIn c1 (q9.1 1 (Int32.toNatClampNeg (r8 + 2))) v2 q9 (fun r10 q11 => ((r10 ≤ 0 → K v2 q11) ∧ (¬ r10 ≤ 0 → ∀ x12 : Int32, x12 = v2 + 1 → (LX10_versesNow_21 c1 P K N) x12 q11)))))
def w_X10_versesNow (x1 : Int32) (q : aS) (P : Int32 → aS → Prop) : Prop := w_X10_isSinger x1 q (fun r2 q3 => w_X10_isInside x1 q3 (fun r4 q5 => w_X10_goes r2 r4 q5 (fun r6 q7 => ((¬ r6 = 0 → ∃ M15, LX10_versesNow_21 x1 P (fun y13 q14 => P y13 q14) M15 0 q7) ∧ (r6 = 0 → P 0 q7)))))
def w_X10_verses (x1 : Int32) (q : aS) (P : Int32 → aS → Prop) : Prop := w_X10_versesNow x1 q (fun r2 q3 => P r2 q3)
def w_X10_versesAgain (x1 : Int32) (q : aS) (P : Int32 → aS → Prop) : Prop := w_X10_versesNow x1 q (fun r2 q3 => P r2 q3)
def JX10_would_22 (j1 : Int32) (j2 : Int32) (s0 : Int32) (P : Int32 → aS → Prop) (q : aS) : Prop := w_X10_goes s0 1 q (fun r5 q6 => ((r5 = 0 → P 0 q6) ∧ (¬ r5 = 0 → w_X10_tonesIn j1 j2 0 q6 (fun r7 q8 => P r7 q8))))
def JX10_would_21 (j1 : Int32) (j2 : Int32) (P : Int32 → aS → Prop) (q : aS) : Prop := JX10_would_22 j1 j2 0 P q
def w_X10_would (x1 : Int32) (x2 : Int32) (q : aS) (P : Int32 → aS → Prop) : Prop := w_X10_isSinger x1 q (fun r3 q4 => ((r3 = 0 → JX10_would_21 x1 x2 P q4) ∧ (¬ r3 = 0 → w_X10_isRoom x2 q4 (fun r9 q10 => ((r9 = 0 → JX10_would_21 x1 x2 P q10) ∧ (¬ r9 = 0 → JX10_would_22 x1 x2 1 P q10))))))
def LX10_bestRoom_32 (c1 : Int32) (P : Int32 → aS → Prop) (K : Int32 → aS → Prop) : Nat → Int32 → Int32 → aS → Prop
  | 0, _, _, _ => False
  | N + 1, v2, v3, q => (vp_in 0 97 ∧ (((q.1 1 (Int32.toNatClampNeg 0)) ≤ v3 → K v2 q) ∧ (¬ (q.1 1 (Int32.toNatClampNeg 0)) ≤ v3 → w_X10_tonesIn c1 v3 0 q (fun r6 q7 => w_X10_tonesIn c1 v2 0 q7 (fun r8 q9 => ((r6 ≤ r8 → ∀ x10 : Int32, x10 = v3 + 1 → (LX10_bestRoom_32 c1 P K N) v2 x10 q9) ∧ (¬ r6 ≤ r8 → ∀ x11 : Int32, x11 = v3 + 1 → (LX10_bestRoom_32 c1 P K N) v3 x11 q9)))))))
def JX10_bestRoom_20 (j1 : Int32) (s0 : Int32) (s1 : Int32) (P : Int32 → aS → Prop) (q : aS) : Prop := w_X10_goes s1 s0 q (fun r4 q5 => ((¬ r4 = 0 → ∃ M14, LX10_bestRoom_32 j1 P (fun y12 q13 => P y12 q13) M14 0 1 q5) ∧ (r4 = 0 → P 0 q5)))
def w_X10_bestRoom (x1 : Int32) (q : aS) (P : Int32 → aS → Prop) : Prop := w_X10_isSinger x1 q (fun r2 q3 => (vp_in 0 97 ∧ (((q3.1 1 (Int32.toNatClampNeg 0)) ≤ 0 → JX10_bestRoom_20 x1 0 r2 P q3) ∧ (¬ (q3.1 1 (Int32.toNatClampNeg 0)) ≤ 0 → JX10_bestRoom_20 x1 1 r2 P q3))))
def JX10_canEnter_22 (j1 : Int32) (j2 : Int32) (s0 : Int32) (P : Int32 → aS → Prop) (q : aS) : Prop := w_X10_goes s0 1 q (fun r5 q6 => ((¬ r5 = 0 → ∀ q7 : aS, q7 = (up2 q6.1 0 16 0, q6.2) → w_X10_asksRoom j1 j2 q7 (fun _ q9 => ((¬ (q9.1 0 16) = 0 → P 0 q9) ∧ ((q9.1 0 16) = 0 → P 1 q9)))) ∧ (r5 = 0 → P 0 q6)))
def JX10_canEnter_21 (j1 : Int32) (j2 : Int32) (P : Int32 → aS → Prop) (q : aS) : Prop := JX10_canEnter_22 j1 j2 0 P q
def w_X10_canEnter (x1 : Int32) (x2 : Int32) (q : aS) (P : Int32 → aS → Prop) : Prop := w_X10_isSinger x1 q (fun r3 q4 => ((r3 = 0 → JX10_canEnter_21 x1 x2 P q4) ∧ (¬ r3 = 0 → w_X10_isRoom x2 q4 (fun r10 q11 => ((r10 = 0 → JX10_canEnter_21 x1 x2 P q11) ∧ (¬ r10 = 0 → JX10_canEnter_22 x1 x2 1 P q11))))))
def JX10_canRent_22 (j1 : Int32) (j2 : Int32) (s0 : Int32) (P : Int32 → aS → Prop) (q : aS) : Prop := w_X10_goes s0 1 q (fun r5 q6 => ((¬ r5 = 0 → ∀ q7 : aS, q7 = (up2 q6.1 0 16 0, q6.2) → w_X10_asksEcho j1 j2 q7 (fun _ q9 => ((¬ (q9.1 0 16) = 0 → P 0 q9) ∧ ((q9.1 0 16) = 0 → P 1 q9)))) ∧ (r5 = 0 → P 0 q6)))
def JX10_canRent_21 (j1 : Int32) (j2 : Int32) (P : Int32 → aS → Prop) (q : aS) : Prop := JX10_canRent_22 j1 j2 0 P q
def w_X10_canRent (x1 : Int32) (x2 : Int32) (q : aS) (P : Int32 → aS → Prop) : Prop := w_X10_isSinger x1 q (fun r3 q4 => ((r3 = 0 → JX10_canRent_21 x1 x2 P q4) ∧ (¬ r3 = 0 → w_X10_isEcho x2 q4 (fun r10 q11 => ((r10 = 0 → JX10_canRent_21 x1 x2 P q11) ∧ (¬ r10 = 0 → JX10_canRent_22 x1 x2 1 P q11))))))
def JX10_backFor_37 (j1 : Int32) (s0 : Int32) (P : Int32 → aS → Prop) (q : aS) : Prop := w_X10_isEcho j1 q (fun r4 q5 => w_X10_goes r4 s0 q5 (fun r6 q7 => ((r6 = 0 → P 0 q7) ∧ (¬ r6 = 0 → w_X10_worthOf j1 q7 (fun r8 q9 => P r8 q9)))))
def JX10_backFor_36 (j1 : Int32) (P : Int32 → aS → Prop) (q : aS) : Prop := JX10_backFor_37 j1 0 P q
def w_X10_backFor (x1 : Int32) (q : aS) (P : Int32 → aS → Prop) : Prop := w_X10_isEcho x1 q (fun r2 q3 => ((r2 = 0 → JX10_backFor_36 x1 P q3) ∧ (¬ r2 = 0 → w_X10_echoAt (if 0 < (if x1 < 7 then x1 else 7) then (if x1 < 7 then x1 else 7) else 0) q3 (fun r10 q11 => (vp_in (r10 + 2) 97 ∧ (((q11.1 1 (Int32.toNatClampNeg (r10 + 2))) = (-1) → JX10_backFor_36 x1 P q11) ∧ (¬ (q11.1 1 (Int32.toNatClampNeg (r10 + 2))) = (-1) → JX10_backFor_37 x1 1 P q11)))))))
def w_X10_others (x1 : Int32) (q : aS) (P : Int32 → aS → Prop) : Prop := w_X10_isRoom x1 q (fun r2 q3 => w_X10_goes r2 1 q3 (fun r4 q5 => ((r4 = 0 → P 0 q5) ∧ (¬ r4 = 0 → w_X10_singersIn x1 q5 (fun r6 q7 => P r6 q7)))))
def w_X10_free (x1 : Int32) (q : aS) (P : Int32 → aS → Prop) : Prop := w_X10_isRoom x1 q (fun r2 q3 => w_X10_goes r2 1 q3 (fun r4 q5 => ((r4 = 0 → P 0 q5) ∧ (¬ r4 = 0 → w_X10_echoesIn x1 1 q5 (fun r6 q7 => P r6 q7)))))
def w_X10_dryIn (x1 : Int32) (q : aS) (P : Int32 → aS → Prop) : Prop := w_X10_isRoom x1 q (fun r2 q3 => w_X10_goes r2 1 q3 (fun r4 q5 => ((r4 = 0 → P 0 q5) ∧ (¬ r4 = 0 → w_X10_roomAt x1 q5 (fun r6 q7 => (vp_in (r6 + 1) 97 ∧ P (((q7.1 1 (Int32.toNatClampNeg (r6 + 1))) + 1) / 2) q7))))))
def LX10_dampest_20 (c1 : Int32) (c2 : Int32) (c3 : Int32) (P : Int32 → aS → Prop) (K : Int32 → aS → Prop) : Nat → Int32 → Int32 → aS → Prop
  | 0, _, _, _ => False
  | N + 1, v4, v5, q => (vp_in 0 97 ∧ (((q.1 1 (Int32.toNatClampNeg 0)) ≤ v5 → K v4 q) ∧ (¬ (q.1 1 (Int32.toNatClampNeg 0)) ≤ v5 → w_X10_roomAt v5 q (fun r2 q3 => (vp_in (r2 + 1) 97 ∧ w_X10_roomAt c3 q3 (fun r4 q5 => (vp_in (r4 + 1) 97 ∧ ∀ x6 : Int32, x6 = ((q3.1 1 (Int32.toNatClampNeg (r2 + 1))) - (q5.1 1 (Int32.toNatClampNeg (r4 + 1)))) → w_X10_othersIn v5 q5 (fun r7 q8 => w_X10_othersIn c3 q8 (fun r9 q10 => ∀ x11 : Int32, x11 = (r7 - r9) → ((0 < x6 → ∀ x12 : Int32, x12 = (v4 + 1) → ∀ x13 : Int32, x13 = v5 + 1 → (LX10_dampest_20 c1 c2 c3 P K N) x12 x13 q10) ∧ (¬ 0 < x6 → ((¬ x6 = 0 → ∀ x14 : Int32, x14 = (v4 + 0) → ∀ x15 : Int32, x15 = v5 + 1 → (LX10_dampest_20 c1 c2 c3 P K N) x14 x15 q10) ∧ (x6 = 0 → ((0 < x11 → ∀ x16 : Int32, x16 = (v4 + 1) → ∀ x17 : Int32, x17 = v5 + 1 → (LX10_dampest_20 c1 c2 c3 P K N) x16 x17 q10) ∧ (¬ 0 < x11 → ((¬ x11 = 0 → ∀ x18 : Int32, x18 = (v4 + 0) → ∀ x19 : Int32, x19 = v5 + 1 → (LX10_dampest_20 c1 c2 c3 P K N) x18 x19 q10) ∧ (x11 = 0 → ((c3 ≤ v5 → ∀ x20 : Int32, x20 = (v4 + 0) → ∀ x21 : Int32, x21 = v5 + 1 → (LX10_dampest_20 c1 c2 c3 P K N) x20 x21 q10) ∧ (¬ c3 ≤ v5 → ∀ x22 : Int32, x22 = (v4 + 1) → ∀ x23 : Int32, x23 = v5 + 1 → (LX10_dampest_20 c1 c2 c3 P K N) x22 x23 q10)))))))))))))))))))
def LX10_dampest_4 (c1 : Int32) (P : Int32 → aS → Prop) (K : Int32 → aS → Prop) : Nat → Int32 → Int32 → aS → Prop
  | 0, _, _, _ => False
  | N + 1, v2, v3, q => (vp_in 0 97 ∧ (((q.1 1 (Int32.toNatClampNeg 0)) ≤ v3 → K v2 q) ∧ (¬ (q.1 1 (Int32.toNatClampNeg 0)) ≤ v3 → ∃ M28, LX10_dampest_20 c1 v2 v3 P (fun y24 q25 => ((¬ y24 = c1 → ∀ x26 : Int32, x26 = v3 + 1 → (LX10_dampest_4 c1 P K N) v2 x26 q25) ∧ (y24 = c1 → ∀ x27 : Int32, x27 = v3 + 1 → (LX10_dampest_4 c1 P K N) v3 x27 q25))) M28 0 0 q)))
def JX10_dampest_142 (j2 : Int32) (s0 : Int32) (P : Int32 → aS → Prop) (q : aS) : Prop := w_X10_goes s0 1 q (fun r31 q32 => ((r31 = 0 → P 0 q32) ∧ (¬ r31 = 0 → P j2 q32)))
def w_X10_dampest (x1 : Int32) (q : aS) (P : Int32 → aS → Prop) : Prop := ∃ M33, LX10_dampest_4 x1 P (fun y29 q30 => ((y29 = (-1) → JX10_dampest_142 y29 0 P q30) ∧ (¬ y29 = (-1) → JX10_dampest_142 y29 1 P q30))) M33 (-1) 0 q
def w_X10_rankOf (x1 : Int32) (x2 : Int32) (q : aS) (P : Int32 → aS → Prop) : Prop := w_X10_singerAt x1 q (fun r3 q4 => ((¬ x2 = 0 → ((¬ x2 = 1 → ((¬ x2 = 2 → (vp_in (r3 + 0) 97 ∧ P (q4.1 1 (Int32.toNatClampNeg (r3 + 0))) q4)) ∧ (x2 = 2 → (vp_in (r3 + 3) 97 ∧ P (q4.1 1 (Int32.toNatClampNeg (r3 + 3))) q4)))) ∧ (x2 = 1 → (vp_in (r3 + 4) 97 ∧ P (q4.1 1 (Int32.toNatClampNeg (r3 + 4))) q4)))) ∧ (x2 = 0 → (vp_in (r3 + 1) 97 ∧ P (q4.1 1 (Int32.toNatClampNeg (r3 + 1))) q4))))
def LX10_ranked_22 (c1 : Int32) (c2 : Int32) (c3 : Int32) (c4 : Int32) (P : Int32 → aS → Prop) (K : Int32 → aS → Prop) : Nat → Int32 → Int32 → aS → Prop
  | 0, _, _, _ => False
  | N + 1, v5, v6, q => (vp_in 2 97 ∧ (((q.1 1 (Int32.toNatClampNeg 2)) ≤ v6 → K v5 q) ∧ (¬ (q.1 1 (Int32.toNatClampNeg 2)) ≤ v6 → w_X10_rankOf v6 c1 q (fun r3 q4 => w_X10_rankOf c4 c1 q4 (fun r5 q6 => ∀ x7 : Int32, x7 = (r3 - r5) → ((0 < x7 → ∀ x8 : Int32, x8 = (v5 + 1) → ∀ x9 : Int32, x9 = v6 + 1 → (LX10_ranked_22 c1 c2 c3 c4 P K N) x8 x9 q6) ∧ (¬ 0 < x7 → ((¬ x7 = 0 → ∀ x10 : Int32, x10 = (v5 + 0) → ∀ x11 : Int32, x11 = v6 + 1 → (LX10_ranked_22 c1 c2 c3 c4 P K N) x10 x11 q6) ∧ (x7 = 0 → ((c4 ≤ v6 → ∀ x12 : Int32, x12 = (v5 + 0) → ∀ x13 : Int32, x13 = v6 + 1 → (LX10_ranked_22 c1 c2 c3 c4 P K N) x12 x13 q6) ∧ (¬ c4 ≤ v6 → ∀ x14 : Int32, x14 = (v5 + 1) → ∀ x15 : Int32, x15 = v6 + 1 → (LX10_ranked_22 c1 c2 c3 c4 P K N) x14 x15 q6)))))))))))
def LX10_ranked_5 (c1 : Int32) (c2 : Int32) (P : Int32 → aS → Prop) (K : Int32 → aS → Prop) : Nat → Int32 → Int32 → aS → Prop
  | 0, _, _, _ => False
  | N + 1, v3, v4, q => (vp_in 2 97 ∧ (((q.1 1 (Int32.toNatClampNeg 2)) ≤ v4 → K v3 q) ∧ (¬ (q.1 1 (Int32.toNatClampNeg 2)) ≤ v4 → ∃ M20, LX10_ranked_22 c1 c2 v3 v4 P (fun y16 q17 => ((¬ y16 = c2 → ∀ x18 : Int32, x18 = v4 + 1 → (LX10_ranked_5 c1 c2 P K N) v3 x18 q17) ∧ (y16 = c2 → ∀ x19 : Int32, x19 = v4 + 1 → (LX10_ranked_5 c1 c2 P K N) v4 x19 q17))) M20 0 0 q)))
def JX10_ranked_119 (j3 : Int32) (s0 : Int32) (s1 : Int32) (P : Int32 → aS → Prop) (q : aS) : Prop := w_X10_goes s1 s0 q (fun r25 q26 => ((r25 = 0 → P 0 q26) ∧ (¬ r25 = 0 → P j3 q26)))
def w_X10_ranked (x1 : Int32) (x2 : Int32) (q : aS) (P : Int32 → aS → Prop) : Prop := ∃ M27, LX10_ranked_5 x1 x2 P (fun y21 q22 => w_X10_isIn x1 0 3 q22 (fun r23 q24 => ((y21 = (-1) → JX10_ranked_119 y21 0 r23 P q24) ∧ (¬ y21 = (-1) → JX10_ranked_119 y21 1 r23 P q24)))) M27 (-1) 0 q
def JX10_strongest_98 (c1 : Int32) (c2 : Int32) (c3 : Int32) (j4 : Int32) (j5 : Int32) (j6 : Int32) (s0 : Int32) (s1 : Int32) (P : Int32 → aS → Prop) (B : Int32 → Int32 → aS → Prop) (K : Int32 → aS → Prop) (q : aS) : Prop := ∀ x11 : Int32, x11 = (s1 - s0) → ((0 < j6 → ∀ x12 : Int32, x12 = (j4 + 1) → ∀ x13 : Int32, x13 = j5 + 1 → B x12 x13 q) ∧ (¬ 0 < j6 → ((¬ j6 = 0 → ∀ x14 : Int32, x14 = (j4 + 0) → ∀ x15 : Int32, x15 = j5 + 1 → B x14 x15 q) ∧ (j6 = 0 → ((0 < x11 → ∀ x16 : Int32, x16 = (j4 + 1) → ∀ x17 : Int32, x17 = j5 + 1 → B x16 x17 q) ∧ (¬ 0 < x11 → ((¬ x11 = 0 → ∀ x18 : Int32, x18 = (j4 + 0) → ∀ x19 : Int32, x19 = j5 + 1 → B x18 x19 q) ∧ (x11 = 0 → ((c3 ≤ j5 → ∀ x20 : Int32, x20 = (j4 + 0) → ∀ x21 : Int32, x21 = j5 + 1 → B x20 x21 q) ∧ (¬ c3 ≤ j5 → ∀ x22 : Int32, x22 = (j4 + 1) → ∀ x23 : Int32, x23 = j5 + 1 → B x22 x23 q))))))))))
def JX10_strongest_78 (c1 : Int32) (c2 : Int32) (c3 : Int32) (j4 : Int32) (j5 : Int32) (j6 : Int32) (s0 : Int32) (P : Int32 → aS → Prop) (B : Int32 → Int32 → aS → Prop) (K : Int32 → aS → Prop) (q : aS) : Prop := w_X10_echoAt c3 q (fun r9 q10 => (vp_in (r9 + 2) 97 ∧ ((¬ (q10.1 1 (Int32.toNatClampNeg (r9 + 2))) = (-1) → JX10_strongest_98 c1 c2 c3 j4 j5 j6 0 s0 P B K q10) ∧ ((q10.1 1 (Int32.toNatClampNeg (r9 + 2))) = (-1) → JX10_strongest_98 c1 c2 c3 j4 j5 j6 1 s0 P B K q10))))
def LX10_strongest_20 (c1 : Int32) (c2 : Int32) (c3 : Int32) (P : Int32 → aS → Prop) (K : Int32 → aS → Prop) : Nat → Int32 → Int32 → aS → Prop
  | 0, _, _, _ => False
  | N + 1, v4, v5, q => (vp_in 1 97 ∧ (((q.1 1 (Int32.toNatClampNeg 1)) ≤ v5 → K v4 q) ∧ (¬ (q.1 1 (Int32.toNatClampNeg 1)) ≤ v5 → w_X10_echoAt v5 q (fun r2 q3 => (vp_in (r2 + 1) 97 ∧ w_X10_echoAt c3 q3 (fun r4 q5 => (vp_in (r4 + 1) 97 ∧ ∀ x6 : Int32, x6 = ((q3.1 1 (Int32.toNatClampNeg (r2 + 1))) - (q5.1 1 (Int32.toNatClampNeg (r4 + 1)))) → w_X10_echoAt v5 q5 (fun r7 q8 => (vp_in (r7 + 2) 97 ∧ ((¬ (q8.1 1 (Int32.toNatClampNeg (r7 + 2))) = (-1) → JX10_strongest_78 c1 c2 c3 v4 v5 x6 0 P (LX10_strongest_20 c1 c2 c3 P K N) K q8) ∧ ((q8.1 1 (Int32.toNatClampNeg (r7 + 2))) = (-1) → JX10_strongest_78 c1 c2 c3 v4 v5 x6 1 P (LX10_strongest_20 c1 c2 c3 P K N) K q8)))))))))))
def LX10_strongest_4 (c1 : Int32) (P : Int32 → aS → Prop) (K : Int32 → aS → Prop) : Nat → Int32 → Int32 → aS → Prop
  | 0, _, _, _ => False
  | N + 1, v2, v3, q => (vp_in 1 97 ∧ (((q.1 1 (Int32.toNatClampNeg 1)) ≤ v3 → K v2 q) ∧ (¬ (q.1 1 (Int32.toNatClampNeg 1)) ≤ v3 → ∃ M28, LX10_strongest_20 c1 v2 v3 P (fun y24 q25 => ((¬ y24 = c1 → ∀ x26 : Int32, x26 = v3 + 1 → (LX10_strongest_4 c1 P K N) v2 x26 q25) ∧ (y24 = c1 → ∀ x27 : Int32, x27 = v3 + 1 → (LX10_strongest_4 c1 P K N) v3 x27 q25))) M28 0 0 q)))
def JX10_strongest_172 (j2 : Int32) (s0 : Int32) (P : Int32 → aS → Prop) (q : aS) : Prop := w_X10_goes s0 1 q (fun r31 q32 => ((r31 = 0 → P 0 q32) ∧ (¬ r31 = 0 → P j2 q32)))
def w_X10_strongest (x1 : Int32) (q : aS) (P : Int32 → aS → Prop) : Prop := ∃ M33, LX10_strongest_4 x1 P (fun y29 q30 => ((y29 = (-1) → JX10_strongest_172 y29 0 P q30) ∧ (¬ y29 = (-1) → JX10_strongest_172 y29 1 P q30))) M33 (-1) 0 q
def w_X10_isTold (q : aS) (P : Int32 → aS → Prop) : Prop := ∀ q1 : aS, q1 = (up2 q.1 0 15 0, q.2) → P 1 q1
set_option maxRecDepth 20000 in
theorem t_X10_roomOf {l : Launch} {g : aG} (hX : isM g) (hl : l.stackTraces = false) (x1 : Int32) (x2 : Int32) (q : aS) (P : Int32 → aS → Prop) (h : w_X10_roomOf x1 x2 q P) : aMi l g yX10_roomOf (aWs yX10_roomOf cX10_roomOf 3 (some .int)) 3 0 0 [.ref (gAd g 0), .int x1, .int x2] q P (fun _ _ => False) := by
  refine aMi_of RX10 ⟨by decide +kernel, rfl⟩ (cat_all rfl) (Nat.le_of_ble_eq_true rfl) hl hX.cl (fun f hR hC hE => ?_)
  show AW f g 0 [some (.ref (gAd g 0)), some (.int x1), some (.int x2)] [] q 0 0
  unfold w_X10_roomOf at h
  refine a_aload_n (pc := 0) hC dX10_roomOf_0 rfl ?_
  refine a_aload_n (pc := 1) hC dX10_roomOf_1 rfl ?_
  refine a_iload_n (pc := 2) hC dX10_roomOf_2 rfl ?_
  refine a_callV (pc := 3) hC hR vm_X10_isRoom tw_1643 cl_X10 (oM_0 hX) ⟨(Nat.le_of_ble_eq_true rfl), (Nat.le_of_ble_eq_true rfl), (Nat.le_of_ble_eq_true rfl), (Nat.le_of_ble_eq_true rfl)⟩ dX10_roomOf_3 (t_X10_isRoom hX hC.tr _ _ _ h) rfl rfl rfl (Nat.le_of_ble_eq_true rfl) (fun r3 q4 h => ?_)
  have z_r3 := h.1
  replace h := h.2
  refine a_iload_n (pc := 6) hC dX10_roomOf_6 rfl ?_
  refine a_iconst (pc := 7) hC dX10_roomOf_7 (v := 0) rfl ?_
  refine a_iconst (pc := 8) hC dX10_roomOf_8 (v := 5) rfl ?_
  refine a_callS (pc := 9) hC hR sm_X10_isIn tw_1582 ⟨(Nat.le_of_ble_eq_true rfl), (Nat.le_of_ble_eq_true rfl), (Nat.le_of_ble_eq_true rfl), (Nat.le_of_ble_eq_true rfl)⟩ dX10_roomOf_9 (t_X10_isIn hX hC.tr _ _ _ _ _ h) rfl rfl rfl (Nat.le_of_ble_eq_true rfl) (fun r5 q6 h => ?_)
  have z_r5 := h.1
  replace h := h.2
  refine a_callV (pc := 12) hC hR vm_X10_goes tw_1585 cl_X10 (oM_0 hX) ⟨(Nat.le_of_ble_eq_true rfl), (Nat.le_of_ble_eq_true rfl), (Nat.le_of_ble_eq_true rfl), (Nat.le_of_ble_eq_true rfl)⟩ dX10_roomOf_12 (t_X10_goes hX hC.tr _ _ _ _ h) rfl rfl rfl (Nat.le_of_ble_eq_true rfl) (fun r7 q8 h => ?_)
  have z_r7 := h.1
  replace h := h.2
  refine a_if_ne (pc := 15) (tgt := 20) hC dX10_roomOf_15 (by decide) (fun c => ?_) (fun c => ?_)
  · replace h := h.1 c
    refine a_iload_n (pc := 20) hC dX10_roomOf_20 rfl ?_
    refine tab_or (fun c0 => ?_) (fun c0 => ?_) h
    · intro h
      refine a_tabIn (pc := 21) (tgt := 56) hC dX10_roomOf_21 (by rw [c0]; decide) (by rw [c0]; decide) (by rw [c0]; rfl) (by decide) ?_
      refine a_aload_n (pc := 56) hC dX10_roomOf_56 rfl ?_
      refine a_get (pc := 57) hC cl_X10 (oM_0 hX) 0 (by decide) tw_1504 rfl dX10_roomOf_57 ?_
      refine a_iload_n (pc := 60) hC dX10_roomOf_60 rfl ?_
      refine a_callS (pc := 61) hC hR sm_X10_roomAt tw_1620 ⟨(Nat.le_of_ble_eq_true rfl), (Nat.le_of_ble_eq_true rfl), (Nat.le_of_ble_eq_true rfl), (Nat.le_of_ble_eq_true rfl)⟩ dX10_roomOf_61 (t_X10_roomAt hX hC.tr _ _ _ h) rfl rfl rfl (Nat.le_of_ble_eq_true rfl) (fun r9 q10 h => ?_)
      refine a_iload_n (pc := 64) hC dX10_roomOf_64 rfl ?_
      refine a_iadd (pc := 65) hC dX10_roomOf_65 ?_
      refine a_iald (pc := 66) hC (oM_1 hX) h.1 dX10_roomOf_66 ?_
      replace h := h.2
      exact a_iret (pc := 67) hC hE h (Nat.le_of_ble_eq_true rfl) (Nat.le_of_ble_eq_true rfl) dX10_roomOf_67
    intro h
    refine tab_or (fun c1 => ?_) (fun c1 => ?_) h
    · intro h
      refine a_tabIn (pc := 21) (tgt := 56) hC dX10_roomOf_21 (by rw [c1]; decide) (by rw [c1]; decide) (by rw [c1]; rfl) (by decide) ?_
      refine a_aload_n (pc := 56) hC dX10_roomOf_56 rfl ?_
      refine a_get (pc := 57) hC cl_X10 (oM_0 hX) 0 (by decide) tw_1504 rfl dX10_roomOf_57 ?_
      refine a_iload_n (pc := 60) hC dX10_roomOf_60 rfl ?_
      refine a_callS (pc := 61) hC hR sm_X10_roomAt tw_1620 ⟨(Nat.le_of_ble_eq_true rfl), (Nat.le_of_ble_eq_true rfl), (Nat.le_of_ble_eq_true rfl), (Nat.le_of_ble_eq_true rfl)⟩ dX10_roomOf_61 (t_X10_roomAt hX hC.tr _ _ _ h) rfl rfl rfl (Nat.le_of_ble_eq_true rfl) (fun r11 q12 h => ?_)
      refine a_iload_n (pc := 64) hC dX10_roomOf_64 rfl ?_
      refine a_iadd (pc := 65) hC dX10_roomOf_65 ?_
      refine a_iald (pc := 66) hC (oM_1 hX) h.1 dX10_roomOf_66 ?_
      replace h := h.2
      exact a_iret (pc := 67) hC hE h (Nat.le_of_ble_eq_true rfl) (Nat.le_of_ble_eq_true rfl) dX10_roomOf_67
    intro h
    refine tab_or (fun c2 => ?_) (fun c2 => ?_) h
    · intro h
      refine a_tabIn (pc := 21) (tgt := 68) hC dX10_roomOf_21 (by rw [c2]; decide) (by rw [c2]; decide) (by rw [c2]; rfl) (by decide) ?_
      refine a_aload_n (pc := 68) hC dX10_roomOf_68 rfl ?_
      refine a_iload_n (pc := 69) hC dX10_roomOf_69 rfl ?_
      refine a_callV (pc := 70) hC hR vm_X10_othersIn tw_1677 cl_X10 (oM_0 hX) ⟨(Nat.le_of_ble_eq_true rfl), (Nat.le_of_ble_eq_true rfl), (Nat.le_of_ble_eq_true rfl), (Nat.le_of_ble_eq_true rfl)⟩ dX10_roomOf_70 (t_X10_othersIn hX hC.tr _ _ _ h) rfl rfl rfl (Nat.le_of_ble_eq_true rfl) (fun r13 q14 h => ?_)
      exact a_iret (pc := 73) hC hE h (Nat.le_of_ble_eq_true rfl) (Nat.le_of_ble_eq_true rfl) dX10_roomOf_73
    intro h
    refine tab_or (fun c3 => ?_) (fun c3 => ?_) h
    · intro h
      refine a_tabIn (pc := 21) (tgt := 74) hC dX10_roomOf_21 (by rw [c3]; decide) (by rw [c3]; decide) (by rw [c3]; rfl) (by decide) ?_
      refine a_aload_n (pc := 74) hC dX10_roomOf_74 rfl ?_
      refine a_iload_n (pc := 75) hC dX10_roomOf_75 rfl ?_
      refine a_iconst (pc := 76) hC dX10_roomOf_76 (v := 0) rfl ?_
      refine a_callV (pc := 77) hC hR vm_X10_echoesIn tw_1756 cl_X10 (oM_0 hX) ⟨(Nat.le_of_ble_eq_true rfl), (Nat.le_of_ble_eq_true rfl), (Nat.le_of_ble_eq_true rfl), (Nat.le_of_ble_eq_true rfl)⟩ dX10_roomOf_77 (t_X10_echoesIn hX hC.tr _ _ _ _ h) rfl rfl rfl (Nat.le_of_ble_eq_true rfl) (fun r15 q16 h => ?_)
      refine a_callS (pc := 80) hC hR sm_J6_bitCount_0f7a4 tw_1685 ⟨(Nat.le_of_ble_eq_true rfl), (Nat.le_of_ble_eq_true rfl), (Nat.le_of_ble_eq_true rfl), (Nat.le_of_ble_eq_true rfl)⟩ dX10_roomOf_80 (t_J6_bitCount_0f7a4 hX.cl hC.tr _ _ _ h) rfl rfl rfl (Nat.le_of_ble_eq_true rfl) (fun r17 q18 h => ?_)
      exact a_iret (pc := 83) hC hE h (Nat.le_of_ble_eq_true rfl) (Nat.le_of_ble_eq_true rfl) dX10_roomOf_83
    intro h
    refine tab_or (fun c4 => ?_) (fun c4 => ?_) h
    · intro h
      refine a_tabIn (pc := 21) (tgt := 84) hC dX10_roomOf_21 (by rw [c4]; decide) (by rw [c4]; decide) (by rw [c4]; rfl) (by decide) ?_
      refine a_aload_n (pc := 84) hC dX10_roomOf_84 rfl ?_
      refine a_iload_n (pc := 85) hC dX10_roomOf_85 rfl ?_
      refine a_iconst (pc := 86) hC dX10_roomOf_86 (v := 0) rfl ?_
      refine a_callV (pc := 87) hC hR vm_X10_echoesIn tw_1756 cl_X10 (oM_0 hX) ⟨(Nat.le_of_ble_eq_true rfl), (Nat.le_of_ble_eq_true rfl), (Nat.le_of_ble_eq_true rfl), (Nat.le_of_ble_eq_true rfl)⟩ dX10_roomOf_87 (t_X10_echoesIn hX hC.tr _ _ _ _ h) rfl rfl rfl (Nat.le_of_ble_eq_true rfl) (fun r19 q20 h => ?_)
      refine a_callS (pc := 90) hC hR sm_J6_bitCount_0f7a4 tw_1685 ⟨(Nat.le_of_ble_eq_true rfl), (Nat.le_of_ble_eq_true rfl), (Nat.le_of_ble_eq_true rfl), (Nat.le_of_ble_eq_true rfl)⟩ dX10_roomOf_90 (t_J6_bitCount_0f7a4 hX.cl hC.tr _ _ _ h) rfl rfl rfl (Nat.le_of_ble_eq_true rfl) (fun r21 q22 h => ?_)
      refine a_aload_n (pc := 93) hC dX10_roomOf_93 rfl ?_
      refine a_iload_n (pc := 94) hC dX10_roomOf_94 rfl ?_
      refine a_iconst (pc := 95) hC dX10_roomOf_95 (v := 1) rfl ?_
      refine a_callV (pc := 96) hC hR vm_X10_echoesIn tw_1756 cl_X10 (oM_0 hX) ⟨(Nat.le_of_ble_eq_true rfl), (Nat.le_of_ble_eq_true rfl), (Nat.le_of_ble_eq_true rfl), (Nat.le_of_ble_eq_true rfl)⟩ dX10_roomOf_96 (t_X10_echoesIn hX hC.tr _ _ _ _ h) rfl rfl rfl (Nat.le_of_ble_eq_true rfl) (fun r23 q24 h => ?_)
      refine a_callS (pc := 99) hC hR sm_J6_bitCount_0f7a4 tw_1685 ⟨(Nat.le_of_ble_eq_true rfl), (Nat.le_of_ble_eq_true rfl), (Nat.le_of_ble_eq_true rfl), (Nat.le_of_ble_eq_true rfl)⟩ dX10_roomOf_99 (t_J6_bitCount_0f7a4 hX.cl hC.tr _ _ _ h) rfl rfl rfl (Nat.le_of_ble_eq_true rfl) (fun r25 q26 h => ?_)
      refine a_isub (pc := 102) hC dX10_roomOf_102 ?_
      exact a_iret (pc := 103) hC hE h (Nat.le_of_ble_eq_true rfl) (Nat.le_of_ble_eq_true rfl) dX10_roomOf_103
    intro h
    refine a_tabOut (pc := 21) (tgt := 104) hC dX10_roomOf_21 (by have e0 := tab_ne (z := 0) rfl c0; have e1 := tab_ne (z := 1) rfl c1; have e2 := tab_ne (z := 2) rfl c2; have e3 := tab_ne (z := 3) rfl c3; have e4 := tab_ne (z := 4) rfl c4; omega) (by decide) ?_
    refine a_aload_n (pc := 104) hC dX10_roomOf_104 rfl ?_
    refine a_get (pc := 105) hC cl_X10 (oM_0 hX) 0 (by decide) tw_1504 rfl dX10_roomOf_105 ?_
    refine a_iload_n (pc := 108) hC dX10_roomOf_108 rfl ?_
    refine a_callS (pc := 109) hC hR sm_X10_roomAt tw_1620 ⟨(Nat.le_of_ble_eq_true rfl), (Nat.le_of_ble_eq_true rfl), (Nat.le_of_ble_eq_true rfl), (Nat.le_of_ble_eq_true rfl)⟩ dX10_roomOf_109 (t_X10_roomAt hX hC.tr _ _ _ h) rfl rfl rfl (Nat.le_of_ble_eq_true rfl) (fun r27 q28 h => ?_)
    refine a_iconst (pc := 112) hC dX10_roomOf_112 (v := 2) rfl ?_
    refine a_iadd (pc := 113) hC dX10_roomOf_113 ?_
    refine a_iald (pc := 114) hC (oM_1 hX) h.1 dX10_roomOf_114 ?_
    replace h := h.2
    exact a_iret (pc := 115) hC hE h (Nat.le_of_ble_eq_true rfl) (Nat.le_of_ble_eq_true rfl) dX10_roomOf_115
  · replace h := h.2 c
    refine a_iconst (pc := 18) hC dX10_roomOf_18 (v := 0) rfl ?_
    exact a_iret (pc := 19) hC hE h (Nat.le_of_ble_eq_true rfl) (Nat.le_of_ble_eq_true rfl) dX10_roomOf_19
set_option maxRecDepth 20000 in
theorem t_X10_echoOf {l : Launch} {g : aG} (hX : isM g) (hl : l.stackTraces = false) (x1 : Int32) (x2 : Int32) (q : aS) (P : Int32 → aS → Prop) (h : w_X10_echoOf x1 x2 q P) : aMi l g yX10_echoOf (aWs yX10_echoOf cX10_echoOf 3 (some .int)) 2 0 0 [.ref (gAd g 0), .int x1, .int x2] q P (fun _ _ => False) := by
  refine aMi_of RX10 ⟨by decide +kernel, rfl⟩ (cat_all rfl) (Nat.le_of_ble_eq_true rfl) hl hX.cl (fun f hR hC hE => ?_)
  show AW f g 0 [some (.ref (gAd g 0)), some (.int x1), some (.int x2)] [] q 0 0
  unfold w_X10_echoOf at h
  refine a_aload_n (pc := 0) hC dX10_echoOf_0 rfl ?_
  refine a_aload_n (pc := 1) hC dX10_echoOf_1 rfl ?_
  refine a_iload_n (pc := 2) hC dX10_echoOf_2 rfl ?_
  refine a_callV (pc := 3) hC hR vm_X10_isEcho tw_1702 cl_X10 (oM_0 hX) ⟨(Nat.le_of_ble_eq_true rfl), (Nat.le_of_ble_eq_true rfl), (Nat.le_of_ble_eq_true rfl), (Nat.le_of_ble_eq_true rfl)⟩ dX10_echoOf_3 (t_X10_isEcho hX hC.tr _ _ _ h) rfl rfl rfl (Nat.le_of_ble_eq_true rfl) (fun r3 q4 h => ?_)
  have z_r3 := h.1
  replace h := h.2
  refine a_iload_n (pc := 6) hC dX10_echoOf_6 rfl ?_
  refine a_iconst (pc := 7) hC dX10_echoOf_7 (v := 0) rfl ?_
  refine a_iconst (pc := 8) hC dX10_echoOf_8 (v := 4) rfl ?_
  refine a_callS (pc := 9) hC hR sm_X10_isIn tw_1582 ⟨(Nat.le_of_ble_eq_true rfl), (Nat.le_of_ble_eq_true rfl), (Nat.le_of_ble_eq_true rfl), (Nat.le_of_ble_eq_true rfl)⟩ dX10_echoOf_9 (t_X10_isIn hX hC.tr _ _ _ _ _ h) rfl rfl rfl (Nat.le_of_ble_eq_true rfl) (fun r5 q6 h => ?_)
  have z_r5 := h.1
  replace h := h.2
  refine a_callV (pc := 12) hC hR vm_X10_goes tw_1585 cl_X10 (oM_0 hX) ⟨(Nat.le_of_ble_eq_true rfl), (Nat.le_of_ble_eq_true rfl), (Nat.le_of_ble_eq_true rfl), (Nat.le_of_ble_eq_true rfl)⟩ dX10_echoOf_12 (t_X10_goes hX hC.tr _ _ _ _ h) rfl rfl rfl (Nat.le_of_ble_eq_true rfl) (fun r7 q8 h => ?_)
  have z_r7 := h.1
  replace h := h.2
  refine a_if_eq (pc := 15) (tgt := 32) hC dX10_echoOf_15 (by decide) (fun c => ?_) (fun c => ?_)
  · replace h := h.1 c
    refine a_iconst (pc := 32) hC dX10_echoOf_32 (v := 0) rfl ?_
    exact a_iret (pc := 33) hC hE h (Nat.le_of_ble_eq_true rfl) (Nat.le_of_ble_eq_true rfl) dX10_echoOf_33
  · replace h := h.2 c
    refine a_aload_n (pc := 18) hC dX10_echoOf_18 rfl ?_
    refine a_get (pc := 19) hC cl_X10 (oM_0 hX) 0 (by decide) tw_1504 rfl dX10_echoOf_19 ?_
    refine a_iload_n (pc := 22) hC dX10_echoOf_22 rfl ?_
    refine a_callS (pc := 23) hC hR sm_X10_echoAt tw_1647 ⟨(Nat.le_of_ble_eq_true rfl), (Nat.le_of_ble_eq_true rfl), (Nat.le_of_ble_eq_true rfl), (Nat.le_of_ble_eq_true rfl)⟩ dX10_echoOf_23 (t_X10_echoAt hX hC.tr _ _ _ h) rfl rfl rfl (Nat.le_of_ble_eq_true rfl) (fun r9 q10 h => ?_)
    refine a_iload_n (pc := 26) hC dX10_echoOf_26 rfl ?_
    refine a_iadd (pc := 27) hC dX10_echoOf_27 ?_
    refine a_iald (pc := 28) hC (oM_1 hX) h.1 dX10_echoOf_28 ?_
    replace h := h.2
    refine a_goto (pc := 29) (tgt := 33) hC dX10_echoOf_29 (by decide) ?_
    exact a_iret (pc := 33) hC hE h (Nat.le_of_ble_eq_true rfl) (Nat.le_of_ble_eq_true rfl) dX10_echoOf_33
set_option maxRecDepth 20000 in
theorem tJX10_letTo_36 {f : aF} {g : aG} (hX : isM g) (P : Int32 → aS → Prop) (hR : f_R f = aR 1 0 0) (hC : aOK f g cX10_letTo 6 RX10) (hE : aEi f g .int P (fun _ _ => False) 0 0) (c1 : Int32) (c2 : Int32) (j3 : Int32) (j4 : Int32) (s0 : Int32) (B : Int32 → Int32 → aS → Prop) (K : Int32 → aS → Prop) (hB : ∀ (w3 : Int32) (w4 : Int32) (q : aS), B w3 w4 q → AW f g 5 [some (.ref (gAd g 0)), some (.int c1), some (.int c2), some (.int w3), some (.int w4), none] [] q 0 0) (hK : ∀ (w3 : Int32) (q : aS), K w3 q → AW f g 69 [none, none, none, some (.int w3), none, none] [] q 0 0) (q : aS) (h : JX10_letTo_36 c1 c2 j3 j4 s0 P B K q) : AW f g 36 [some (.ref (gAd g 0)), some (.int c1), some (.int c2), some (.int j3), some (.int j4), none] [.int s0] q 0 0 := by
  unfold JX10_letTo_36 at h
  refine a_istore (pc := 36) hC dX10_letTo_36 (Nat.le_of_ble_eq_true rfl) ?_
  refine a_iload_n (pc := 38) hC dX10_letTo_38 rfl ?_
  refine a_aload_n (pc := 39) hC dX10_letTo_39 rfl ?_
  refine a_get (pc := 40) hC cl_X10 (oM_0 hX) 0 (by decide) tw_1504 rfl dX10_letTo_40 ?_
  refine a_iload (pc := 43) hC dX10_letTo_43 rfl ?_
  refine a_callS (pc := 45) hC hR sm_X10_echoAt tw_1647 ⟨(Nat.le_of_ble_eq_true rfl), (Nat.le_of_ble_eq_true rfl), (Nat.le_of_ble_eq_true rfl), (Nat.le_of_ble_eq_true rfl)⟩ dX10_letTo_45 (t_X10_echoAt hX hC.tr _ _ _ h) rfl rfl rfl (Nat.le_of_ble_eq_true rfl) (fun r3 q4 h => ?_)
  refine a_iconst (pc := 48) hC dX10_letTo_48 (v := 2) rfl ?_
  refine a_iadd (pc := 49) hC dX10_letTo_49 ?_
  refine a_iald (pc := 50) hC (oM_1 hX) h.1 dX10_letTo_50 ?_
  replace h := h.2
  refine a_iload_n (pc := 51) hC dX10_letTo_51 rfl ?_
  refine a_icmp_ne (pc := 52) (tgt := 60) hC dX10_letTo_52 (by decide) (fun c => ?_) (fun c => ?_)
  · replace h := h.1 c
    refine a_iconst (pc := 60) hC dX10_letTo_60 (v := 0) rfl ?_
    refine a_iadd (pc := 61) hC dX10_letTo_61 ?_
    refine a_istore_n (pc := 62) hC dX10_letTo_62 (Nat.le_of_ble_eq_true rfl) ?_
    replace h := h _ rfl
    refine a_iinc (pc := 63) hC dX10_letTo_63 rfl (c := 1) rfl ?_
    replace h := h _ rfl
    refine a_goto (pc := 66) (tgt := 5) hC dX10_letTo_66 (by decide) ?_
    exact (hB _ _ _ h).forget ⟨rfl, rfl, rfl, rfl, rfl, trivial⟩
  · replace h := h.2 c
    refine a_iload (pc := 55) hC dX10_letTo_55 rfl ?_
    refine a_goto (pc := 57) (tgt := 61) hC dX10_letTo_57 (by decide) ?_
    refine a_iadd (pc := 61) hC dX10_letTo_61 ?_
    refine a_istore_n (pc := 62) hC dX10_letTo_62 (Nat.le_of_ble_eq_true rfl) ?_
    replace h := h _ rfl
    refine a_iinc (pc := 63) hC dX10_letTo_63 rfl (c := 1) rfl ?_
    replace h := h _ rfl
    refine a_goto (pc := 66) (tgt := 5) hC dX10_letTo_66 (by decide) ?_
    exact (hB _ _ _ h).forget ⟨rfl, rfl, rfl, rfl, rfl, trivial⟩
set_option maxRecDepth 20000 in
theorem tLX10_letTo_5 {f : aF} {g : aG} (hX : isM g) (P : Int32 → aS → Prop) (hR : f_R f = aR 1 0 0) (hC : aOK f g cX10_letTo 6 RX10) (hE : aEi f g .int P (fun _ _ => False) 0 0) (c1 : Int32) (c2 : Int32) {K : Int32 → aS → Prop} (hK : ∀ (w3 : Int32) (q : aS), K w3 q → AW f g 69 [none, none, none, some (.int w3), none, none] [] q 0 0) : ∀ (N : Nat) (v3 : Int32) (v4 : Int32) (q : aS), LX10_letTo_5 c1 c2 P K N v3 v4 q → AW f g 5 [some (.ref (gAd g 0)), some (.int c1), some (.int c2), some (.int v3), some (.int v4), none] [] q 0 0 := by
  intro N
  induction N with
  | zero =>
    intro v3 v4 q h
    exact h.elim
  | succ N ih =>
    intro v3 v4 q h
    unfold LX10_letTo_5 at h
    refine a_iload (pc := 5) hC dX10_letTo_5 rfl ?_
    refine a_aload_n (pc := 7) hC dX10_letTo_7 rfl ?_
    refine a_get (pc := 8) hC cl_X10 (oM_0 hX) 0 (by decide) tw_1504 rfl dX10_letTo_8 ?_
    refine a_iconst (pc := 11) hC dX10_letTo_11 (v := 1) rfl ?_
    refine a_iald (pc := 12) hC (oM_1 hX) h.1 dX10_letTo_12 ?_
    replace h := h.2
    refine a_icmp_ge (pc := 13) (tgt := 69) hC dX10_letTo_13 (by decide) (fun c => ?_) (fun c => ?_)
    · replace h := h.1 c
      exact (hK _ _ h).forget ⟨rfl, trivial⟩
    · replace h := h.2 c
      refine a_iload_n (pc := 16) hC dX10_letTo_16 rfl ?_
      refine a_if_eq (pc := 17) (tgt := 35) hC dX10_letTo_17 (by decide) (fun c => ?_) (fun c => ?_)
      · replace h := h.1 c
        refine a_iconst (pc := 35) hC dX10_letTo_35 (v := 1) rfl ?_
        exact (tJX10_letTo_36 hX P hR hC hE _ _ _ _ _ _ _ ih hK _ h).forget ⟨rfl, rfl, rfl, rfl, rfl, trivial⟩
      · replace h := h.2 c
        refine a_aload_n (pc := 20) hC dX10_letTo_20 rfl ?_
        refine a_get (pc := 21) hC cl_X10 (oM_0 hX) 0 (by decide) tw_1504 rfl dX10_letTo_21 ?_
        refine a_iload (pc := 24) hC dX10_letTo_24 rfl ?_
        refine a_callS (pc := 26) hC hR sm_X10_echoAt tw_1647 ⟨(Nat.le_of_ble_eq_true rfl), (Nat.le_of_ble_eq_true rfl), (Nat.le_of_ble_eq_true rfl), (Nat.le_of_ble_eq_true rfl)⟩ dX10_letTo_26 (t_X10_echoAt hX hC.tr _ _ _ h) rfl rfl rfl (Nat.le_of_ble_eq_true rfl) (fun r9 q10 h => ?_)
        refine a_iconst (pc := 29) hC dX10_letTo_29 (v := 1) rfl ?_
        refine a_iadd (pc := 30) hC dX10_letTo_30 ?_
        refine a_iald (pc := 31) hC (oM_1 hX) h.1 dX10_letTo_31 ?_
        replace h := h.2
        refine a_goto (pc := 32) (tgt := 36) hC dX10_letTo_32 (by decide) ?_
        exact (tJX10_letTo_36 hX P hR hC hE _ _ _ _ _ _ _ ih hK _ h).forget ⟨rfl, rfl, rfl, rfl, rfl, trivial⟩
set_option maxRecDepth 20000 in
theorem t_X10_letTo {l : Launch} {g : aG} (hX : isM g) (hl : l.stackTraces = false) (x1 : Int32) (x2 : Int32) (q : aS) (P : Int32 → aS → Prop) (h : w_X10_letTo x1 x2 q P) : aMi l g yX10_letTo (aWs yX10_letTo cX10_letTo 6 (some .int)) 1 0 0 [.ref (gAd g 0), .int x1, .int x2] q P (fun _ _ => False) := by
  refine aMi_of RX10 ⟨by decide +kernel, rfl⟩ (cat_all rfl) (Nat.le_of_ble_eq_true rfl) hl hX.cl (fun f hR hC hE => ?_)
  show AW f g 0 [some (.ref (gAd g 0)), some (.int x1), some (.int x2), none, none, none] [] q 0 0
  unfold w_X10_letTo at h
  refine a_iconst (pc := 0) hC dX10_letTo_0 (v := 0) rfl ?_
  refine a_istore_n (pc := 1) hC dX10_letTo_1 (Nat.le_of_ble_eq_true rfl) ?_
  refine a_iconst (pc := 2) hC dX10_letTo_2 (v := 0) rfl ?_
  refine a_istore (pc := 3) hC dX10_letTo_3 (Nat.le_of_ble_eq_true rfl) ?_
  obtain ⟨N, h⟩ := h
  refine (tLX10_letTo_5 hX P hR hC hE _ _ (fun y11 q12 h => ?_) N _ _ _ h).forget ⟨rfl, rfl, rfl, rfl, rfl, trivial⟩
  refine a_iload_n (pc := 69) hC dX10_letTo_69 rfl ?_
  exact a_iret (pc := 70) hC hE h (Nat.le_of_ble_eq_true rfl) (Nat.le_of_ble_eq_true rfl) dX10_letTo_70
set_option maxRecDepth 20000 in
theorem t_X10_singerOf {l : Launch} {g : aG} (hX : isM g) (hl : l.stackTraces = false) (x1 : Int32) (x2 : Int32) (q : aS) (P : Int32 → aS → Prop) (h : w_X10_singerOf x1 x2 q P) : aMi l g yX10_singerOf (aWs yX10_singerOf cX10_singerOf 4 (some .int)) 2 0 0 [.ref (gAd g 0), .int x1, .int x2] q P (fun _ _ => False) := by
  refine aMi_of RX10 ⟨by decide +kernel, rfl⟩ (cat_all rfl) (Nat.le_of_ble_eq_true rfl) hl hX.cl (fun f hR hC hE => ?_)
  show AW f g 0 [some (.ref (gAd g 0)), some (.int x1), some (.int x2), none] [] q 0 0
  unfold w_X10_singerOf at h
  refine a_aload_n (pc := 0) hC dX10_singerOf_0 rfl ?_
  refine a_aload_n (pc := 1) hC dX10_singerOf_1 rfl ?_
  refine a_iload_n (pc := 2) hC dX10_singerOf_2 rfl ?_
  refine a_callV (pc := 3) hC hR vm_X10_isSinger tw_1669 cl_X10 (oM_0 hX) ⟨(Nat.le_of_ble_eq_true rfl), (Nat.le_of_ble_eq_true rfl), (Nat.le_of_ble_eq_true rfl), (Nat.le_of_ble_eq_true rfl)⟩ dX10_singerOf_3 (t_X10_isSinger hX hC.tr _ _ _ h) rfl rfl rfl (Nat.le_of_ble_eq_true rfl) (fun r3 q4 h => ?_)
  have z_r3 := h.1
  replace h := h.2
  refine a_iload_n (pc := 6) hC dX10_singerOf_6 rfl ?_
  refine a_iconst (pc := 7) hC dX10_singerOf_7 (v := 0) rfl ?_
  refine a_bipush (pc := 8) hC dX10_singerOf_8 (v := 6) rfl ?_
  refine a_callS (pc := 10) hC hR sm_X10_isIn tw_1582 ⟨(Nat.le_of_ble_eq_true rfl), (Nat.le_of_ble_eq_true rfl), (Nat.le_of_ble_eq_true rfl), (Nat.le_of_ble_eq_true rfl)⟩ dX10_singerOf_10 (t_X10_isIn hX hC.tr _ _ _ _ _ h) rfl rfl rfl (Nat.le_of_ble_eq_true rfl) (fun r5 q6 h => ?_)
  have z_r5 := h.1
  replace h := h.2
  refine a_callV (pc := 13) hC hR vm_X10_goes tw_1585 cl_X10 (oM_0 hX) ⟨(Nat.le_of_ble_eq_true rfl), (Nat.le_of_ble_eq_true rfl), (Nat.le_of_ble_eq_true rfl), (Nat.le_of_ble_eq_true rfl)⟩ dX10_singerOf_13 (t_X10_goes hX hC.tr _ _ _ _ h) rfl rfl rfl (Nat.le_of_ble_eq_true rfl) (fun r7 q8 h => ?_)
  have z_r7 := h.1
  replace h := h.2
  refine a_if_ne (pc := 16) (tgt := 21) hC dX10_singerOf_16 (by decide) (fun c => ?_) (fun c => ?_)
  · replace h := h.1 c
    refine a_iload_n (pc := 21) hC dX10_singerOf_21 rfl ?_
    refine a_callS (pc := 22) hC hR sm_X10_singerAt tw_1658 ⟨(Nat.le_of_ble_eq_true rfl), (Nat.le_of_ble_eq_true rfl), (Nat.le_of_ble_eq_true rfl), (Nat.le_of_ble_eq_true rfl)⟩ dX10_singerOf_22 (t_X10_singerAt hX hC.tr _ _ _ h) rfl rfl rfl (Nat.le_of_ble_eq_true rfl) (fun r9 q10 h => ?_)
    refine a_istore_n (pc := 25) hC dX10_singerOf_25 (Nat.le_of_ble_eq_true rfl) ?_
    refine a_iload_n (pc := 26) hC dX10_singerOf_26 rfl ?_
    refine tab_or (fun c0 => ?_) (fun c0 => ?_) h
    · intro h
      refine a_tabIn (pc := 27) (tgt := 64) hC dX10_singerOf_27 (by rw [c0]; decide) (by rw [c0]; decide) (by rw [c0]; rfl) (by decide) ?_
      refine a_aload_n (pc := 64) hC dX10_singerOf_64 rfl ?_
      refine a_get (pc := 65) hC cl_X10 (oM_0 hX) 0 (by decide) tw_1504 rfl dX10_singerOf_65 ?_
      refine a_iload_n (pc := 68) hC dX10_singerOf_68 rfl ?_
      refine a_iload_n (pc := 69) hC dX10_singerOf_69 rfl ?_
      refine a_iadd (pc := 70) hC dX10_singerOf_70 ?_
      refine a_iald (pc := 71) hC (oM_1 hX) h.1 dX10_singerOf_71 ?_
      replace h := h.2
      exact a_iret (pc := 72) hC hE h (Nat.le_of_ble_eq_true rfl) (Nat.le_of_ble_eq_true rfl) dX10_singerOf_72
    intro h
    refine tab_or (fun c1 => ?_) (fun c1 => ?_) h
    · intro h
      refine a_tabIn (pc := 27) (tgt := 64) hC dX10_singerOf_27 (by rw [c1]; decide) (by rw [c1]; decide) (by rw [c1]; rfl) (by decide) ?_
      refine a_aload_n (pc := 64) hC dX10_singerOf_64 rfl ?_
      refine a_get (pc := 65) hC cl_X10 (oM_0 hX) 0 (by decide) tw_1504 rfl dX10_singerOf_65 ?_
      refine a_iload_n (pc := 68) hC dX10_singerOf_68 rfl ?_
      refine a_iload_n (pc := 69) hC dX10_singerOf_69 rfl ?_
      refine a_iadd (pc := 70) hC dX10_singerOf_70 ?_
      refine a_iald (pc := 71) hC (oM_1 hX) h.1 dX10_singerOf_71 ?_
      replace h := h.2
      exact a_iret (pc := 72) hC hE h (Nat.le_of_ble_eq_true rfl) (Nat.le_of_ble_eq_true rfl) dX10_singerOf_72
    intro h
    refine tab_or (fun c2 => ?_) (fun c2 => ?_) h
    · intro h
      refine a_tabIn (pc := 27) (tgt := 64) hC dX10_singerOf_27 (by rw [c2]; decide) (by rw [c2]; decide) (by rw [c2]; rfl) (by decide) ?_
      refine a_aload_n (pc := 64) hC dX10_singerOf_64 rfl ?_
      refine a_get (pc := 65) hC cl_X10 (oM_0 hX) 0 (by decide) tw_1504 rfl dX10_singerOf_65 ?_
      refine a_iload_n (pc := 68) hC dX10_singerOf_68 rfl ?_
      refine a_iload_n (pc := 69) hC dX10_singerOf_69 rfl ?_
      refine a_iadd (pc := 70) hC dX10_singerOf_70 ?_
      refine a_iald (pc := 71) hC (oM_1 hX) h.1 dX10_singerOf_71 ?_
      replace h := h.2
      exact a_iret (pc := 72) hC hE h (Nat.le_of_ble_eq_true rfl) (Nat.le_of_ble_eq_true rfl) dX10_singerOf_72
    intro h
    refine tab_or (fun c3 => ?_) (fun c3 => ?_) h
    · intro h
      refine a_tabIn (pc := 27) (tgt := 73) hC dX10_singerOf_27 (by rw [c3]; decide) (by rw [c3]; decide) (by rw [c3]; rfl) (by decide) ?_
      refine a_aload_n (pc := 73) hC dX10_singerOf_73 rfl ?_
      refine a_iload_n (pc := 74) hC dX10_singerOf_74 rfl ?_
      refine a_iconst (pc := 75) hC dX10_singerOf_75 (v := 0) rfl ?_
      refine a_callV (pc := 76) hC hR vm_X10_letTo tw_1768 cl_X10 (oM_0 hX) ⟨(Nat.le_of_ble_eq_true rfl), (Nat.le_of_ble_eq_true rfl), (Nat.le_of_ble_eq_true rfl), (Nat.le_of_ble_eq_true rfl)⟩ dX10_singerOf_76 (t_X10_letTo hX hC.tr _ _ _ _ h) rfl rfl rfl (Nat.le_of_ble_eq_true rfl) (fun r11 q12 h => ?_)
      exact a_iret (pc := 79) hC hE h (Nat.le_of_ble_eq_true rfl) (Nat.le_of_ble_eq_true rfl) dX10_singerOf_79
    intro h
    refine tab_or (fun c4 => ?_) (fun c4 => ?_) h
    · intro h
      refine a_tabIn (pc := 27) (tgt := 80) hC dX10_singerOf_27 (by rw [c4]; decide) (by rw [c4]; decide) (by rw [c4]; rfl) (by decide) ?_
      refine a_aload_n (pc := 80) hC dX10_singerOf_80 rfl ?_
      refine a_get (pc := 81) hC cl_X10 (oM_0 hX) 0 (by decide) tw_1504 rfl dX10_singerOf_81 ?_
      refine a_iload_n (pc := 84) hC dX10_singerOf_84 rfl ?_
      refine a_iconst (pc := 85) hC dX10_singerOf_85 (v := 3) rfl ?_
      refine a_iadd (pc := 86) hC dX10_singerOf_86 ?_
      refine a_iald (pc := 87) hC (oM_1 hX) h.1 dX10_singerOf_87 ?_
      replace h := h.2
      exact a_iret (pc := 88) hC hE h (Nat.le_of_ble_eq_true rfl) (Nat.le_of_ble_eq_true rfl) dX10_singerOf_88
    intro h
    refine tab_or (fun c5 => ?_) (fun c5 => ?_) h
    · intro h
      refine a_tabIn (pc := 27) (tgt := 89) hC dX10_singerOf_27 (by rw [c5]; decide) (by rw [c5]; decide) (by rw [c5]; rfl) (by decide) ?_
      refine a_aload_n (pc := 89) hC dX10_singerOf_89 rfl ?_
      refine a_get (pc := 90) hC cl_X10 (oM_0 hX) 0 (by decide) tw_1504 rfl dX10_singerOf_90 ?_
      refine a_iload_n (pc := 93) hC dX10_singerOf_93 rfl ?_
      refine a_iconst (pc := 94) hC dX10_singerOf_94 (v := 4) rfl ?_
      refine a_iadd (pc := 95) hC dX10_singerOf_95 ?_
      refine a_iald (pc := 96) hC (oM_1 hX) h.1 dX10_singerOf_96 ?_
      replace h := h.2
      exact a_iret (pc := 97) hC hE h (Nat.le_of_ble_eq_true rfl) (Nat.le_of_ble_eq_true rfl) dX10_singerOf_97
    intro h
    refine a_tabOut (pc := 27) (tgt := 98) hC dX10_singerOf_27 (by have e0 := tab_ne (z := 0) rfl c0; have e1 := tab_ne (z := 1) rfl c1; have e2 := tab_ne (z := 2) rfl c2; have e3 := tab_ne (z := 3) rfl c3; have e4 := tab_ne (z := 4) rfl c4; have e5 := tab_ne (z := 5) rfl c5; omega) (by decide) ?_
    refine a_aload_n (pc := 98) hC dX10_singerOf_98 rfl ?_
    refine a_iload_n (pc := 99) hC dX10_singerOf_99 rfl ?_
    refine a_iconst (pc := 100) hC dX10_singerOf_100 (v := 1) rfl ?_
    refine a_callV (pc := 101) hC hR vm_X10_letTo tw_1768 cl_X10 (oM_0 hX) ⟨(Nat.le_of_ble_eq_true rfl), (Nat.le_of_ble_eq_true rfl), (Nat.le_of_ble_eq_true rfl), (Nat.le_of_ble_eq_true rfl)⟩ dX10_singerOf_101 (t_X10_letTo hX hC.tr _ _ _ _ h) rfl rfl rfl (Nat.le_of_ble_eq_true rfl) (fun r13 q14 h => ?_)
    exact a_iret (pc := 104) hC hE h (Nat.le_of_ble_eq_true rfl) (Nat.le_of_ble_eq_true rfl) dX10_singerOf_104
  · replace h := h.2 c
    refine a_iconst (pc := 19) hC dX10_singerOf_19 (v := 0) rfl ?_
    exact a_iret (pc := 20) hC hE h (Nat.le_of_ble_eq_true rfl) (Nat.le_of_ble_eq_true rfl) dX10_singerOf_20
set_option maxRecDepth 20000 in
theorem tJX10_tonesIn_88 {f : aF} {g : aG} (hX : isM g) (P : Int32 → aS → Prop) (hR : f_R f = aR 1 0 0) (hC : aOK f g cX10_tonesIn 9 RX10) (hE : aEi f g .int P (fun _ _ => False) 0 0) (c1 : Int32) (c2 : Int32) (c3 : Int32) (c5 : Int32) (j4 : Int32) (j6 : Int32) (j7 : Int32) (s0 : Int32) (B : Int32 → Int32 → aS → Prop) (K : Int32 → aS → Prop) (hB : ∀ (w4 : Int32) (w6 : Int32) (q : aS), B w4 w6 q → AW f g 26 [some (.ref (gAd g 0)), some (.int c1), some (.int c2), some (.int c3), some (.int w4), some (.int c5), some (.int w6), none, none] [] q 0 0) (hK : ∀ (w4 : Int32) (q : aS), K w4 q → AW f g 126 [none, none, none, none, some (.int w4), none, none, none, none] [] q 0 0) (q : aS) (h : JX10_tonesIn_88 c1 c2 c3 c5 j4 j6 j7 s0 P B K q) : AW f g 88 [some (.ref (gAd g 0)), some (.int c1), some (.int c2), some (.int c3), some (.int j4), some (.int c5), some (.int j6), some (.int j7), none] [.int s0] q 0 0 := by
  unfold JX10_tonesIn_88 at h
  refine a_istore (pc := 88) hC dX10_tonesIn_88 (Nat.le_of_ble_eq_true rfl) ?_
  refine a_iload (pc := 90) hC dX10_tonesIn_90 rfl ?_
  refine a_iload (pc := 92) hC dX10_tonesIn_92 rfl ?_
  refine a_if_eq (pc := 94) (tgt := 116) hC dX10_tonesIn_94 (by decide) (fun c => ?_) (fun c => ?_)
  · replace h := h.1 c
    refine a_iconst (pc := 116) hC dX10_tonesIn_116 (v := 0) rfl ?_
    refine a_iadd (pc := 117) hC dX10_tonesIn_117 ?_
    refine a_istore (pc := 118) hC dX10_tonesIn_118 (Nat.le_of_ble_eq_true rfl) ?_
    replace h := h _ rfl
    refine a_iinc (pc := 120) hC dX10_tonesIn_120 rfl (c := 1) rfl ?_
    replace h := h _ rfl
    refine a_goto (pc := 123) (tgt := 26) hC dX10_tonesIn_123 (by decide) ?_
    exact (hB _ _ _ h).forget ⟨rfl, rfl, rfl, rfl, rfl, rfl, rfl, trivial⟩
  · replace h := h.2 c
    refine a_iconst (pc := 97) hC dX10_tonesIn_97 (v := 0) rfl ?_
    refine a_aload_n (pc := 98) hC dX10_tonesIn_98 rfl ?_
    refine a_get (pc := 99) hC cl_X10 (oM_0 hX) 0 (by decide) tw_1504 rfl dX10_tonesIn_99 ?_
    refine a_iload (pc := 102) hC dX10_tonesIn_102 rfl ?_
    refine a_iconst (pc := 104) hC dX10_tonesIn_104 (v := 1) rfl ?_
    refine a_iadd (pc := 105) hC dX10_tonesIn_105 ?_
    refine a_iald (pc := 106) hC (oM_1 hX) h.1 dX10_tonesIn_106 ?_
    replace h := h.2
    refine a_iload (pc := 107) hC dX10_tonesIn_107 rfl ?_
    refine a_isub (pc := 109) hC dX10_tonesIn_109 ?_
    refine a_mmax (pc := 110) hC hR ⟨(Nat.le_of_ble_eq_true rfl), (Nat.le_of_ble_eq_true rfl), (Nat.le_of_ble_eq_true rfl)⟩ rfl tw_1727 tw_368 tw_24 tw_369 (Nat.le_of_ble_eq_true rfl) dX10_tonesIn_110 ?_
    refine a_goto (pc := 113) (tgt := 117) hC dX10_tonesIn_113 (by decide) ?_
    refine a_iadd (pc := 117) hC dX10_tonesIn_117 ?_
    refine a_istore (pc := 118) hC dX10_tonesIn_118 (Nat.le_of_ble_eq_true rfl) ?_
    replace h := h _ rfl
    refine a_iinc (pc := 120) hC dX10_tonesIn_120 rfl (c := 1) rfl ?_
    replace h := h _ rfl
    refine a_goto (pc := 123) (tgt := 26) hC dX10_tonesIn_123 (by decide) ?_
    exact (hB _ _ _ h).forget ⟨rfl, rfl, rfl, rfl, rfl, rfl, rfl, trivial⟩
set_option maxRecDepth 20000 in
theorem tJX10_tonesIn_87 {f : aF} {g : aG} (hX : isM g) (P : Int32 → aS → Prop) (hR : f_R f = aR 1 0 0) (hC : aOK f g cX10_tonesIn 9 RX10) (hE : aEi f g .int P (fun _ _ => False) 0 0) (c1 : Int32) (c2 : Int32) (c3 : Int32) (c5 : Int32) (j4 : Int32) (j6 : Int32) (j7 : Int32) (B : Int32 → Int32 → aS → Prop) (K : Int32 → aS → Prop) (hB : ∀ (w4 : Int32) (w6 : Int32) (q : aS), B w4 w6 q → AW f g 26 [some (.ref (gAd g 0)), some (.int c1), some (.int c2), some (.int c3), some (.int w4), some (.int c5), some (.int w6), none, none] [] q 0 0) (hK : ∀ (w4 : Int32) (q : aS), K w4 q → AW f g 126 [none, none, none, none, some (.int w4), none, none, none, none] [] q 0 0) (q : aS) (h : JX10_tonesIn_87 c1 c2 c3 c5 j4 j6 j7 P B K q) : AW f g 87 [some (.ref (gAd g 0)), some (.int c1), some (.int c2), some (.int c3), some (.int j4), some (.int c5), some (.int j6), some (.int j7), none] [] q 0 0 := by
  unfold JX10_tonesIn_87 at h
  refine a_iconst (pc := 87) hC dX10_tonesIn_87 (v := 0) rfl ?_
  exact (tJX10_tonesIn_88 hX P hR hC hE _ _ _ _ _ _ _ _ _ _ hB hK _ h).forget ⟨rfl, rfl, rfl, rfl, rfl, rfl, rfl, rfl, trivial⟩
set_option maxRecDepth 20000 in
theorem tLX10_tonesIn_26 {f : aF} {g : aG} (hX : isM g) (P : Int32 → aS → Prop) (hR : f_R f = aR 1 0 0) (hC : aOK f g cX10_tonesIn 9 RX10) (hE : aEi f g .int P (fun _ _ => False) 0 0) (c1 : Int32) (c2 : Int32) (c3 : Int32) (c5 : Int32) {K : Int32 → aS → Prop} (hK : ∀ (w4 : Int32) (q : aS), K w4 q → AW f g 126 [none, none, none, none, some (.int w4), none, none, none, none] [] q 0 0) : ∀ (N : Nat) (v4 : Int32) (v6 : Int32) (q : aS), LX10_tonesIn_26 c1 c2 c3 c5 P K N v4 v6 q → AW f g 26 [some (.ref (gAd g 0)), some (.int c1), some (.int c2), some (.int c3), some (.int v4), some (.int c5), some (.int v6), none, none] [] q 0 0 := by
  intro N
  induction N with
  | zero =>
    intro v4 v6 q h
    exact h.elim
  | succ N ih =>
    intro v4 v6 q h
    unfold LX10_tonesIn_26 at h
    refine a_iload (pc := 26) hC dX10_tonesIn_26 rfl ?_
    refine a_aload_n (pc := 28) hC dX10_tonesIn_28 rfl ?_
    refine a_get (pc := 29) hC cl_X10 (oM_0 hX) 0 (by decide) tw_1504 rfl dX10_tonesIn_29 ?_
    refine a_iconst (pc := 32) hC dX10_tonesIn_32 (v := 1) rfl ?_
    refine a_iald (pc := 33) hC (oM_1 hX) h.1 dX10_tonesIn_33 ?_
    replace h := h.2
    refine a_icmp_ge (pc := 34) (tgt := 126) hC dX10_tonesIn_34 (by decide) (fun c => ?_) (fun c => ?_)
    · replace h := h.1 c
      exact (hK _ _ h).forget ⟨rfl, trivial⟩
    · replace h := h.2 c
      refine a_iload (pc := 37) hC dX10_tonesIn_37 rfl ?_
      refine a_callS (pc := 39) hC hR sm_X10_echoAt tw_1647 ⟨(Nat.le_of_ble_eq_true rfl), (Nat.le_of_ble_eq_true rfl), (Nat.le_of_ble_eq_true rfl), (Nat.le_of_ble_eq_true rfl)⟩ dX10_tonesIn_39 (t_X10_echoAt hX hC.tr _ _ _ h) rfl rfl rfl (Nat.le_of_ble_eq_true rfl) (fun r7 q8 h => ?_)
      refine a_istore (pc := 42) hC dX10_tonesIn_42 (Nat.le_of_ble_eq_true rfl) ?_
      refine a_aload_n (pc := 44) hC dX10_tonesIn_44 rfl ?_
      refine a_get (pc := 45) hC cl_X10 (oM_0 hX) 0 (by decide) tw_1504 rfl dX10_tonesIn_45 ?_
      refine a_iload (pc := 48) hC dX10_tonesIn_48 rfl ?_
      refine a_iconst (pc := 50) hC dX10_tonesIn_50 (v := 0) rfl ?_
      refine a_iadd (pc := 51) hC dX10_tonesIn_51 ?_
      refine a_iald (pc := 52) hC (oM_1 hX) h.1 dX10_tonesIn_52 ?_
      replace h := h.2
      refine a_iload_n (pc := 53) hC dX10_tonesIn_53 rfl ?_
      refine a_icmp_ne (pc := 54) (tgt := 87) hC dX10_tonesIn_54 (by decide) (fun c => ?_) (fun c => ?_)
      · replace h := h.1 c
        exact (tJX10_tonesIn_87 hX P hR hC hE _ _ _ _ _ _ _ _ _ ih hK _ h).forget ⟨rfl, rfl, rfl, rfl, rfl, rfl, rfl, rfl, trivial⟩
      · replace h := h.2 c
        refine a_aload_n (pc := 57) hC dX10_tonesIn_57 rfl ?_
        refine a_get (pc := 58) hC cl_X10 (oM_0 hX) 0 (by decide) tw_1504 rfl dX10_tonesIn_58 ?_
        refine a_iload (pc := 61) hC dX10_tonesIn_61 rfl ?_
        refine a_iconst (pc := 63) hC dX10_tonesIn_63 (v := 2) rfl ?_
        refine a_iadd (pc := 64) hC dX10_tonesIn_64 ?_
        refine a_iald (pc := 65) hC (oM_1 hX) h.1 dX10_tonesIn_65 ?_
        replace h := h.2
        refine a_iload_n (pc := 66) hC dX10_tonesIn_66 rfl ?_
        refine a_icmp_ne (pc := 67) (tgt := 87) hC dX10_tonesIn_67 (by decide) (fun c => ?_) (fun c => ?_)
        · replace h := h.1 c
          exact (tJX10_tonesIn_87 hX P hR hC hE _ _ _ _ _ _ _ _ _ ih hK _ h).forget ⟨rfl, rfl, rfl, rfl, rfl, rfl, rfl, rfl, trivial⟩
        · replace h := h.2 c
          refine a_aload_n (pc := 70) hC dX10_tonesIn_70 rfl ?_
          refine a_get (pc := 71) hC cl_X10 (oM_0 hX) 0 (by decide) tw_1504 rfl dX10_tonesIn_71 ?_
          refine a_iload (pc := 74) hC dX10_tonesIn_74 rfl ?_
          refine a_iconst (pc := 76) hC dX10_tonesIn_76 (v := 3) rfl ?_
          refine a_iadd (pc := 77) hC dX10_tonesIn_77 ?_
          refine a_iald (pc := 78) hC (oM_1 hX) h.1 dX10_tonesIn_78 ?_
          replace h := h.2
          refine a_iload_n (pc := 79) hC dX10_tonesIn_79 rfl ?_
          refine a_icmp_le (pc := 80) (tgt := 87) hC dX10_tonesIn_80 (by decide) (fun c => ?_) (fun c => ?_)
          · replace h := h.1 c
            exact (tJX10_tonesIn_87 hX P hR hC hE _ _ _ _ _ _ _ _ _ ih hK _ h).forget ⟨rfl, rfl, rfl, rfl, rfl, rfl, rfl, rfl, trivial⟩
          · replace h := h.2 c
            refine a_iconst (pc := 83) hC dX10_tonesIn_83 (v := 1) rfl ?_
            refine a_goto (pc := 84) (tgt := 88) hC dX10_tonesIn_84 (by decide) ?_
            exact (tJX10_tonesIn_88 hX P hR hC hE _ _ _ _ _ _ _ _ _ _ ih hK _ h).forget ⟨rfl, rfl, rfl, rfl, rfl, rfl, rfl, rfl, trivial⟩
set_option maxRecDepth 20000 in
theorem t_X10_tonesIn {l : Launch} {g : aG} (hX : isM g) (hl : l.stackTraces = false) (x1 : Int32) (x2 : Int32) (x3 : Int32) (q : aS) (P : Int32 → aS → Prop) (h : w_X10_tonesIn x1 x2 x3 q P) : aMi l g yX10_tonesIn (aWs yX10_tonesIn cX10_tonesIn 9 (some .int)) 1 0 0 [.ref (gAd g 0), .int x1, .int x2, .int x3] q P (fun _ _ => False) := by
  refine aMi_of RX10 ⟨by decide +kernel, rfl⟩ (cat_all rfl) (Nat.le_of_ble_eq_true rfl) hl hX.cl (fun f hR hC hE => ?_)
  show AW f g 0 [some (.ref (gAd g 0)), some (.int x1), some (.int x2), some (.int x3), none, none, none, none, none] [] q 0 0
  unfold w_X10_tonesIn at h
  refine a_iconst (pc := 0) hC dX10_tonesIn_0 (v := 0) rfl ?_
  refine a_istore (pc := 1) hC dX10_tonesIn_1 (Nat.le_of_ble_eq_true rfl) ?_
  refine a_bipush (pc := 3) hC dX10_tonesIn_3 (v := 9) rfl ?_
  refine a_aload_n (pc := 5) hC dX10_tonesIn_5 rfl ?_
  refine a_get (pc := 6) hC cl_X10 (oM_0 hX) 0 (by decide) tw_1504 rfl dX10_tonesIn_6 ?_
  refine a_iload_n (pc := 9) hC dX10_tonesIn_9 rfl ?_
  refine a_callS (pc := 10) hC hR sm_X10_roomAt tw_1620 ⟨(Nat.le_of_ble_eq_true rfl), (Nat.le_of_ble_eq_true rfl), (Nat.le_of_ble_eq_true rfl), (Nat.le_of_ble_eq_true rfl)⟩ dX10_tonesIn_10 (t_X10_roomAt hX hC.tr _ _ _ h) rfl rfl rfl (Nat.le_of_ble_eq_true rfl) (fun r4 q5 h => ?_)
  refine a_iconst (pc := 13) hC dX10_tonesIn_13 (v := 1) rfl ?_
  refine a_iadd (pc := 14) hC dX10_tonesIn_14 ?_
  refine a_iald (pc := 15) hC (oM_1 hX) h.1 dX10_tonesIn_15 ?_
  replace h := h.2
  refine a_iload_n (pc := 16) hC dX10_tonesIn_16 rfl ?_
  refine a_iadd (pc := 17) hC dX10_tonesIn_17 ?_
  refine a_mmin (pc := 18) hC hR ⟨(Nat.le_of_ble_eq_true rfl), (Nat.le_of_ble_eq_true rfl), (Nat.le_of_ble_eq_true rfl)⟩ rfl tw_1726 tw_361 tw_24 tw_362 (Nat.le_of_ble_eq_true rfl) dX10_tonesIn_18 ?_
  refine a_istore (pc := 21) hC dX10_tonesIn_21 (Nat.le_of_ble_eq_true rfl) ?_
  replace h := h _ rfl
  refine a_iconst (pc := 23) hC dX10_tonesIn_23 (v := 0) rfl ?_
  refine a_istore (pc := 24) hC dX10_tonesIn_24 (Nat.le_of_ble_eq_true rfl) ?_
  obtain ⟨N, h⟩ := h
  refine (tLX10_tonesIn_26 hX P hR hC hE _ _ _ _ (fun y13 q14 h => ?_) N _ _ _ h).forget ⟨rfl, rfl, rfl, rfl, rfl, rfl, rfl, trivial⟩
  refine a_iload (pc := 126) hC dX10_tonesIn_126 rfl ?_
  exact a_iret (pc := 128) hC hE h (Nat.le_of_ble_eq_true rfl) (Nat.le_of_ble_eq_true rfl) dX10_tonesIn_128
set_option maxRecDepth 20000 in
theorem t_X10_isInside {l : Launch} {g : aG} (hX : isM g) (hl : l.stackTraces = false) (x1 : Int32) (q : aS) (P : Int32 → aS → Prop) (h : w_X10_isInside x1 q P) : aMi l g yX10_isInside (aWs yX10_isInside cX10_isInside 2 (some .boolean)) 2 0 0 [.ref (gAd g 0), .int x1] q (fun r u => (r = 0 ∨ r = 1) ∧ P r u) (fun _ _ => False) := by
  refine aMi_of RX10 ⟨by decide +kernel, rfl⟩ (cat_all rfl) (Nat.le_of_ble_eq_true rfl) hl hX.cl (fun f hR hC hE => ?_)
  show AW f g 0 [some (.ref (gAd g 0)), some (.int x1)] [] q 0 0
  unfold w_X10_isInside at h
  refine a_aload_n (pc := 0) hC dX10_isInside_0 rfl ?_
  refine a_iload_n (pc := 1) hC dX10_isInside_1 rfl ?_
  refine a_callV (pc := 2) hC hR vm_X10_isSinger tw_1669 cl_X10 (oM_0 hX) ⟨(Nat.le_of_ble_eq_true rfl), (Nat.le_of_ble_eq_true rfl), (Nat.le_of_ble_eq_true rfl), (Nat.le_of_ble_eq_true rfl)⟩ dX10_isInside_2 (t_X10_isSinger hX hC.tr _ _ _ h) rfl rfl rfl (Nat.le_of_ble_eq_true rfl) (fun r2 q3 h => ?_)
  have z_r2 := h.1
  replace h := h.2
  refine a_if_eq (pc := 5) (tgt := 27) hC dX10_isInside_5 (by decide) (fun c => ?_) (fun c => ?_)
  · replace h := h.1 c
    refine a_iconst (pc := 27) hC dX10_isInside_27 (v := 0) rfl ?_
    exact a_bret (pc := 28) hC hE (Or.inl rfl) h (Nat.le_of_ble_eq_true rfl) (Nat.le_of_ble_eq_true rfl) dX10_isInside_28
  · replace h := h.2 c
    refine a_aload_n (pc := 8) hC dX10_isInside_8 rfl ?_
    refine a_get (pc := 9) hC cl_X10 (oM_0 hX) 0 (by decide) tw_1504 rfl dX10_isInside_9 ?_
    refine a_iload_n (pc := 12) hC dX10_isInside_12 rfl ?_
    refine a_callS (pc := 13) hC hR sm_X10_singerAt tw_1658 ⟨(Nat.le_of_ble_eq_true rfl), (Nat.le_of_ble_eq_true rfl), (Nat.le_of_ble_eq_true rfl), (Nat.le_of_ble_eq_true rfl)⟩ dX10_isInside_13 (t_X10_singerAt hX hC.tr _ _ _ h) rfl rfl rfl (Nat.le_of_ble_eq_true rfl) (fun r4 q5 h => ?_)
    refine a_iconst (pc := 16) hC dX10_isInside_16 (v := 2) rfl ?_
    refine a_iadd (pc := 17) hC dX10_isInside_17 ?_
    refine a_iald (pc := 18) hC (oM_1 hX) h.1 dX10_isInside_18 ?_
    replace h := h.2
    refine a_iconst (pc := 19) hC dX10_isInside_19 (v := (-1)) rfl ?_
    refine a_icmp_eq (pc := 20) (tgt := 27) hC dX10_isInside_20 (by decide) (fun c => ?_) (fun c => ?_)
    · replace h := h.1 c
      refine a_iconst (pc := 27) hC dX10_isInside_27 (v := 0) rfl ?_
      exact a_bret (pc := 28) hC hE (Or.inl rfl) h (Nat.le_of_ble_eq_true rfl) (Nat.le_of_ble_eq_true rfl) dX10_isInside_28
    · replace h := h.2 c
      refine a_iconst (pc := 23) hC dX10_isInside_23 (v := 1) rfl ?_
      refine a_goto (pc := 24) (tgt := 28) hC dX10_isInside_24 (by decide) ?_
      exact a_bret (pc := 28) hC hE (Or.inr rfl) h (Nat.le_of_ble_eq_true rfl) (Nat.le_of_ble_eq_true rfl) dX10_isInside_28
set_option maxRecDepth 20000 in
theorem t_X10_tonesNow {l : Launch} {g : aG} (hX : isM g) (hl : l.stackTraces = false) (x1 : Int32) (q : aS) (P : Int32 → aS → Prop) (h : w_X10_tonesNow x1 q P) : aMi l g yX10_tonesNow (aWs yX10_tonesNow cX10_tonesNow 2 (some .int)) 3 0 0 [.ref (gAd g 0), .int x1] q P (fun _ _ => False) := by
  refine aMi_of RX10 ⟨by decide +kernel, rfl⟩ (cat_all rfl) (Nat.le_of_ble_eq_true rfl) hl hX.cl (fun f hR hC hE => ?_)
  show AW f g 0 [some (.ref (gAd g 0)), some (.int x1)] [] q 0 0
  unfold w_X10_tonesNow at h
  refine a_aload_n (pc := 0) hC dX10_tonesNow_0 rfl ?_
  refine a_aload_n (pc := 1) hC dX10_tonesNow_1 rfl ?_
  refine a_iload_n (pc := 2) hC dX10_tonesNow_2 rfl ?_
  refine a_callV (pc := 3) hC hR vm_X10_isSinger tw_1669 cl_X10 (oM_0 hX) ⟨(Nat.le_of_ble_eq_true rfl), (Nat.le_of_ble_eq_true rfl), (Nat.le_of_ble_eq_true rfl), (Nat.le_of_ble_eq_true rfl)⟩ dX10_tonesNow_3 (t_X10_isSinger hX hC.tr _ _ _ h) rfl rfl rfl (Nat.le_of_ble_eq_true rfl) (fun r2 q3 h => ?_)
  have z_r2 := h.1
  replace h := h.2
  refine a_aload_n (pc := 6) hC dX10_tonesNow_6 rfl ?_
  refine a_iload_n (pc := 7) hC dX10_tonesNow_7 rfl ?_
  refine a_callV (pc := 8) hC hR vm_X10_isInside tw_1780 cl_X10 (oM_0 hX) ⟨(Nat.le_of_ble_eq_true rfl), (Nat.le_of_ble_eq_true rfl), (Nat.le_of_ble_eq_true rfl), (Nat.le_of_ble_eq_true rfl)⟩ dX10_tonesNow_8 (t_X10_isInside hX hC.tr _ _ _ h) rfl rfl rfl (Nat.le_of_ble_eq_true rfl) (fun r4 q5 h => ?_)
  have z_r4 := h.1
  replace h := h.2
  refine a_callV (pc := 11) hC hR vm_X10_goes tw_1585 cl_X10 (oM_0 hX) ⟨(Nat.le_of_ble_eq_true rfl), (Nat.le_of_ble_eq_true rfl), (Nat.le_of_ble_eq_true rfl), (Nat.le_of_ble_eq_true rfl)⟩ dX10_tonesNow_11 (t_X10_goes hX hC.tr _ _ _ _ h) rfl rfl rfl (Nat.le_of_ble_eq_true rfl) (fun r6 q7 h => ?_)
  have z_r6 := h.1
  replace h := h.2
  refine a_if_eq (pc := 14) (tgt := 37) hC dX10_tonesNow_14 (by decide) (fun c => ?_) (fun c => ?_)
  · replace h := h.1 c
    refine a_iconst (pc := 37) hC dX10_tonesNow_37 (v := 0) rfl ?_
    exact a_iret (pc := 38) hC hE h (Nat.le_of_ble_eq_true rfl) (Nat.le_of_ble_eq_true rfl) dX10_tonesNow_38
  · replace h := h.2 c
    refine a_aload_n (pc := 17) hC dX10_tonesNow_17 rfl ?_
    refine a_iload_n (pc := 18) hC dX10_tonesNow_18 rfl ?_
    refine a_aload_n (pc := 19) hC dX10_tonesNow_19 rfl ?_
    refine a_get (pc := 20) hC cl_X10 (oM_0 hX) 0 (by decide) tw_1504 rfl dX10_tonesNow_20 ?_
    refine a_iload_n (pc := 23) hC dX10_tonesNow_23 rfl ?_
    refine a_callS (pc := 24) hC hR sm_X10_singerAt tw_1658 ⟨(Nat.le_of_ble_eq_true rfl), (Nat.le_of_ble_eq_true rfl), (Nat.le_of_ble_eq_true rfl), (Nat.le_of_ble_eq_true rfl)⟩ dX10_tonesNow_24 (t_X10_singerAt hX hC.tr _ _ _ h) rfl rfl rfl (Nat.le_of_ble_eq_true rfl) (fun r8 q9 h => ?_)
    refine a_iconst (pc := 27) hC dX10_tonesNow_27 (v := 2) rfl ?_
    refine a_iadd (pc := 28) hC dX10_tonesNow_28 ?_
    refine a_iald (pc := 29) hC (oM_1 hX) h.1 dX10_tonesNow_29 ?_
    replace h := h.2
    refine a_iconst (pc := 30) hC dX10_tonesNow_30 (v := 0) rfl ?_
    refine a_callV (pc := 31) hC hR vm_X10_tonesIn tw_1784 cl_X10 (oM_0 hX) ⟨(Nat.le_of_ble_eq_true rfl), (Nat.le_of_ble_eq_true rfl), (Nat.le_of_ble_eq_true rfl), (Nat.le_of_ble_eq_true rfl)⟩ dX10_tonesNow_31 (t_X10_tonesIn hX hC.tr _ _ _ _ _ h) rfl rfl rfl (Nat.le_of_ble_eq_true rfl) (fun r10 q11 h => ?_)
    refine a_goto (pc := 34) (tgt := 38) hC dX10_tonesNow_34 (by decide) ?_
    exact a_iret (pc := 38) hC hE h (Nat.le_of_ble_eq_true rfl) (Nat.le_of_ble_eq_true rfl) dX10_tonesNow_38
set_option maxRecDepth 20000 in
theorem t_X10_tones {l : Launch} {g : aG} (hX : isM g) (hl : l.stackTraces = false) (x1 : Int32) (q : aS) (P : Int32 → aS → Prop) (h : w_X10_tones x1 q P) : aMi l g yX10_tones (aWs yX10_tones cX10_tones 2 (some .int)) 4 0 0 [.ref (gAd g 0), .int x1] q P (fun _ _ => False) := by
  refine aMi_of RX10 ⟨by decide +kernel, rfl⟩ (cat_all rfl) (Nat.le_of_ble_eq_true rfl) hl hX.cl (fun f hR hC hE => ?_)
  show AW f g 0 [some (.ref (gAd g 0)), some (.int x1)] [] q 0 0
  unfold w_X10_tones at h
  refine a_aload_n (pc := 0) hC dX10_tones_0 rfl ?_
  refine a_iload_n (pc := 1) hC dX10_tones_1 rfl ?_
  refine a_callV (pc := 2) hC hR vm_X10_tonesNow tw_1776 cl_X10 (oM_0 hX) ⟨(Nat.le_of_ble_eq_true rfl), (Nat.le_of_ble_eq_true rfl), (Nat.le_of_ble_eq_true rfl), (Nat.le_of_ble_eq_true rfl)⟩ dX10_tones_2 (t_X10_tonesNow hX hC.tr _ _ _ h) rfl rfl rfl (Nat.le_of_ble_eq_true rfl) (fun r2 q3 h => ?_)
  exact a_iret (pc := 5) hC hE h (Nat.le_of_ble_eq_true rfl) (Nat.le_of_ble_eq_true rfl) dX10_tones_5
set_option maxRecDepth 20000 in
theorem t_X10_tonesAgain {l : Launch} {g : aG} (hX : isM g) (hl : l.stackTraces = false) (x1 : Int32) (q : aS) (P : Int32 → aS → Prop) (h : w_X10_tonesAgain x1 q P) : aMi l g yX10_tonesAgain (aWs yX10_tonesAgain cX10_tonesAgain 2 (some .int)) 4 0 0 [.ref (gAd g 0), .int x1] q P (fun _ _ => False) := by
  refine aMi_of RX10 ⟨by decide +kernel, rfl⟩ (cat_all rfl) (Nat.le_of_ble_eq_true rfl) hl hX.cl (fun f hR hC hE => ?_)
  show AW f g 0 [some (.ref (gAd g 0)), some (.int x1)] [] q 0 0
  unfold w_X10_tonesAgain at h
  refine a_aload_n (pc := 0) hC dX10_tonesAgain_0 rfl ?_
  refine a_iload_n (pc := 1) hC dX10_tonesAgain_1 rfl ?_
  refine a_callV (pc := 2) hC hR vm_X10_tonesNow tw_1776 cl_X10 (oM_0 hX) ⟨(Nat.le_of_ble_eq_true rfl), (Nat.le_of_ble_eq_true rfl), (Nat.le_of_ble_eq_true rfl), (Nat.le_of_ble_eq_true rfl)⟩ dX10_tonesAgain_2 (t_X10_tonesNow hX hC.tr _ _ _ h) rfl rfl rfl (Nat.le_of_ble_eq_true rfl) (fun r2 q3 h => ?_)
  exact a_iret (pc := 5) hC hE h (Nat.le_of_ble_eq_true rfl) (Nat.le_of_ble_eq_true rfl) dX10_tonesAgain_5
set_option maxRecDepth 20000 in
theorem tLX10_versesNow_21 {f : aF} {g : aG} (hX : isM g) (P : Int32 → aS → Prop) (hR : f_R f = aR 3 0 0) (hC : aOK f g cX10_versesNow 3 RX10) (hE : aEi f g .int P (fun _ _ => False) 0 0) (c1 : Int32) {K : Int32 → aS → Prop} (hK : ∀ (w2 : Int32) (q : aS), K w2 q → AW f g 47 [none, none, some (.int w2)] [] q 0 0) : ∀ (N : Nat) (v2 : Int32) (q : aS), LX10_versesNow_21 c1 P K N v2 q → AW f g 21 [some (.ref (gAd g 0)), some (.int c1), some (.int v2)] [] q 0 0 := by
  intro N
  induction N with
  | zero =>
    intro v2 q h
    exact h.elim
  | succ N ih =>
    intro v2 q h
    unfold LX10_versesNow_21 at h
    refine a_aload_n (pc := 21) hC dX10_versesNow_21 rfl ?_
    refine a_iload_n (pc := 22) hC dX10_versesNow_22 rfl ?_
    refine a_aload_n (pc := 23) hC dX10_versesNow_23 rfl ?_
    refine a_get (pc := 24) hC cl_X10 (oM_0 hX) 0 (by decide) tw_1504 rfl dX10_versesNow_24 ?_
    refine a_iload_n (pc := 27) hC dX10_versesNow_27 rfl ?_
    refine a_callS (pc := 28) hC hR sm_X10_singerAt tw_1658 ⟨(Nat.le_of_ble_eq_true rfl), (Nat.le_of_ble_eq_true rfl), (Nat.le_of_ble_eq_true rfl), (Nat.le_of_ble_eq_true rfl)⟩ dX10_versesNow_28 (t_X10_singerAt hX hC.tr _ _ _ h) rfl rfl rfl (Nat.le_of_ble_eq_true rfl) (fun r8 q9 h => ?_)
    refine a_iconst (pc := 31) hC dX10_versesNow_31 (v := 2) rfl ?_
    refine a_iadd (pc := 32) hC dX10_versesNow_32 ?_
    refine a_iald (pc := 33) hC (oM_1 hX) h.1 dX10_versesNow_33 ?_
    replace h := h.2
    refine a_iload_n (pc := 34) hC dX10_versesNow_34 rfl ?_
    refine a_callV (pc := 35) hC hR vm_X10_tonesIn tw_1784 cl_X10 (oM_0 hX) ⟨(Nat.le_of_ble_eq_true rfl), (Nat.le_of_ble_eq_true rfl), (Nat.le_of_ble_eq_true rfl), (Nat.le_of_ble_eq_true rfl)⟩ dX10_versesNow_35 (t_X10_tonesIn hX hC.tr _ _ _ _ _ h) rfl rfl rfl (Nat.le_of_ble_eq_true rfl) (fun r10 q11 h => ?_)
    refine a_if_le (pc := 38) (tgt := 47) hC dX10_versesNow_38 (by decide) (fun c => ?_) (fun c => ?_)
    · replace h := h.1 c
      exact (hK _ _ h).forget ⟨rfl, trivial⟩
    · replace h := h.2 c
      refine a_iinc (pc := 41) hC dX10_versesNow_41 rfl (c := 1) rfl ?_
      replace h := h _ rfl
      refine a_goto (pc := 44) (tgt := 21) hC dX10_versesNow_44 (by decide) ?_
      exact (ih _ _ h).forget ⟨rfl, rfl, rfl, trivial⟩
set_option maxRecDepth 20000 in
theorem t_X10_versesNow {l : Launch} {g : aG} (hX : isM g) (hl : l.stackTraces = false) (x1 : Int32) (q : aS) (P : Int32 → aS → Prop) (h : w_X10_versesNow x1 q P) : aMi l g yX10_versesNow (aWs yX10_versesNow cX10_versesNow 3 (some .int)) 3 0 0 [.ref (gAd g 0), .int x1] q P (fun _ _ => False) := by
  refine aMi_of RX10 ⟨by decide +kernel, rfl⟩ (cat_all rfl) (Nat.le_of_ble_eq_true rfl) hl hX.cl (fun f hR hC hE => ?_)
  show AW f g 0 [some (.ref (gAd g 0)), some (.int x1), none] [] q 0 0
  unfold w_X10_versesNow at h
  refine a_aload_n (pc := 0) hC dX10_versesNow_0 rfl ?_
  refine a_aload_n (pc := 1) hC dX10_versesNow_1 rfl ?_
  refine a_iload_n (pc := 2) hC dX10_versesNow_2 rfl ?_
  refine a_callV (pc := 3) hC hR vm_X10_isSinger tw_1669 cl_X10 (oM_0 hX) ⟨(Nat.le_of_ble_eq_true rfl), (Nat.le_of_ble_eq_true rfl), (Nat.le_of_ble_eq_true rfl), (Nat.le_of_ble_eq_true rfl)⟩ dX10_versesNow_3 (t_X10_isSinger hX hC.tr _ _ _ h) rfl rfl rfl (Nat.le_of_ble_eq_true rfl) (fun r2 q3 h => ?_)
  have z_r2 := h.1
  replace h := h.2
  refine a_aload_n (pc := 6) hC dX10_versesNow_6 rfl ?_
  refine a_iload_n (pc := 7) hC dX10_versesNow_7 rfl ?_
  refine a_callV (pc := 8) hC hR vm_X10_isInside tw_1780 cl_X10 (oM_0 hX) ⟨(Nat.le_of_ble_eq_true rfl), (Nat.le_of_ble_eq_true rfl), (Nat.le_of_ble_eq_true rfl), (Nat.le_of_ble_eq_true rfl)⟩ dX10_versesNow_8 (t_X10_isInside hX hC.tr _ _ _ h) rfl rfl rfl (Nat.le_of_ble_eq_true rfl) (fun r4 q5 h => ?_)
  have z_r4 := h.1
  replace h := h.2
  refine a_callV (pc := 11) hC hR vm_X10_goes tw_1585 cl_X10 (oM_0 hX) ⟨(Nat.le_of_ble_eq_true rfl), (Nat.le_of_ble_eq_true rfl), (Nat.le_of_ble_eq_true rfl), (Nat.le_of_ble_eq_true rfl)⟩ dX10_versesNow_11 (t_X10_goes hX hC.tr _ _ _ _ h) rfl rfl rfl (Nat.le_of_ble_eq_true rfl) (fun r6 q7 h => ?_)
  have z_r6 := h.1
  replace h := h.2
  refine a_if_ne (pc := 14) (tgt := 19) hC dX10_versesNow_14 (by decide) (fun c => ?_) (fun c => ?_)
  · replace h := h.1 c
    refine a_iconst (pc := 19) hC dX10_versesNow_19 (v := 0) rfl ?_
    refine a_istore_n (pc := 20) hC dX10_versesNow_20 (Nat.le_of_ble_eq_true rfl) ?_
    obtain ⟨N, h⟩ := h
    refine (tLX10_versesNow_21 hX P hR hC hE _ (fun y13 q14 h => ?_) N _ _ h).forget ⟨rfl, rfl, rfl, trivial⟩
    refine a_iload_n (pc := 47) hC dX10_versesNow_47 rfl ?_
    exact a_iret (pc := 48) hC hE h (Nat.le_of_ble_eq_true rfl) (Nat.le_of_ble_eq_true rfl) dX10_versesNow_48
  · replace h := h.2 c
    refine a_iconst (pc := 17) hC dX10_versesNow_17 (v := 0) rfl ?_
    exact a_iret (pc := 18) hC hE h (Nat.le_of_ble_eq_true rfl) (Nat.le_of_ble_eq_true rfl) dX10_versesNow_18
set_option maxRecDepth 20000 in
theorem t_X10_verses {l : Launch} {g : aG} (hX : isM g) (hl : l.stackTraces = false) (x1 : Int32) (q : aS) (P : Int32 → aS → Prop) (h : w_X10_verses x1 q P) : aMi l g yX10_verses (aWs yX10_verses cX10_verses 2 (some .int)) 4 0 0 [.ref (gAd g 0), .int x1] q P (fun _ _ => False) := by
  refine aMi_of RX10 ⟨by decide +kernel, rfl⟩ (cat_all rfl) (Nat.le_of_ble_eq_true rfl) hl hX.cl (fun f hR hC hE => ?_)
  show AW f g 0 [some (.ref (gAd g 0)), some (.int x1)] [] q 0 0
  unfold w_X10_verses at h
  refine a_aload_n (pc := 0) hC dX10_verses_0 rfl ?_
  refine a_iload_n (pc := 1) hC dX10_verses_1 rfl ?_
  refine a_callV (pc := 2) hC hR vm_X10_versesNow tw_1796 cl_X10 (oM_0 hX) ⟨(Nat.le_of_ble_eq_true rfl), (Nat.le_of_ble_eq_true rfl), (Nat.le_of_ble_eq_true rfl), (Nat.le_of_ble_eq_true rfl)⟩ dX10_verses_2 (t_X10_versesNow hX hC.tr _ _ _ h) rfl rfl rfl (Nat.le_of_ble_eq_true rfl) (fun r2 q3 h => ?_)
  exact a_iret (pc := 5) hC hE h (Nat.le_of_ble_eq_true rfl) (Nat.le_of_ble_eq_true rfl) dX10_verses_5
set_option maxRecDepth 20000 in
theorem t_X10_versesAgain {l : Launch} {g : aG} (hX : isM g) (hl : l.stackTraces = false) (x1 : Int32) (q : aS) (P : Int32 → aS → Prop) (h : w_X10_versesAgain x1 q P) : aMi l g yX10_versesAgain (aWs yX10_versesAgain cX10_versesAgain 2 (some .int)) 4 0 0 [.ref (gAd g 0), .int x1] q P (fun _ _ => False) := by
  refine aMi_of RX10 ⟨by decide +kernel, rfl⟩ (cat_all rfl) (Nat.le_of_ble_eq_true rfl) hl hX.cl (fun f hR hC hE => ?_)
  show AW f g 0 [some (.ref (gAd g 0)), some (.int x1)] [] q 0 0
  unfold w_X10_versesAgain at h
  refine a_aload_n (pc := 0) hC dX10_versesAgain_0 rfl ?_
  refine a_iload_n (pc := 1) hC dX10_versesAgain_1 rfl ?_
  refine a_callV (pc := 2) hC hR vm_X10_versesNow tw_1796 cl_X10 (oM_0 hX) ⟨(Nat.le_of_ble_eq_true rfl), (Nat.le_of_ble_eq_true rfl), (Nat.le_of_ble_eq_true rfl), (Nat.le_of_ble_eq_true rfl)⟩ dX10_versesAgain_2 (t_X10_versesNow hX hC.tr _ _ _ h) rfl rfl rfl (Nat.le_of_ble_eq_true rfl) (fun r2 q3 h => ?_)
  exact a_iret (pc := 5) hC hE h (Nat.le_of_ble_eq_true rfl) (Nat.le_of_ble_eq_true rfl) dX10_versesAgain_5
set_option maxRecDepth 20000 in
theorem tJX10_would_22 {f : aF} {g : aG} (hX : isM g) (P : Int32 → aS → Prop) (hR : f_R f = aR 2 0 0) (hC : aOK f g cX10_would 3 RX10) (hE : aEi f g .int P (fun _ _ => False) 0 0) (j1 : Int32) (j2 : Int32) (s0 : Int32) (q : aS) (h : JX10_would_22 j1 j2 s0 P q) : AW f g 22 [some (.ref (gAd g 0)), some (.int j1), some (.int j2)] [.int s0, .ref (gAd g 0)] q 0 0 := by
  unfold JX10_would_22 at h
  refine a_iconst (pc := 22) hC dX10_would_22 (v := 1) rfl ?_
  refine a_callV (pc := 23) hC hR vm_X10_goes tw_1585 cl_X10 (oM_0 hX) ⟨(Nat.le_of_ble_eq_true rfl), (Nat.le_of_ble_eq_true rfl), (Nat.le_of_ble_eq_true rfl), (Nat.le_of_ble_eq_true rfl)⟩ dX10_would_23 (t_X10_goes hX hC.tr _ _ _ _ h) rfl rfl rfl (Nat.le_of_ble_eq_true rfl) (fun r5 q6 h => ?_)
  have z_r5 := h.1
  replace h := h.2
  refine a_if_eq (pc := 26) (tgt := 39) hC dX10_would_26 (by decide) (fun c => ?_) (fun c => ?_)
  · replace h := h.1 c
    refine a_iconst (pc := 39) hC dX10_would_39 (v := 0) rfl ?_
    exact a_iret (pc := 40) hC hE h (Nat.le_of_ble_eq_true rfl) (Nat.le_of_ble_eq_true rfl) dX10_would_40
  · replace h := h.2 c
    refine a_aload_n (pc := 29) hC dX10_would_29 rfl ?_
    refine a_iload_n (pc := 30) hC dX10_would_30 rfl ?_
    refine a_iload_n (pc := 31) hC dX10_would_31 rfl ?_
    refine a_iconst (pc := 32) hC dX10_would_32 (v := 0) rfl ?_
    refine a_callV (pc := 33) hC hR vm_X10_tonesIn tw_1784 cl_X10 (oM_0 hX) ⟨(Nat.le_of_ble_eq_true rfl), (Nat.le_of_ble_eq_true rfl), (Nat.le_of_ble_eq_true rfl), (Nat.le_of_ble_eq_true rfl)⟩ dX10_would_33 (t_X10_tonesIn hX hC.tr _ _ _ _ _ h) rfl rfl rfl (Nat.le_of_ble_eq_true rfl) (fun r7 q8 h => ?_)
    refine a_goto (pc := 36) (tgt := 40) hC dX10_would_36 (by decide) ?_
    exact a_iret (pc := 40) hC hE h (Nat.le_of_ble_eq_true rfl) (Nat.le_of_ble_eq_true rfl) dX10_would_40
set_option maxRecDepth 20000 in
theorem tJX10_would_21 {f : aF} {g : aG} (hX : isM g) (P : Int32 → aS → Prop) (hR : f_R f = aR 2 0 0) (hC : aOK f g cX10_would 3 RX10) (hE : aEi f g .int P (fun _ _ => False) 0 0) (j1 : Int32) (j2 : Int32) (q : aS) (h : JX10_would_21 j1 j2 P q) : AW f g 21 [some (.ref (gAd g 0)), some (.int j1), some (.int j2)] [.ref (gAd g 0)] q 0 0 := by
  unfold JX10_would_21 at h
  refine a_iconst (pc := 21) hC dX10_would_21 (v := 0) rfl ?_
  exact (tJX10_would_22 hX P hR hC hE _ _ _ _ h).forget ⟨rfl, rfl, rfl, trivial⟩
set_option maxRecDepth 20000 in
theorem t_X10_would {l : Launch} {g : aG} (hX : isM g) (hl : l.stackTraces = false) (x1 : Int32) (x2 : Int32) (q : aS) (P : Int32 → aS → Prop) (h : w_X10_would x1 x2 q P) : aMi l g yX10_would (aWs yX10_would cX10_would 3 (some .int)) 2 0 0 [.ref (gAd g 0), .int x1, .int x2] q P (fun _ _ => False) := by
  refine aMi_of RX10 ⟨by decide +kernel, rfl⟩ (cat_all rfl) (Nat.le_of_ble_eq_true rfl) hl hX.cl (fun f hR hC hE => ?_)
  show AW f g 0 [some (.ref (gAd g 0)), some (.int x1), some (.int x2)] [] q 0 0
  unfold w_X10_would at h
  refine a_aload_n (pc := 0) hC dX10_would_0 rfl ?_
  refine a_aload_n (pc := 1) hC dX10_would_1 rfl ?_
  refine a_iload_n (pc := 2) hC dX10_would_2 rfl ?_
  refine a_callV (pc := 3) hC hR vm_X10_isSinger tw_1669 cl_X10 (oM_0 hX) ⟨(Nat.le_of_ble_eq_true rfl), (Nat.le_of_ble_eq_true rfl), (Nat.le_of_ble_eq_true rfl), (Nat.le_of_ble_eq_true rfl)⟩ dX10_would_3 (t_X10_isSinger hX hC.tr _ _ _ h) rfl rfl rfl (Nat.le_of_ble_eq_true rfl) (fun r3 q4 h => ?_)
  have z_r3 := h.1
  replace h := h.2
  refine a_if_eq (pc := 6) (tgt := 21) hC dX10_would_6 (by decide) (fun c => ?_) (fun c => ?_)
  · replace h := h.1 c
    exact (tJX10_would_21 hX P hR hC hE _ _ _ h).forget ⟨rfl, rfl, rfl, trivial⟩
  · replace h := h.2 c
    refine a_aload_n (pc := 9) hC dX10_would_9 rfl ?_
    refine a_iload_n (pc := 10) hC dX10_would_10 rfl ?_
    refine a_callV (pc := 11) hC hR vm_X10_isRoom tw_1643 cl_X10 (oM_0 hX) ⟨(Nat.le_of_ble_eq_true rfl), (Nat.le_of_ble_eq_true rfl), (Nat.le_of_ble_eq_true rfl), (Nat.le_of_ble_eq_true rfl)⟩ dX10_would_11 (t_X10_isRoom hX hC.tr _ _ _ h) rfl rfl rfl (Nat.le_of_ble_eq_true rfl) (fun r9 q10 h => ?_)
    have z_r9 := h.1
    replace h := h.2
    refine a_if_eq (pc := 14) (tgt := 21) hC dX10_would_14 (by decide) (fun c => ?_) (fun c => ?_)
    · replace h := h.1 c
      exact (tJX10_would_21 hX P hR hC hE _ _ _ h).forget ⟨rfl, rfl, rfl, trivial⟩
    · replace h := h.2 c
      refine a_iconst (pc := 17) hC dX10_would_17 (v := 1) rfl ?_
      refine a_goto (pc := 18) (tgt := 22) hC dX10_would_18 (by decide) ?_
      exact (tJX10_would_22 hX P hR hC hE _ _ _ _ h).forget ⟨rfl, rfl, rfl, trivial⟩
set_option maxRecDepth 20000 in
theorem tLX10_bestRoom_32 {f : aF} {g : aG} (hX : isM g) (P : Int32 → aS → Prop) (hR : f_R f = aR 2 0 0) (hC : aOK f g cX10_bestRoom 4 RX10) (hE : aEi f g .int P (fun _ _ => False) 0 0) (c1 : Int32) {K : Int32 → aS → Prop} (hK : ∀ (w2 : Int32) (q : aS), K w2 q → AW f g 71 [none, none, some (.int w2), none] [] q 0 0) : ∀ (N : Nat) (v2 : Int32) (v3 : Int32) (q : aS), LX10_bestRoom_32 c1 P K N v2 v3 q → AW f g 32 [some (.ref (gAd g 0)), some (.int c1), some (.int v2), some (.int v3)] [] q 0 0 := by
  intro N
  induction N with
  | zero =>
    intro v2 v3 q h
    exact h.elim
  | succ N ih =>
    intro v2 v3 q h
    unfold LX10_bestRoom_32 at h
    refine a_iload_n (pc := 32) hC dX10_bestRoom_32 rfl ?_
    refine a_aload_n (pc := 33) hC dX10_bestRoom_33 rfl ?_
    refine a_get (pc := 34) hC cl_X10 (oM_0 hX) 0 (by decide) tw_1504 rfl dX10_bestRoom_34 ?_
    refine a_iconst (pc := 37) hC dX10_bestRoom_37 (v := 0) rfl ?_
    refine a_iald (pc := 38) hC (oM_1 hX) h.1 dX10_bestRoom_38 ?_
    replace h := h.2
    refine a_icmp_ge (pc := 39) (tgt := 71) hC dX10_bestRoom_39 (by decide) (fun c => ?_) (fun c => ?_)
    · replace h := h.1 c
      exact (hK _ _ h).forget ⟨rfl, trivial⟩
    · replace h := h.2 c
      refine a_aload_n (pc := 42) hC dX10_bestRoom_42 rfl ?_
      refine a_iload_n (pc := 43) hC dX10_bestRoom_43 rfl ?_
      refine a_iload_n (pc := 44) hC dX10_bestRoom_44 rfl ?_
      refine a_iconst (pc := 45) hC dX10_bestRoom_45 (v := 0) rfl ?_
      refine a_callV (pc := 46) hC hR vm_X10_tonesIn tw_1784 cl_X10 (oM_0 hX) ⟨(Nat.le_of_ble_eq_true rfl), (Nat.le_of_ble_eq_true rfl), (Nat.le_of_ble_eq_true rfl), (Nat.le_of_ble_eq_true rfl)⟩ dX10_bestRoom_46 (t_X10_tonesIn hX hC.tr _ _ _ _ _ h) rfl rfl rfl (Nat.le_of_ble_eq_true rfl) (fun r6 q7 h => ?_)
      refine a_aload_n (pc := 49) hC dX10_bestRoom_49 rfl ?_
      refine a_iload_n (pc := 50) hC dX10_bestRoom_50 rfl ?_
      refine a_iload_n (pc := 51) hC dX10_bestRoom_51 rfl ?_
      refine a_iconst (pc := 52) hC dX10_bestRoom_52 (v := 0) rfl ?_
      refine a_callV (pc := 53) hC hR vm_X10_tonesIn tw_1784 cl_X10 (oM_0 hX) ⟨(Nat.le_of_ble_eq_true rfl), (Nat.le_of_ble_eq_true rfl), (Nat.le_of_ble_eq_true rfl), (Nat.le_of_ble_eq_true rfl)⟩ dX10_bestRoom_53 (t_X10_tonesIn hX hC.tr _ _ _ _ _ h) rfl rfl rfl (Nat.le_of_ble_eq_true rfl) (fun r8 q9 h => ?_)
      refine a_icmp_le (pc := 56) (tgt := 63) hC dX10_bestRoom_56 (by decide) (fun c => ?_) (fun c => ?_)
      · replace h := h.1 c
        refine a_iload_n (pc := 63) hC dX10_bestRoom_63 rfl ?_
        refine a_istore_n (pc := 64) hC dX10_bestRoom_64 (Nat.le_of_ble_eq_true rfl) ?_
        refine a_iinc (pc := 65) hC dX10_bestRoom_65 rfl (c := 1) rfl ?_
        replace h := h _ rfl
        refine a_goto (pc := 68) (tgt := 32) hC dX10_bestRoom_68 (by decide) ?_
        exact (ih _ _ _ h).forget ⟨rfl, rfl, rfl, rfl, trivial⟩
      · replace h := h.2 c
        refine a_iload_n (pc := 59) hC dX10_bestRoom_59 rfl ?_
        refine a_goto (pc := 60) (tgt := 64) hC dX10_bestRoom_60 (by decide) ?_
        refine a_istore_n (pc := 64) hC dX10_bestRoom_64 (Nat.le_of_ble_eq_true rfl) ?_
        refine a_iinc (pc := 65) hC dX10_bestRoom_65 rfl (c := 1) rfl ?_
        replace h := h _ rfl
        refine a_goto (pc := 68) (tgt := 32) hC dX10_bestRoom_68 (by decide) ?_
        exact (ih _ _ _ h).forget ⟨rfl, rfl, rfl, rfl, trivial⟩
set_option maxRecDepth 20000 in
theorem tJX10_bestRoom_20 {f : aF} {g : aG} (hX : isM g) (P : Int32 → aS → Prop) (hR : f_R f = aR 2 0 0) (hC : aOK f g cX10_bestRoom 4 RX10) (hE : aEi f g .int P (fun _ _ => False) 0 0) (j1 : Int32) (s0 : Int32) (s1 : Int32) (q : aS) (h : JX10_bestRoom_20 j1 s0 s1 P q) : AW f g 20 [some (.ref (gAd g 0)), some (.int j1), none, none] [.int s0, .int s1, .ref (gAd g 0)] q 0 0 := by
  unfold JX10_bestRoom_20 at h
  refine a_callV (pc := 20) hC hR vm_X10_goes tw_1585 cl_X10 (oM_0 hX) ⟨(Nat.le_of_ble_eq_true rfl), (Nat.le_of_ble_eq_true rfl), (Nat.le_of_ble_eq_true rfl), (Nat.le_of_ble_eq_true rfl)⟩ dX10_bestRoom_20 (t_X10_goes hX hC.tr _ _ _ _ h) rfl rfl rfl (Nat.le_of_ble_eq_true rfl) (fun r4 q5 h => ?_)
  have z_r4 := h.1
  replace h := h.2
  refine a_if_ne (pc := 23) (tgt := 28) hC dX10_bestRoom_23 (by decide) (fun c => ?_) (fun c => ?_)
  · replace h := h.1 c
    refine a_iconst (pc := 28) hC dX10_bestRoom_28 (v := 0) rfl ?_
    refine a_istore_n (pc := 29) hC dX10_bestRoom_29 (Nat.le_of_ble_eq_true rfl) ?_
    refine a_iconst (pc := 30) hC dX10_bestRoom_30 (v := 1) rfl ?_
    refine a_istore_n (pc := 31) hC dX10_bestRoom_31 (Nat.le_of_ble_eq_true rfl) ?_
    obtain ⟨N, h⟩ := h
    refine (tLX10_bestRoom_32 hX P hR hC hE _ (fun y12 q13 h => ?_) N _ _ _ h).forget ⟨rfl, rfl, rfl, rfl, trivial⟩
    refine a_iload_n (pc := 71) hC dX10_bestRoom_71 rfl ?_
    exact a_iret (pc := 72) hC hE h (Nat.le_of_ble_eq_true rfl) (Nat.le_of_ble_eq_true rfl) dX10_bestRoom_72
  · replace h := h.2 c
    refine a_iconst (pc := 26) hC dX10_bestRoom_26 (v := 0) rfl ?_
    exact a_iret (pc := 27) hC hE h (Nat.le_of_ble_eq_true rfl) (Nat.le_of_ble_eq_true rfl) dX10_bestRoom_27
set_option maxRecDepth 20000 in
theorem t_X10_bestRoom {l : Launch} {g : aG} (hX : isM g) (hl : l.stackTraces = false) (x1 : Int32) (q : aS) (P : Int32 → aS → Prop) (h : w_X10_bestRoom x1 q P) : aMi l g yX10_bestRoom (aWs yX10_bestRoom cX10_bestRoom 4 (some .int)) 2 0 0 [.ref (gAd g 0), .int x1] q P (fun _ _ => False) := by
  refine aMi_of RX10 ⟨by decide +kernel, rfl⟩ (cat_all rfl) (Nat.le_of_ble_eq_true rfl) hl hX.cl (fun f hR hC hE => ?_)
  show AW f g 0 [some (.ref (gAd g 0)), some (.int x1), none, none] [] q 0 0
  unfold w_X10_bestRoom at h
  refine a_aload_n (pc := 0) hC dX10_bestRoom_0 rfl ?_
  refine a_aload_n (pc := 1) hC dX10_bestRoom_1 rfl ?_
  refine a_iload_n (pc := 2) hC dX10_bestRoom_2 rfl ?_
  refine a_callV (pc := 3) hC hR vm_X10_isSinger tw_1669 cl_X10 (oM_0 hX) ⟨(Nat.le_of_ble_eq_true rfl), (Nat.le_of_ble_eq_true rfl), (Nat.le_of_ble_eq_true rfl), (Nat.le_of_ble_eq_true rfl)⟩ dX10_bestRoom_3 (t_X10_isSinger hX hC.tr _ _ _ h) rfl rfl rfl (Nat.le_of_ble_eq_true rfl) (fun r2 q3 h => ?_)
  have z_r2 := h.1
  replace h := h.2
  refine a_aload_n (pc := 6) hC dX10_bestRoom_6 rfl ?_
  refine a_get (pc := 7) hC cl_X10 (oM_0 hX) 0 (by decide) tw_1504 rfl dX10_bestRoom_7 ?_
  refine a_iconst (pc := 10) hC dX10_bestRoom_10 (v := 0) rfl ?_
  refine a_iald (pc := 11) hC (oM_1 hX) h.1 dX10_bestRoom_11 ?_
  replace h := h.2
  refine a_if_le (pc := 12) (tgt := 19) hC dX10_bestRoom_12 (by decide) (fun c => ?_) (fun c => ?_)
  · replace h := h.1 c
    refine a_iconst (pc := 19) hC dX10_bestRoom_19 (v := 0) rfl ?_
    exact (tJX10_bestRoom_20 hX P hR hC hE _ _ _ _ h).forget ⟨rfl, rfl, trivial⟩
  · replace h := h.2 c
    refine a_iconst (pc := 15) hC dX10_bestRoom_15 (v := 1) rfl ?_
    refine a_goto (pc := 16) (tgt := 20) hC dX10_bestRoom_16 (by decide) ?_
    exact (tJX10_bestRoom_20 hX P hR hC hE _ _ _ _ h).forget ⟨rfl, rfl, trivial⟩
set_option maxRecDepth 20000 in
theorem tJX10_canEnter_22 {f : aF} {g : aG} (hX : isM g) (P : Int32 → aS → Prop) (hR : f_R f = aR 4 0 0) (hC : aOK f g cX10_canEnter 3 RX10) (hE : aEi f g .boolean (fun r u => (r = 0 ∨ r = 1) ∧ P r u) (fun _ _ => False) 0 0) (j1 : Int32) (j2 : Int32) (s0 : Int32) (q : aS) (h : JX10_canEnter_22 j1 j2 s0 P q) : AW f g 22 [some (.ref (gAd g 0)), some (.int j1), some (.int j2)] [.int s0, .ref (gAd g 0)] q 0 0 := by
  unfold JX10_canEnter_22 at h
  refine a_iconst (pc := 22) hC dX10_canEnter_22 (v := 1) rfl ?_
  refine a_callV (pc := 23) hC hR vm_X10_goes tw_1585 cl_X10 (oM_0 hX) ⟨(Nat.le_of_ble_eq_true rfl), (Nat.le_of_ble_eq_true rfl), (Nat.le_of_ble_eq_true rfl), (Nat.le_of_ble_eq_true rfl)⟩ dX10_canEnter_23 (t_X10_goes hX hC.tr _ _ _ _ h) rfl rfl rfl (Nat.le_of_ble_eq_true rfl) (fun r5 q6 h => ?_)
  have z_r5 := h.1
  replace h := h.2
  refine a_if_ne (pc := 26) (tgt := 31) hC dX10_canEnter_26 (by decide) (fun c => ?_) (fun c => ?_)
  · replace h := h.1 c
    refine a_aload_n (pc := 31) hC dX10_canEnter_31 rfl ?_
    refine a_iconst (pc := 32) hC dX10_canEnter_32 (v := 0) rfl ?_
    refine a_put (pc := 33) hC cl_X10 (oM_0 hX) 16 (by decide) tw_1520 tyX10 tyX10_ok rfl rfl rfl (Nat.le_of_ble_eq_true rfl) rfl dX10_canEnter_33 ?_
    replace h := h _ rfl
    refine a_aload_n (pc := 36) hC dX10_canEnter_36 rfl ?_
    refine a_iload_n (pc := 37) hC dX10_canEnter_37 rfl ?_
    refine a_iload_n (pc := 38) hC dX10_canEnter_38 rfl ?_
    refine a_callVv (pc := 39) hC hR vm_X10_asksRoom tw_1673 cl_X10 (oM_0 hX) ⟨(Nat.le_of_ble_eq_true rfl), (Nat.le_of_ble_eq_true rfl), (Nat.le_of_ble_eq_true rfl), (Nat.le_of_ble_eq_true rfl)⟩ dX10_canEnter_39 (t_X10_asksRoom hX hC.tr _ _ _ _ h) rfl rfl rfl (Nat.le_of_ble_eq_true rfl) (fun q9 h => ?_)
    refine a_aload_n (pc := 42) hC dX10_canEnter_42 rfl ?_
    refine a_get (pc := 43) hC cl_X10 (oM_0 hX) 16 (by decide) tw_1520 rfl dX10_canEnter_43 ?_
    refine a_if_ne (pc := 46) (tgt := 53) hC dX10_canEnter_46 (by decide) (fun c => ?_) (fun c => ?_)
    · replace h := h.1 c
      refine a_iconst (pc := 53) hC dX10_canEnter_53 (v := 0) rfl ?_
      exact a_bret (pc := 54) hC hE (Or.inl rfl) h (Nat.le_of_ble_eq_true rfl) (Nat.le_of_ble_eq_true rfl) dX10_canEnter_54
    · replace h := h.2 c
      refine a_iconst (pc := 49) hC dX10_canEnter_49 (v := 1) rfl ?_
      refine a_goto (pc := 50) (tgt := 54) hC dX10_canEnter_50 (by decide) ?_
      exact a_bret (pc := 54) hC hE (Or.inr rfl) h (Nat.le_of_ble_eq_true rfl) (Nat.le_of_ble_eq_true rfl) dX10_canEnter_54
  · replace h := h.2 c
    refine a_iconst (pc := 29) hC dX10_canEnter_29 (v := 0) rfl ?_
    exact a_bret (pc := 30) hC hE (Or.inl rfl) h (Nat.le_of_ble_eq_true rfl) (Nat.le_of_ble_eq_true rfl) dX10_canEnter_30
set_option maxRecDepth 20000 in
theorem tJX10_canEnter_21 {f : aF} {g : aG} (hX : isM g) (P : Int32 → aS → Prop) (hR : f_R f = aR 4 0 0) (hC : aOK f g cX10_canEnter 3 RX10) (hE : aEi f g .boolean (fun r u => (r = 0 ∨ r = 1) ∧ P r u) (fun _ _ => False) 0 0) (j1 : Int32) (j2 : Int32) (q : aS) (h : JX10_canEnter_21 j1 j2 P q) : AW f g 21 [some (.ref (gAd g 0)), some (.int j1), some (.int j2)] [.ref (gAd g 0)] q 0 0 := by
  unfold JX10_canEnter_21 at h
  refine a_iconst (pc := 21) hC dX10_canEnter_21 (v := 0) rfl ?_
  exact (tJX10_canEnter_22 hX P hR hC hE _ _ _ _ h).forget ⟨rfl, rfl, rfl, trivial⟩
set_option maxRecDepth 20000 in
theorem t_X10_canEnter {l : Launch} {g : aG} (hX : isM g) (hl : l.stackTraces = false) (x1 : Int32) (x2 : Int32) (q : aS) (P : Int32 → aS → Prop) (h : w_X10_canEnter x1 x2 q P) : aMi l g yX10_canEnter (aWs yX10_canEnter cX10_canEnter 3 (some .boolean)) 4 0 0 [.ref (gAd g 0), .int x1, .int x2] q (fun r u => (r = 0 ∨ r = 1) ∧ P r u) (fun _ _ => False) := by
  refine aMi_of RX10 ⟨by decide +kernel, rfl⟩ (cat_all rfl) (Nat.le_of_ble_eq_true rfl) hl hX.cl (fun f hR hC hE => ?_)
  show AW f g 0 [some (.ref (gAd g 0)), some (.int x1), some (.int x2)] [] q 0 0
  unfold w_X10_canEnter at h
  refine a_aload_n (pc := 0) hC dX10_canEnter_0 rfl ?_
  refine a_aload_n (pc := 1) hC dX10_canEnter_1 rfl ?_
  refine a_iload_n (pc := 2) hC dX10_canEnter_2 rfl ?_
  refine a_callV (pc := 3) hC hR vm_X10_isSinger tw_1669 cl_X10 (oM_0 hX) ⟨(Nat.le_of_ble_eq_true rfl), (Nat.le_of_ble_eq_true rfl), (Nat.le_of_ble_eq_true rfl), (Nat.le_of_ble_eq_true rfl)⟩ dX10_canEnter_3 (t_X10_isSinger hX hC.tr _ _ _ h) rfl rfl rfl (Nat.le_of_ble_eq_true rfl) (fun r3 q4 h => ?_)
  have z_r3 := h.1
  replace h := h.2
  refine a_if_eq (pc := 6) (tgt := 21) hC dX10_canEnter_6 (by decide) (fun c => ?_) (fun c => ?_)
  · replace h := h.1 c
    exact (tJX10_canEnter_21 hX P hR hC hE _ _ _ h).forget ⟨rfl, rfl, rfl, trivial⟩
  · replace h := h.2 c
    refine a_aload_n (pc := 9) hC dX10_canEnter_9 rfl ?_
    refine a_iload_n (pc := 10) hC dX10_canEnter_10 rfl ?_
    refine a_callV (pc := 11) hC hR vm_X10_isRoom tw_1643 cl_X10 (oM_0 hX) ⟨(Nat.le_of_ble_eq_true rfl), (Nat.le_of_ble_eq_true rfl), (Nat.le_of_ble_eq_true rfl), (Nat.le_of_ble_eq_true rfl)⟩ dX10_canEnter_11 (t_X10_isRoom hX hC.tr _ _ _ h) rfl rfl rfl (Nat.le_of_ble_eq_true rfl) (fun r10 q11 h => ?_)
    have z_r10 := h.1
    replace h := h.2
    refine a_if_eq (pc := 14) (tgt := 21) hC dX10_canEnter_14 (by decide) (fun c => ?_) (fun c => ?_)
    · replace h := h.1 c
      exact (tJX10_canEnter_21 hX P hR hC hE _ _ _ h).forget ⟨rfl, rfl, rfl, trivial⟩
    · replace h := h.2 c
      refine a_iconst (pc := 17) hC dX10_canEnter_17 (v := 1) rfl ?_
      refine a_goto (pc := 18) (tgt := 22) hC dX10_canEnter_18 (by decide) ?_
      exact (tJX10_canEnter_22 hX P hR hC hE _ _ _ _ h).forget ⟨rfl, rfl, rfl, trivial⟩
set_option maxRecDepth 20000 in
theorem tJX10_canRent_22 {f : aF} {g : aG} (hX : isM g) (P : Int32 → aS → Prop) (hR : f_R f = aR 2 0 0) (hC : aOK f g cX10_canRent 3 RX10) (hE : aEi f g .boolean (fun r u => (r = 0 ∨ r = 1) ∧ P r u) (fun _ _ => False) 0 0) (j1 : Int32) (j2 : Int32) (s0 : Int32) (q : aS) (h : JX10_canRent_22 j1 j2 s0 P q) : AW f g 22 [some (.ref (gAd g 0)), some (.int j1), some (.int j2)] [.int s0, .ref (gAd g 0)] q 0 0 := by
  unfold JX10_canRent_22 at h
  refine a_iconst (pc := 22) hC dX10_canRent_22 (v := 1) rfl ?_
  refine a_callV (pc := 23) hC hR vm_X10_goes tw_1585 cl_X10 (oM_0 hX) ⟨(Nat.le_of_ble_eq_true rfl), (Nat.le_of_ble_eq_true rfl), (Nat.le_of_ble_eq_true rfl), (Nat.le_of_ble_eq_true rfl)⟩ dX10_canRent_23 (t_X10_goes hX hC.tr _ _ _ _ h) rfl rfl rfl (Nat.le_of_ble_eq_true rfl) (fun r5 q6 h => ?_)
  have z_r5 := h.1
  replace h := h.2
  refine a_if_ne (pc := 26) (tgt := 31) hC dX10_canRent_26 (by decide) (fun c => ?_) (fun c => ?_)
  · replace h := h.1 c
    refine a_aload_n (pc := 31) hC dX10_canRent_31 rfl ?_
    refine a_iconst (pc := 32) hC dX10_canRent_32 (v := 0) rfl ?_
    refine a_put (pc := 33) hC cl_X10 (oM_0 hX) 16 (by decide) tw_1520 tyX10 tyX10_ok rfl rfl rfl (Nat.le_of_ble_eq_true rfl) rfl dX10_canRent_33 ?_
    replace h := h _ rfl
    refine a_aload_n (pc := 36) hC dX10_canRent_36 rfl ?_
    refine a_iload_n (pc := 37) hC dX10_canRent_37 rfl ?_
    refine a_iload_n (pc := 38) hC dX10_canRent_38 rfl ?_
    refine a_callVv (pc := 39) hC hR vm_X10_asksEcho tw_1714 cl_X10 (oM_0 hX) ⟨(Nat.le_of_ble_eq_true rfl), (Nat.le_of_ble_eq_true rfl), (Nat.le_of_ble_eq_true rfl), (Nat.le_of_ble_eq_true rfl)⟩ dX10_canRent_39 (t_X10_asksEcho hX hC.tr _ _ _ _ h) rfl rfl rfl (Nat.le_of_ble_eq_true rfl) (fun q9 h => ?_)
    refine a_aload_n (pc := 42) hC dX10_canRent_42 rfl ?_
    refine a_get (pc := 43) hC cl_X10 (oM_0 hX) 16 (by decide) tw_1520 rfl dX10_canRent_43 ?_
    refine a_if_ne (pc := 46) (tgt := 53) hC dX10_canRent_46 (by decide) (fun c => ?_) (fun c => ?_)
    · replace h := h.1 c
      refine a_iconst (pc := 53) hC dX10_canRent_53 (v := 0) rfl ?_
      exact a_bret (pc := 54) hC hE (Or.inl rfl) h (Nat.le_of_ble_eq_true rfl) (Nat.le_of_ble_eq_true rfl) dX10_canRent_54
    · replace h := h.2 c
      refine a_iconst (pc := 49) hC dX10_canRent_49 (v := 1) rfl ?_
      refine a_goto (pc := 50) (tgt := 54) hC dX10_canRent_50 (by decide) ?_
      exact a_bret (pc := 54) hC hE (Or.inr rfl) h (Nat.le_of_ble_eq_true rfl) (Nat.le_of_ble_eq_true rfl) dX10_canRent_54
  · replace h := h.2 c
    refine a_iconst (pc := 29) hC dX10_canRent_29 (v := 0) rfl ?_
    exact a_bret (pc := 30) hC hE (Or.inl rfl) h (Nat.le_of_ble_eq_true rfl) (Nat.le_of_ble_eq_true rfl) dX10_canRent_30
set_option maxRecDepth 20000 in
theorem tJX10_canRent_21 {f : aF} {g : aG} (hX : isM g) (P : Int32 → aS → Prop) (hR : f_R f = aR 2 0 0) (hC : aOK f g cX10_canRent 3 RX10) (hE : aEi f g .boolean (fun r u => (r = 0 ∨ r = 1) ∧ P r u) (fun _ _ => False) 0 0) (j1 : Int32) (j2 : Int32) (q : aS) (h : JX10_canRent_21 j1 j2 P q) : AW f g 21 [some (.ref (gAd g 0)), some (.int j1), some (.int j2)] [.ref (gAd g 0)] q 0 0 := by
  unfold JX10_canRent_21 at h
  refine a_iconst (pc := 21) hC dX10_canRent_21 (v := 0) rfl ?_
  exact (tJX10_canRent_22 hX P hR hC hE _ _ _ _ h).forget ⟨rfl, rfl, rfl, trivial⟩
set_option maxRecDepth 20000 in
theorem t_X10_canRent {l : Launch} {g : aG} (hX : isM g) (hl : l.stackTraces = false) (x1 : Int32) (x2 : Int32) (q : aS) (P : Int32 → aS → Prop) (h : w_X10_canRent x1 x2 q P) : aMi l g yX10_canRent (aWs yX10_canRent cX10_canRent 3 (some .boolean)) 2 0 0 [.ref (gAd g 0), .int x1, .int x2] q (fun r u => (r = 0 ∨ r = 1) ∧ P r u) (fun _ _ => False) := by
  refine aMi_of RX10 ⟨by decide +kernel, rfl⟩ (cat_all rfl) (Nat.le_of_ble_eq_true rfl) hl hX.cl (fun f hR hC hE => ?_)
  show AW f g 0 [some (.ref (gAd g 0)), some (.int x1), some (.int x2)] [] q 0 0
  unfold w_X10_canRent at h
  refine a_aload_n (pc := 0) hC dX10_canRent_0 rfl ?_
  refine a_aload_n (pc := 1) hC dX10_canRent_1 rfl ?_
  refine a_iload_n (pc := 2) hC dX10_canRent_2 rfl ?_
  refine a_callV (pc := 3) hC hR vm_X10_isSinger tw_1669 cl_X10 (oM_0 hX) ⟨(Nat.le_of_ble_eq_true rfl), (Nat.le_of_ble_eq_true rfl), (Nat.le_of_ble_eq_true rfl), (Nat.le_of_ble_eq_true rfl)⟩ dX10_canRent_3 (t_X10_isSinger hX hC.tr _ _ _ h) rfl rfl rfl (Nat.le_of_ble_eq_true rfl) (fun r3 q4 h => ?_)
  have z_r3 := h.1
  replace h := h.2
  refine a_if_eq (pc := 6) (tgt := 21) hC dX10_canRent_6 (by decide) (fun c => ?_) (fun c => ?_)
  · replace h := h.1 c
    exact (tJX10_canRent_21 hX P hR hC hE _ _ _ h).forget ⟨rfl, rfl, rfl, trivial⟩
  · replace h := h.2 c
    refine a_aload_n (pc := 9) hC dX10_canRent_9 rfl ?_
    refine a_iload_n (pc := 10) hC dX10_canRent_10 rfl ?_
    refine a_callV (pc := 11) hC hR vm_X10_isEcho tw_1702 cl_X10 (oM_0 hX) ⟨(Nat.le_of_ble_eq_true rfl), (Nat.le_of_ble_eq_true rfl), (Nat.le_of_ble_eq_true rfl), (Nat.le_of_ble_eq_true rfl)⟩ dX10_canRent_11 (t_X10_isEcho hX hC.tr _ _ _ h) rfl rfl rfl (Nat.le_of_ble_eq_true rfl) (fun r10 q11 h => ?_)
    have z_r10 := h.1
    replace h := h.2
    refine a_if_eq (pc := 14) (tgt := 21) hC dX10_canRent_14 (by decide) (fun c => ?_) (fun c => ?_)
    · replace h := h.1 c
      exact (tJX10_canRent_21 hX P hR hC hE _ _ _ h).forget ⟨rfl, rfl, rfl, trivial⟩
    · replace h := h.2 c
      refine a_iconst (pc := 17) hC dX10_canRent_17 (v := 1) rfl ?_
      refine a_goto (pc := 18) (tgt := 22) hC dX10_canRent_18 (by decide) ?_
      exact (tJX10_canRent_22 hX P hR hC hE _ _ _ _ h).forget ⟨rfl, rfl, rfl, trivial⟩
set_option maxRecDepth 20000 in
theorem tJX10_backFor_37 {f : aF} {g : aG} (hX : isM g) (P : Int32 → aS → Prop) (hR : f_R f = aR 2 0 0) (hC : aOK f g cX10_backFor 3 RX10) (hE : aEi f g .int P (fun _ _ => False) 0 0) (j1 : Int32) (s0 : Int32) (q : aS) (h : JX10_backFor_37 j1 s0 P q) : AW f g 37 [some (.ref (gAd g 0)), some (.int j1), none] [.int s0] q 0 0 := by
  unfold JX10_backFor_37 at h
  refine a_istore_n (pc := 37) hC dX10_backFor_37 (Nat.le_of_ble_eq_true rfl) ?_
  refine a_aload_n (pc := 38) hC dX10_backFor_38 rfl ?_
  refine a_aload_n (pc := 39) hC dX10_backFor_39 rfl ?_
  refine a_iload_n (pc := 40) hC dX10_backFor_40 rfl ?_
  refine a_callV (pc := 41) hC hR vm_X10_isEcho tw_1702 cl_X10 (oM_0 hX) ⟨(Nat.le_of_ble_eq_true rfl), (Nat.le_of_ble_eq_true rfl), (Nat.le_of_ble_eq_true rfl), (Nat.le_of_ble_eq_true rfl)⟩ dX10_backFor_41 (t_X10_isEcho hX hC.tr _ _ _ h) rfl rfl rfl (Nat.le_of_ble_eq_true rfl) (fun r4 q5 h => ?_)
  have z_r4 := h.1
  replace h := h.2
  refine a_iload_n (pc := 44) hC dX10_backFor_44 rfl ?_
  refine a_callV (pc := 45) hC hR vm_X10_goes tw_1585 cl_X10 (oM_0 hX) ⟨(Nat.le_of_ble_eq_true rfl), (Nat.le_of_ble_eq_true rfl), (Nat.le_of_ble_eq_true rfl), (Nat.le_of_ble_eq_true rfl)⟩ dX10_backFor_45 (t_X10_goes hX hC.tr _ _ _ _ h) rfl rfl rfl (Nat.le_of_ble_eq_true rfl) (fun r6 q7 h => ?_)
  have z_r6 := h.1
  replace h := h.2
  refine a_if_eq (pc := 48) (tgt := 59) hC dX10_backFor_48 (by decide) (fun c => ?_) (fun c => ?_)
  · replace h := h.1 c
    refine a_iconst (pc := 59) hC dX10_backFor_59 (v := 0) rfl ?_
    exact a_iret (pc := 60) hC hE h (Nat.le_of_ble_eq_true rfl) (Nat.le_of_ble_eq_true rfl) dX10_backFor_60
  · replace h := h.2 c
    refine a_aload_n (pc := 51) hC dX10_backFor_51 rfl ?_
    refine a_iload_n (pc := 52) hC dX10_backFor_52 rfl ?_
    refine a_callV (pc := 53) hC hR vm_X10_worthOf tw_1732 cl_X10 (oM_0 hX) ⟨(Nat.le_of_ble_eq_true rfl), (Nat.le_of_ble_eq_true rfl), (Nat.le_of_ble_eq_true rfl), (Nat.le_of_ble_eq_true rfl)⟩ dX10_backFor_53 (t_X10_worthOf hX hC.tr _ _ _ h) rfl rfl rfl (Nat.le_of_ble_eq_true rfl) (fun r8 q9 h => ?_)
    refine a_goto (pc := 56) (tgt := 60) hC dX10_backFor_56 (by decide) ?_
    exact a_iret (pc := 60) hC hE h (Nat.le_of_ble_eq_true rfl) (Nat.le_of_ble_eq_true rfl) dX10_backFor_60
set_option maxRecDepth 20000 in
theorem tJX10_backFor_36 {f : aF} {g : aG} (hX : isM g) (P : Int32 → aS → Prop) (hR : f_R f = aR 2 0 0) (hC : aOK f g cX10_backFor 3 RX10) (hE : aEi f g .int P (fun _ _ => False) 0 0) (j1 : Int32) (q : aS) (h : JX10_backFor_36 j1 P q) : AW f g 36 [some (.ref (gAd g 0)), some (.int j1), none] [] q 0 0 := by
  unfold JX10_backFor_36 at h
  refine a_iconst (pc := 36) hC dX10_backFor_36 (v := 0) rfl ?_
  exact (tJX10_backFor_37 hX P hR hC hE _ _ _ h).forget ⟨rfl, rfl, trivial⟩
set_option maxRecDepth 20000 in
theorem t_X10_backFor {l : Launch} {g : aG} (hX : isM g) (hl : l.stackTraces = false) (x1 : Int32) (q : aS) (P : Int32 → aS → Prop) (h : w_X10_backFor x1 q P) : aMi l g yX10_backFor (aWs yX10_backFor cX10_backFor 3 (some .int)) 2 0 0 [.ref (gAd g 0), .int x1] q P (fun _ _ => False) := by
  refine aMi_of RX10 ⟨by decide +kernel, rfl⟩ (cat_all rfl) (Nat.le_of_ble_eq_true rfl) hl hX.cl (fun f hR hC hE => ?_)
  show AW f g 0 [some (.ref (gAd g 0)), some (.int x1), none] [] q 0 0
  unfold w_X10_backFor at h
  refine a_aload_n (pc := 0) hC dX10_backFor_0 rfl ?_
  refine a_iload_n (pc := 1) hC dX10_backFor_1 rfl ?_
  refine a_callV (pc := 2) hC hR vm_X10_isEcho tw_1702 cl_X10 (oM_0 hX) ⟨(Nat.le_of_ble_eq_true rfl), (Nat.le_of_ble_eq_true rfl), (Nat.le_of_ble_eq_true rfl), (Nat.le_of_ble_eq_true rfl)⟩ dX10_backFor_2 (t_X10_isEcho hX hC.tr _ _ _ h) rfl rfl rfl (Nat.le_of_ble_eq_true rfl) (fun r2 q3 h => ?_)
  have z_r2 := h.1
  replace h := h.2
  refine a_if_eq (pc := 5) (tgt := 36) hC dX10_backFor_5 (by decide) (fun c => ?_) (fun c => ?_)
  · replace h := h.1 c
    exact (tJX10_backFor_36 hX P hR hC hE _ _ h).forget ⟨rfl, rfl, trivial⟩
  · replace h := h.2 c
    refine a_aload_n (pc := 8) hC dX10_backFor_8 rfl ?_
    refine a_get (pc := 9) hC cl_X10 (oM_0 hX) 0 (by decide) tw_1504 rfl dX10_backFor_9 ?_
    refine a_iconst (pc := 12) hC dX10_backFor_12 (v := 0) rfl ?_
    refine a_bipush (pc := 13) hC dX10_backFor_13 (v := 7) rfl ?_
    refine a_iload_n (pc := 15) hC dX10_backFor_15 rfl ?_
    refine a_mmin (pc := 16) hC hR ⟨(Nat.le_of_ble_eq_true rfl), (Nat.le_of_ble_eq_true rfl), (Nat.le_of_ble_eq_true rfl)⟩ rfl tw_1726 tw_361 tw_24 tw_362 (Nat.le_of_ble_eq_true rfl) dX10_backFor_16 ?_
    refine a_mmax (pc := 19) hC hR ⟨(Nat.le_of_ble_eq_true rfl), (Nat.le_of_ble_eq_true rfl), (Nat.le_of_ble_eq_true rfl)⟩ rfl tw_1727 tw_368 tw_24 tw_369 (Nat.le_of_ble_eq_true rfl) dX10_backFor_19 ?_
    refine a_callS (pc := 22) hC hR sm_X10_echoAt tw_1647 ⟨(Nat.le_of_ble_eq_true rfl), (Nat.le_of_ble_eq_true rfl), (Nat.le_of_ble_eq_true rfl), (Nat.le_of_ble_eq_true rfl)⟩ dX10_backFor_22 (t_X10_echoAt hX hC.tr _ _ _ h) rfl rfl rfl (Nat.le_of_ble_eq_true rfl) (fun r10 q11 h => ?_)
    refine a_iconst (pc := 25) hC dX10_backFor_25 (v := 2) rfl ?_
    refine a_iadd (pc := 26) hC dX10_backFor_26 ?_
    refine a_iald (pc := 27) hC (oM_1 hX) h.1 dX10_backFor_27 ?_
    replace h := h.2
    refine a_iconst (pc := 28) hC dX10_backFor_28 (v := (-1)) rfl ?_
    refine a_icmp_eq (pc := 29) (tgt := 36) hC dX10_backFor_29 (by decide) (fun c => ?_) (fun c => ?_)
    · replace h := h.1 c
      exact (tJX10_backFor_36 hX P hR hC hE _ _ h).forget ⟨rfl, rfl, trivial⟩
    · replace h := h.2 c
      refine a_iconst (pc := 32) hC dX10_backFor_32 (v := 1) rfl ?_
      refine a_goto (pc := 33) (tgt := 37) hC dX10_backFor_33 (by decide) ?_
      exact (tJX10_backFor_37 hX P hR hC hE _ _ _ h).forget ⟨rfl, rfl, trivial⟩
set_option maxRecDepth 20000 in
theorem t_X10_others {l : Launch} {g : aG} (hX : isM g) (hl : l.stackTraces = false) (x1 : Int32) (q : aS) (P : Int32 → aS → Prop) (h : w_X10_others x1 q P) : aMi l g yX10_others (aWs yX10_others cX10_others 2 (some .int)) 2 0 0 [.ref (gAd g 0), .int x1] q P (fun _ _ => False) := by
  refine aMi_of RX10 ⟨by decide +kernel, rfl⟩ (cat_all rfl) (Nat.le_of_ble_eq_true rfl) hl hX.cl (fun f hR hC hE => ?_)
  show AW f g 0 [some (.ref (gAd g 0)), some (.int x1)] [] q 0 0
  unfold w_X10_others at h
  refine a_aload_n (pc := 0) hC dX10_others_0 rfl ?_
  refine a_aload_n (pc := 1) hC dX10_others_1 rfl ?_
  refine a_iload_n (pc := 2) hC dX10_others_2 rfl ?_
  refine a_callV (pc := 3) hC hR vm_X10_isRoom tw_1643 cl_X10 (oM_0 hX) ⟨(Nat.le_of_ble_eq_true rfl), (Nat.le_of_ble_eq_true rfl), (Nat.le_of_ble_eq_true rfl), (Nat.le_of_ble_eq_true rfl)⟩ dX10_others_3 (t_X10_isRoom hX hC.tr _ _ _ h) rfl rfl rfl (Nat.le_of_ble_eq_true rfl) (fun r2 q3 h => ?_)
  have z_r2 := h.1
  replace h := h.2
  refine a_iconst (pc := 6) hC dX10_others_6 (v := 1) rfl ?_
  refine a_callV (pc := 7) hC hR vm_X10_goes tw_1585 cl_X10 (oM_0 hX) ⟨(Nat.le_of_ble_eq_true rfl), (Nat.le_of_ble_eq_true rfl), (Nat.le_of_ble_eq_true rfl), (Nat.le_of_ble_eq_true rfl)⟩ dX10_others_7 (t_X10_goes hX hC.tr _ _ _ _ h) rfl rfl rfl (Nat.le_of_ble_eq_true rfl) (fun r4 q5 h => ?_)
  have z_r4 := h.1
  replace h := h.2
  refine a_if_eq (pc := 10) (tgt := 21) hC dX10_others_10 (by decide) (fun c => ?_) (fun c => ?_)
  · replace h := h.1 c
    refine a_iconst (pc := 21) hC dX10_others_21 (v := 0) rfl ?_
    exact a_iret (pc := 22) hC hE h (Nat.le_of_ble_eq_true rfl) (Nat.le_of_ble_eq_true rfl) dX10_others_22
  · replace h := h.2 c
    refine a_aload_n (pc := 13) hC dX10_others_13 rfl ?_
    refine a_iload_n (pc := 14) hC dX10_others_14 rfl ?_
    refine a_callV (pc := 15) hC hR vm_X10_singersIn tw_1681 cl_X10 (oM_0 hX) ⟨(Nat.le_of_ble_eq_true rfl), (Nat.le_of_ble_eq_true rfl), (Nat.le_of_ble_eq_true rfl), (Nat.le_of_ble_eq_true rfl)⟩ dX10_others_15 (t_X10_singersIn hX hC.tr _ _ _ h) rfl rfl rfl (Nat.le_of_ble_eq_true rfl) (fun r6 q7 h => ?_)
    refine a_goto (pc := 18) (tgt := 22) hC dX10_others_18 (by decide) ?_
    exact a_iret (pc := 22) hC hE h (Nat.le_of_ble_eq_true rfl) (Nat.le_of_ble_eq_true rfl) dX10_others_22
set_option maxRecDepth 20000 in
theorem t_X10_free {l : Launch} {g : aG} (hX : isM g) (hl : l.stackTraces = false) (x1 : Int32) (q : aS) (P : Int32 → aS → Prop) (h : w_X10_free x1 q P) : aMi l g yX10_free (aWs yX10_free cX10_free 2 (some .int)) 2 0 0 [.ref (gAd g 0), .int x1] q P (fun _ _ => False) := by
  refine aMi_of RX10 ⟨by decide +kernel, rfl⟩ (cat_all rfl) (Nat.le_of_ble_eq_true rfl) hl hX.cl (fun f hR hC hE => ?_)
  show AW f g 0 [some (.ref (gAd g 0)), some (.int x1)] [] q 0 0
  unfold w_X10_free at h
  refine a_aload_n (pc := 0) hC dX10_free_0 rfl ?_
  refine a_aload_n (pc := 1) hC dX10_free_1 rfl ?_
  refine a_iload_n (pc := 2) hC dX10_free_2 rfl ?_
  refine a_callV (pc := 3) hC hR vm_X10_isRoom tw_1643 cl_X10 (oM_0 hX) ⟨(Nat.le_of_ble_eq_true rfl), (Nat.le_of_ble_eq_true rfl), (Nat.le_of_ble_eq_true rfl), (Nat.le_of_ble_eq_true rfl)⟩ dX10_free_3 (t_X10_isRoom hX hC.tr _ _ _ h) rfl rfl rfl (Nat.le_of_ble_eq_true rfl) (fun r2 q3 h => ?_)
  have z_r2 := h.1
  replace h := h.2
  refine a_iconst (pc := 6) hC dX10_free_6 (v := 1) rfl ?_
  refine a_callV (pc := 7) hC hR vm_X10_goes tw_1585 cl_X10 (oM_0 hX) ⟨(Nat.le_of_ble_eq_true rfl), (Nat.le_of_ble_eq_true rfl), (Nat.le_of_ble_eq_true rfl), (Nat.le_of_ble_eq_true rfl)⟩ dX10_free_7 (t_X10_goes hX hC.tr _ _ _ _ h) rfl rfl rfl (Nat.le_of_ble_eq_true rfl) (fun r4 q5 h => ?_)
  have z_r4 := h.1
  replace h := h.2
  refine a_if_eq (pc := 10) (tgt := 22) hC dX10_free_10 (by decide) (fun c => ?_) (fun c => ?_)
  · replace h := h.1 c
    refine a_iconst (pc := 22) hC dX10_free_22 (v := 0) rfl ?_
    exact a_iret (pc := 23) hC hE h (Nat.le_of_ble_eq_true rfl) (Nat.le_of_ble_eq_true rfl) dX10_free_23
  · replace h := h.2 c
    refine a_aload_n (pc := 13) hC dX10_free_13 rfl ?_
    refine a_iload_n (pc := 14) hC dX10_free_14 rfl ?_
    refine a_iconst (pc := 15) hC dX10_free_15 (v := 1) rfl ?_
    refine a_callV (pc := 16) hC hR vm_X10_echoesIn tw_1756 cl_X10 (oM_0 hX) ⟨(Nat.le_of_ble_eq_true rfl), (Nat.le_of_ble_eq_true rfl), (Nat.le_of_ble_eq_true rfl), (Nat.le_of_ble_eq_true rfl)⟩ dX10_free_16 (t_X10_echoesIn hX hC.tr _ _ _ _ h) rfl rfl rfl (Nat.le_of_ble_eq_true rfl) (fun r6 q7 h => ?_)
    refine a_goto (pc := 19) (tgt := 23) hC dX10_free_19 (by decide) ?_
    exact a_iret (pc := 23) hC hE h (Nat.le_of_ble_eq_true rfl) (Nat.le_of_ble_eq_true rfl) dX10_free_23
set_option maxRecDepth 20000 in
theorem t_X10_dryIn {l : Launch} {g : aG} (hX : isM g) (hl : l.stackTraces = false) (x1 : Int32) (q : aS) (P : Int32 → aS → Prop) (h : w_X10_dryIn x1 q P) : aMi l g yX10_dryIn (aWs yX10_dryIn cX10_dryIn 2 (some .int)) 2 0 0 [.ref (gAd g 0), .int x1] q P (fun _ _ => False) := by
  refine aMi_of RX10 ⟨by decide +kernel, rfl⟩ (cat_all rfl) (Nat.le_of_ble_eq_true rfl) hl hX.cl (fun f hR hC hE => ?_)
  show AW f g 0 [some (.ref (gAd g 0)), some (.int x1)] [] q 0 0
  unfold w_X10_dryIn at h
  refine a_aload_n (pc := 0) hC dX10_dryIn_0 rfl ?_
  refine a_aload_n (pc := 1) hC dX10_dryIn_1 rfl ?_
  refine a_iload_n (pc := 2) hC dX10_dryIn_2 rfl ?_
  refine a_callV (pc := 3) hC hR vm_X10_isRoom tw_1643 cl_X10 (oM_0 hX) ⟨(Nat.le_of_ble_eq_true rfl), (Nat.le_of_ble_eq_true rfl), (Nat.le_of_ble_eq_true rfl), (Nat.le_of_ble_eq_true rfl)⟩ dX10_dryIn_3 (t_X10_isRoom hX hC.tr _ _ _ h) rfl rfl rfl (Nat.le_of_ble_eq_true rfl) (fun r2 q3 h => ?_)
  have z_r2 := h.1
  replace h := h.2
  refine a_iconst (pc := 6) hC dX10_dryIn_6 (v := 1) rfl ?_
  refine a_callV (pc := 7) hC hR vm_X10_goes tw_1585 cl_X10 (oM_0 hX) ⟨(Nat.le_of_ble_eq_true rfl), (Nat.le_of_ble_eq_true rfl), (Nat.le_of_ble_eq_true rfl), (Nat.le_of_ble_eq_true rfl)⟩ dX10_dryIn_7 (t_X10_goes hX hC.tr _ _ _ _ h) rfl rfl rfl (Nat.le_of_ble_eq_true rfl) (fun r4 q5 h => ?_)
  have z_r4 := h.1
  replace h := h.2
  refine a_if_eq (pc := 10) (tgt := 31) hC dX10_dryIn_10 (by decide) (fun c => ?_) (fun c => ?_)
  · replace h := h.1 c
    refine a_iconst (pc := 31) hC dX10_dryIn_31 (v := 0) rfl ?_
    exact a_iret (pc := 32) hC hE h (Nat.le_of_ble_eq_true rfl) (Nat.le_of_ble_eq_true rfl) dX10_dryIn_32
  · replace h := h.2 c
    refine a_aload_n (pc := 13) hC dX10_dryIn_13 rfl ?_
    refine a_get (pc := 14) hC cl_X10 (oM_0 hX) 0 (by decide) tw_1504 rfl dX10_dryIn_14 ?_
    refine a_iload_n (pc := 17) hC dX10_dryIn_17 rfl ?_
    refine a_callS (pc := 18) hC hR sm_X10_roomAt tw_1620 ⟨(Nat.le_of_ble_eq_true rfl), (Nat.le_of_ble_eq_true rfl), (Nat.le_of_ble_eq_true rfl), (Nat.le_of_ble_eq_true rfl)⟩ dX10_dryIn_18 (t_X10_roomAt hX hC.tr _ _ _ h) rfl rfl rfl (Nat.le_of_ble_eq_true rfl) (fun r6 q7 h => ?_)
    refine a_iconst (pc := 21) hC dX10_dryIn_21 (v := 1) rfl ?_
    refine a_iadd (pc := 22) hC dX10_dryIn_22 ?_
    refine a_iald (pc := 23) hC (oM_1 hX) h.1 dX10_dryIn_23 ?_
    replace h := h.2
    refine a_iconst (pc := 24) hC dX10_dryIn_24 (v := 1) rfl ?_
    refine a_iadd (pc := 25) hC dX10_dryIn_25 ?_
    refine a_iconst (pc := 26) hC dX10_dryIn_26 (v := 2) rfl ?_
    refine a_idiv (pc := 27) hC dX10_dryIn_27 (by decide) ?_
    refine a_goto (pc := 28) (tgt := 32) hC dX10_dryIn_28 (by decide) ?_
    exact a_iret (pc := 32) hC hE h (Nat.le_of_ble_eq_true rfl) (Nat.le_of_ble_eq_true rfl) dX10_dryIn_32
set_option maxRecDepth 20000 in
theorem tLX10_dampest_20 {f : aF} {g : aG} (hX : isM g) (P : Int32 → aS → Prop) (hR : f_R f = aR 3 0 0) (hC : aOK f g cX10_dampest 8 RX10) (hE : aEi f g .int P (fun _ _ => False) 0 0) (c1 : Int32) (c2 : Int32) (c3 : Int32) {K : Int32 → aS → Prop} (hK : ∀ (w4 : Int32) (q : aS), K w4 q → AW f g 113 [some (.ref (gAd g 0)), some (.int c1), some (.int c2), some (.int c3), some (.int w4), none, none, none] [] q 0 0) : ∀ (N : Nat) (v4 : Int32) (v5 : Int32) (q : aS), LX10_dampest_20 c1 c2 c3 P K N v4 v5 q → AW f g 20 [some (.ref (gAd g 0)), some (.int c1), some (.int c2), some (.int c3), some (.int v4), some (.int v5), none, none] [] q 0 0 := by
  intro N
  induction N with
  | zero =>
    intro v4 v5 q h
    exact h.elim
  | succ N ih =>
    intro v4 v5 q h
    unfold LX10_dampest_20 at h
    refine a_iload (pc := 20) hC dX10_dampest_20 rfl ?_
    refine a_aload_n (pc := 22) hC dX10_dampest_22 rfl ?_
    refine a_get (pc := 23) hC cl_X10 (oM_0 hX) 0 (by decide) tw_1504 rfl dX10_dampest_23 ?_
    refine a_iconst (pc := 26) hC dX10_dampest_26 (v := 0) rfl ?_
    refine a_iald (pc := 27) hC (oM_1 hX) h.1 dX10_dampest_27 ?_
    replace h := h.2
    refine a_icmp_ge (pc := 28) (tgt := 113) hC dX10_dampest_28 (by decide) (fun c => ?_) (fun c => ?_)
    · replace h := h.1 c
      exact (hK _ _ h).forget ⟨rfl, rfl, rfl, rfl, rfl, trivial⟩
    · replace h := h.2 c
      refine a_aload_n (pc := 31) hC dX10_dampest_31 rfl ?_
      refine a_get (pc := 32) hC cl_X10 (oM_0 hX) 0 (by decide) tw_1504 rfl dX10_dampest_32 ?_
      refine a_iload (pc := 35) hC dX10_dampest_35 rfl ?_
      refine a_callS (pc := 37) hC hR sm_X10_roomAt tw_1620 ⟨(Nat.le_of_ble_eq_true rfl), (Nat.le_of_ble_eq_true rfl), (Nat.le_of_ble_eq_true rfl), (Nat.le_of_ble_eq_true rfl)⟩ dX10_dampest_37 (t_X10_roomAt hX hC.tr _ _ _ h) rfl rfl rfl (Nat.le_of_ble_eq_true rfl) (fun r2 q3 h => ?_)
      refine a_iconst (pc := 40) hC dX10_dampest_40 (v := 1) rfl ?_
      refine a_iadd (pc := 41) hC dX10_dampest_41 ?_
      refine a_iald (pc := 42) hC (oM_1 hX) h.1 dX10_dampest_42 ?_
      replace h := h.2
      refine a_aload_n (pc := 43) hC dX10_dampest_43 rfl ?_
      refine a_get (pc := 44) hC cl_X10 (oM_0 hX) 0 (by decide) tw_1504 rfl dX10_dampest_44 ?_
      refine a_iload_n (pc := 47) hC dX10_dampest_47 rfl ?_
      refine a_callS (pc := 48) hC hR sm_X10_roomAt tw_1620 ⟨(Nat.le_of_ble_eq_true rfl), (Nat.le_of_ble_eq_true rfl), (Nat.le_of_ble_eq_true rfl), (Nat.le_of_ble_eq_true rfl)⟩ dX10_dampest_48 (t_X10_roomAt hX hC.tr _ _ _ h) rfl rfl rfl (Nat.le_of_ble_eq_true rfl) (fun r4 q5 h => ?_)
      refine a_iconst (pc := 51) hC dX10_dampest_51 (v := 1) rfl ?_
      refine a_iadd (pc := 52) hC dX10_dampest_52 ?_
      refine a_iald (pc := 53) hC (oM_1 hX) h.1 dX10_dampest_53 ?_
      replace h := h.2
      refine a_isub (pc := 54) hC dX10_dampest_54 ?_
      refine a_istore (pc := 55) hC dX10_dampest_55 (Nat.le_of_ble_eq_true rfl) ?_
      replace h := h _ rfl
      refine a_aload_n (pc := 57) hC dX10_dampest_57 rfl ?_
      refine a_iload (pc := 58) hC dX10_dampest_58 rfl ?_
      refine a_callV (pc := 60) hC hR vm_X10_othersIn tw_1677 cl_X10 (oM_0 hX) ⟨(Nat.le_of_ble_eq_true rfl), (Nat.le_of_ble_eq_true rfl), (Nat.le_of_ble_eq_true rfl), (Nat.le_of_ble_eq_true rfl)⟩ dX10_dampest_60 (t_X10_othersIn hX hC.tr _ _ _ h) rfl rfl rfl (Nat.le_of_ble_eq_true rfl) (fun r7 q8 h => ?_)
      refine a_aload_n (pc := 63) hC dX10_dampest_63 rfl ?_
      refine a_iload_n (pc := 64) hC dX10_dampest_64 rfl ?_
      refine a_callV (pc := 65) hC hR vm_X10_othersIn tw_1677 cl_X10 (oM_0 hX) ⟨(Nat.le_of_ble_eq_true rfl), (Nat.le_of_ble_eq_true rfl), (Nat.le_of_ble_eq_true rfl), (Nat.le_of_ble_eq_true rfl)⟩ dX10_dampest_65 (t_X10_othersIn hX hC.tr _ _ _ h) rfl rfl rfl (Nat.le_of_ble_eq_true rfl) (fun r9 q10 h => ?_)
      refine a_isub (pc := 68) hC dX10_dampest_68 ?_
      refine a_istore (pc := 69) hC dX10_dampest_69 (Nat.le_of_ble_eq_true rfl) ?_
      replace h := h _ rfl
      refine a_iload (pc := 71) hC dX10_dampest_71 rfl ?_
      refine a_iload (pc := 73) hC dX10_dampest_73 rfl ?_
      refine a_if_gt (pc := 75) (tgt := 99) hC dX10_dampest_75 (by decide) (fun c => ?_) (fun c => ?_)
      · replace h := h.1 c
        refine a_iconst (pc := 99) hC dX10_dampest_99 (v := 1) rfl ?_
        refine a_goto (pc := 100) (tgt := 104) hC dX10_dampest_100 (by decide) ?_
        refine a_iadd (pc := 104) hC dX10_dampest_104 ?_
        refine a_istore (pc := 105) hC dX10_dampest_105 (Nat.le_of_ble_eq_true rfl) ?_
        replace h := h _ rfl
        refine a_iinc (pc := 107) hC dX10_dampest_107 rfl (c := 1) rfl ?_
        replace h := h _ rfl
        refine a_goto (pc := 110) (tgt := 20) hC dX10_dampest_110 (by decide) ?_
        exact (ih _ _ _ h).forget ⟨rfl, rfl, rfl, rfl, rfl, rfl, trivial⟩
      · replace h := h.2 c
        refine a_iload (pc := 78) hC dX10_dampest_78 rfl ?_
        refine a_if_ne (pc := 80) (tgt := 103) hC dX10_dampest_80 (by decide) (fun c => ?_) (fun c => ?_)
        · replace h := h.1 c
          refine a_iconst (pc := 103) hC dX10_dampest_103 (v := 0) rfl ?_
          refine a_iadd (pc := 104) hC dX10_dampest_104 ?_
          refine a_istore (pc := 105) hC dX10_dampest_105 (Nat.le_of_ble_eq_true rfl) ?_
          replace h := h _ rfl
          refine a_iinc (pc := 107) hC dX10_dampest_107 rfl (c := 1) rfl ?_
          replace h := h _ rfl
          refine a_goto (pc := 110) (tgt := 20) hC dX10_dampest_110 (by decide) ?_
          exact (ih _ _ _ h).forget ⟨rfl, rfl, rfl, rfl, rfl, rfl, trivial⟩
        · replace h := h.2 c
          refine a_iload (pc := 83) hC dX10_dampest_83 rfl ?_
          refine a_if_gt (pc := 85) (tgt := 99) hC dX10_dampest_85 (by decide) (fun c => ?_) (fun c => ?_)
          · replace h := h.1 c
            refine a_iconst (pc := 99) hC dX10_dampest_99 (v := 1) rfl ?_
            refine a_goto (pc := 100) (tgt := 104) hC dX10_dampest_100 (by decide) ?_
            refine a_iadd (pc := 104) hC dX10_dampest_104 ?_
            refine a_istore (pc := 105) hC dX10_dampest_105 (Nat.le_of_ble_eq_true rfl) ?_
            replace h := h _ rfl
            refine a_iinc (pc := 107) hC dX10_dampest_107 rfl (c := 1) rfl ?_
            replace h := h _ rfl
            refine a_goto (pc := 110) (tgt := 20) hC dX10_dampest_110 (by decide) ?_
            exact (ih _ _ _ h).forget ⟨rfl, rfl, rfl, rfl, rfl, rfl, trivial⟩
          · replace h := h.2 c
            refine a_iload (pc := 88) hC dX10_dampest_88 rfl ?_
            refine a_if_ne (pc := 90) (tgt := 103) hC dX10_dampest_90 (by decide) (fun c => ?_) (fun c => ?_)
            · replace h := h.1 c
              refine a_iconst (pc := 103) hC dX10_dampest_103 (v := 0) rfl ?_
              refine a_iadd (pc := 104) hC dX10_dampest_104 ?_
              refine a_istore (pc := 105) hC dX10_dampest_105 (Nat.le_of_ble_eq_true rfl) ?_
              replace h := h _ rfl
              refine a_iinc (pc := 107) hC dX10_dampest_107 rfl (c := 1) rfl ?_
              replace h := h _ rfl
              refine a_goto (pc := 110) (tgt := 20) hC dX10_dampest_110 (by decide) ?_
              exact (ih _ _ _ h).forget ⟨rfl, rfl, rfl, rfl, rfl, rfl, trivial⟩
            · replace h := h.2 c
              refine a_iload (pc := 93) hC dX10_dampest_93 rfl ?_
              refine a_iload_n (pc := 95) hC dX10_dampest_95 rfl ?_
              refine a_icmp_ge (pc := 96) (tgt := 103) hC dX10_dampest_96 (by decide) (fun c => ?_) (fun c => ?_)
              · replace h := h.1 c
                refine a_iconst (pc := 103) hC dX10_dampest_103 (v := 0) rfl ?_
                refine a_iadd (pc := 104) hC dX10_dampest_104 ?_
                refine a_istore (pc := 105) hC dX10_dampest_105 (Nat.le_of_ble_eq_true rfl) ?_
                replace h := h _ rfl
                refine a_iinc (pc := 107) hC dX10_dampest_107 rfl (c := 1) rfl ?_
                replace h := h _ rfl
                refine a_goto (pc := 110) (tgt := 20) hC dX10_dampest_110 (by decide) ?_
                exact (ih _ _ _ h).forget ⟨rfl, rfl, rfl, rfl, rfl, rfl, trivial⟩
              · replace h := h.2 c
                refine a_iconst (pc := 99) hC dX10_dampest_99 (v := 1) rfl ?_
                refine a_goto (pc := 100) (tgt := 104) hC dX10_dampest_100 (by decide) ?_
                refine a_iadd (pc := 104) hC dX10_dampest_104 ?_
                refine a_istore (pc := 105) hC dX10_dampest_105 (Nat.le_of_ble_eq_true rfl) ?_
                replace h := h _ rfl
                refine a_iinc (pc := 107) hC dX10_dampest_107 rfl (c := 1) rfl ?_
                replace h := h _ rfl
                refine a_goto (pc := 110) (tgt := 20) hC dX10_dampest_110 (by decide) ?_
                exact (ih _ _ _ h).forget ⟨rfl, rfl, rfl, rfl, rfl, rfl, trivial⟩
set_option maxRecDepth 20000 in
theorem tLX10_dampest_4 {f : aF} {g : aG} (hX : isM g) (P : Int32 → aS → Prop) (hR : f_R f = aR 3 0 0) (hC : aOK f g cX10_dampest 8 RX10) (hE : aEi f g .int P (fun _ _ => False) 0 0) (c1 : Int32) {K : Int32 → aS → Prop} (hK : ∀ (w2 : Int32) (q : aS), K w2 q → AW f g 131 [some (.ref (gAd g 0)), none, some (.int w2), none, none, none, none, none] [] q 0 0) : ∀ (N : Nat) (v2 : Int32) (v3 : Int32) (q : aS), LX10_dampest_4 c1 P K N v2 v3 q → AW f g 4 [some (.ref (gAd g 0)), some (.int c1), some (.int v2), some (.int v3), none, none, none, none] [] q 0 0 := by
  intro N
  induction N with
  | zero =>
    intro v2 v3 q h
    exact h.elim
  | succ N ih =>
    intro v2 v3 q h
    unfold LX10_dampest_4 at h
    refine a_iload_n (pc := 4) hC dX10_dampest_4 rfl ?_
    refine a_aload_n (pc := 5) hC dX10_dampest_5 rfl ?_
    refine a_get (pc := 6) hC cl_X10 (oM_0 hX) 0 (by decide) tw_1504 rfl dX10_dampest_6 ?_
    refine a_iconst (pc := 9) hC dX10_dampest_9 (v := 0) rfl ?_
    refine a_iald (pc := 10) hC (oM_1 hX) h.1 dX10_dampest_10 ?_
    replace h := h.2
    refine a_icmp_ge (pc := 11) (tgt := 131) hC dX10_dampest_11 (by decide) (fun c => ?_) (fun c => ?_)
    · replace h := h.1 c
      exact (hK _ _ h).forget ⟨rfl, rfl, trivial⟩
    · replace h := h.2 c
      refine a_iconst (pc := 14) hC dX10_dampest_14 (v := 0) rfl ?_
      refine a_istore (pc := 15) hC dX10_dampest_15 (Nat.le_of_ble_eq_true rfl) ?_
      refine a_iconst (pc := 17) hC dX10_dampest_17 (v := 0) rfl ?_
      refine a_istore (pc := 18) hC dX10_dampest_18 (Nat.le_of_ble_eq_true rfl) ?_
      obtain ⟨N, h⟩ := h
      refine (tLX10_dampest_20 hX P hR hC hE _ _ _ (fun y24 q25 h => ?_) N _ _ _ h).forget ⟨rfl, rfl, rfl, rfl, rfl, rfl, trivial⟩
      refine a_iload (pc := 113) hC dX10_dampest_113 rfl ?_
      refine a_iload_n (pc := 115) hC dX10_dampest_115 rfl ?_
      refine a_icmp_ne (pc := 116) (tgt := 123) hC dX10_dampest_116 (by decide) (fun c => ?_) (fun c => ?_)
      · replace h := h.1 c
        refine a_iload_n (pc := 123) hC dX10_dampest_123 rfl ?_
        refine a_istore_n (pc := 124) hC dX10_dampest_124 (Nat.le_of_ble_eq_true rfl) ?_
        refine a_iinc (pc := 125) hC dX10_dampest_125 rfl (c := 1) rfl ?_
        replace h := h _ rfl
        refine a_goto (pc := 128) (tgt := 4) hC dX10_dampest_128 (by decide) ?_
        exact (ih _ _ _ h).forget ⟨rfl, rfl, rfl, rfl, trivial⟩
      · replace h := h.2 c
        refine a_iload_n (pc := 119) hC dX10_dampest_119 rfl ?_
        refine a_goto (pc := 120) (tgt := 124) hC dX10_dampest_120 (by decide) ?_
        refine a_istore_n (pc := 124) hC dX10_dampest_124 (Nat.le_of_ble_eq_true rfl) ?_
        refine a_iinc (pc := 125) hC dX10_dampest_125 rfl (c := 1) rfl ?_
        replace h := h _ rfl
        refine a_goto (pc := 128) (tgt := 4) hC dX10_dampest_128 (by decide) ?_
        exact (ih _ _ _ h).forget ⟨rfl, rfl, rfl, rfl, trivial⟩
set_option maxRecDepth 20000 in
theorem tJX10_dampest_142 {f : aF} {g : aG} (hX : isM g) (P : Int32 → aS → Prop) (hR : f_R f = aR 3 0 0) (hC : aOK f g cX10_dampest 8 RX10) (hE : aEi f g .int P (fun _ _ => False) 0 0) (j2 : Int32) (s0 : Int32) (q : aS) (h : JX10_dampest_142 j2 s0 P q) : AW f g 142 [none, none, some (.int j2), none, none, none, none, none] [.int s0, .ref (gAd g 0)] q 0 0 := by
  unfold JX10_dampest_142 at h
  refine a_iconst (pc := 142) hC dX10_dampest_142 (v := 1) rfl ?_
  refine a_callV (pc := 143) hC hR vm_X10_goes tw_1585 cl_X10 (oM_0 hX) ⟨(Nat.le_of_ble_eq_true rfl), (Nat.le_of_ble_eq_true rfl), (Nat.le_of_ble_eq_true rfl), (Nat.le_of_ble_eq_true rfl)⟩ dX10_dampest_143 (t_X10_goes hX hC.tr _ _ _ _ h) rfl rfl rfl (Nat.le_of_ble_eq_true rfl) (fun r31 q32 h => ?_)
  have z_r31 := h.1
  replace h := h.2
  refine a_if_eq (pc := 146) (tgt := 153) hC dX10_dampest_146 (by decide) (fun c => ?_) (fun c => ?_)
  · replace h := h.1 c
    refine a_iconst (pc := 153) hC dX10_dampest_153 (v := 0) rfl ?_
    exact a_iret (pc := 154) hC hE h (Nat.le_of_ble_eq_true rfl) (Nat.le_of_ble_eq_true rfl) dX10_dampest_154
  · replace h := h.2 c
    refine a_iload_n (pc := 149) hC dX10_dampest_149 rfl ?_
    refine a_goto (pc := 150) (tgt := 154) hC dX10_dampest_150 (by decide) ?_
    exact a_iret (pc := 154) hC hE h (Nat.le_of_ble_eq_true rfl) (Nat.le_of_ble_eq_true rfl) dX10_dampest_154
set_option maxRecDepth 20000 in
theorem t_X10_dampest {l : Launch} {g : aG} (hX : isM g) (hl : l.stackTraces = false) (x1 : Int32) (q : aS) (P : Int32 → aS → Prop) (h : w_X10_dampest x1 q P) : aMi l g yX10_dampest (aWs yX10_dampest cX10_dampest 8 (some .int)) 3 0 0 [.ref (gAd g 0), .int x1] q P (fun _ _ => False) := by
  refine aMi_of RX10 ⟨by decide +kernel, rfl⟩ (cat_all rfl) (Nat.le_of_ble_eq_true rfl) hl hX.cl (fun f hR hC hE => ?_)
  show AW f g 0 [some (.ref (gAd g 0)), some (.int x1), none, none, none, none, none, none] [] q 0 0
  unfold w_X10_dampest at h
  refine a_iconst (pc := 0) hC dX10_dampest_0 (v := (-1)) rfl ?_
  refine a_istore_n (pc := 1) hC dX10_dampest_1 (Nat.le_of_ble_eq_true rfl) ?_
  refine a_iconst (pc := 2) hC dX10_dampest_2 (v := 0) rfl ?_
  refine a_istore_n (pc := 3) hC dX10_dampest_3 (Nat.le_of_ble_eq_true rfl) ?_
  obtain ⟨N, h⟩ := h
  refine (tLX10_dampest_4 hX P hR hC hE _ (fun y29 q30 h => ?_) N _ _ _ h).forget ⟨rfl, rfl, rfl, rfl, trivial⟩
  refine a_aload_n (pc := 131) hC dX10_dampest_131 rfl ?_
  refine a_iload_n (pc := 132) hC dX10_dampest_132 rfl ?_
  refine a_iconst (pc := 133) hC dX10_dampest_133 (v := (-1)) rfl ?_
  refine a_icmp_eq (pc := 134) (tgt := 141) hC dX10_dampest_134 (by decide) (fun c => ?_) (fun c => ?_)
  · replace h := h.1 c
    refine a_iconst (pc := 141) hC dX10_dampest_141 (v := 0) rfl ?_
    exact (tJX10_dampest_142 hX P hR hC hE _ _ _ h).forget ⟨rfl, trivial⟩
  · replace h := h.2 c
    refine a_iconst (pc := 137) hC dX10_dampest_137 (v := 1) rfl ?_
    refine a_goto (pc := 138) (tgt := 142) hC dX10_dampest_138 (by decide) ?_
    exact (tJX10_dampest_142 hX P hR hC hE _ _ _ h).forget ⟨rfl, trivial⟩
set_option maxRecDepth 20000 in
theorem t_X10_rankOf {l : Launch} {g : aG} (hX : isM g) (hl : l.stackTraces = false) (x1 : Int32) (x2 : Int32) (q : aS) (P : Int32 → aS → Prop) (h : w_X10_rankOf x1 x2 q P) : aMi l g yX10_rankOf (aWs yX10_rankOf cX10_rankOf 4 (some .int)) 1 0 0 [.ref (gAd g 0), .int x1, .int x2] q P (fun _ _ => False) := by
  refine aMi_of RX10 ⟨by decide +kernel, rfl⟩ (cat_all rfl) (Nat.le_of_ble_eq_true rfl) hl hX.cl (fun f hR hC hE => ?_)
  show AW f g 0 [some (.ref (gAd g 0)), some (.int x1), some (.int x2), none] [] q 0 0
  unfold w_X10_rankOf at h
  refine a_iload_n (pc := 0) hC dX10_rankOf_0 rfl ?_
  refine a_callS (pc := 1) hC hR sm_X10_singerAt tw_1658 ⟨(Nat.le_of_ble_eq_true rfl), (Nat.le_of_ble_eq_true rfl), (Nat.le_of_ble_eq_true rfl), (Nat.le_of_ble_eq_true rfl)⟩ dX10_rankOf_1 (t_X10_singerAt hX hC.tr _ _ _ h) rfl rfl rfl (Nat.le_of_ble_eq_true rfl) (fun r3 q4 h => ?_)
  refine a_istore_n (pc := 4) hC dX10_rankOf_4 (Nat.le_of_ble_eq_true rfl) ?_
  refine a_aload_n (pc := 5) hC dX10_rankOf_5 rfl ?_
  refine a_get (pc := 6) hC cl_X10 (oM_0 hX) 0 (by decide) tw_1504 rfl dX10_rankOf_6 ?_
  refine a_iload_n (pc := 9) hC dX10_rankOf_9 rfl ?_
  refine a_iload_n (pc := 10) hC dX10_rankOf_10 rfl ?_
  refine a_if_ne (pc := 11) (tgt := 18) hC dX10_rankOf_11 (by decide) (fun c => ?_) (fun c => ?_)
  · replace h := h.1 c
    refine a_iload_n (pc := 18) hC dX10_rankOf_18 rfl ?_
    refine a_iconst (pc := 19) hC dX10_rankOf_19 (v := 1) rfl ?_
    refine a_icmp_ne (pc := 20) (tgt := 27) hC dX10_rankOf_20 (by decide) (fun c => ?_) (fun c => ?_)
    · replace h := h.1 c
      refine a_iload_n (pc := 27) hC dX10_rankOf_27 rfl ?_
      refine a_iconst (pc := 28) hC dX10_rankOf_28 (v := 2) rfl ?_
      refine a_icmp_ne (pc := 29) (tgt := 36) hC dX10_rankOf_29 (by decide) (fun c => ?_) (fun c => ?_)
      · replace h := h.1 c
        refine a_iconst (pc := 36) hC dX10_rankOf_36 (v := 0) rfl ?_
        refine a_iadd (pc := 37) hC dX10_rankOf_37 ?_
        refine a_iald (pc := 38) hC (oM_1 hX) h.1 dX10_rankOf_38 ?_
        replace h := h.2
        exact a_iret (pc := 39) hC hE h (Nat.le_of_ble_eq_true rfl) (Nat.le_of_ble_eq_true rfl) dX10_rankOf_39
      · replace h := h.2 c
        refine a_iconst (pc := 32) hC dX10_rankOf_32 (v := 3) rfl ?_
        refine a_goto (pc := 33) (tgt := 37) hC dX10_rankOf_33 (by decide) ?_
        refine a_iadd (pc := 37) hC dX10_rankOf_37 ?_
        refine a_iald (pc := 38) hC (oM_1 hX) h.1 dX10_rankOf_38 ?_
        replace h := h.2
        exact a_iret (pc := 39) hC hE h (Nat.le_of_ble_eq_true rfl) (Nat.le_of_ble_eq_true rfl) dX10_rankOf_39
    · replace h := h.2 c
      refine a_iconst (pc := 23) hC dX10_rankOf_23 (v := 4) rfl ?_
      refine a_goto (pc := 24) (tgt := 37) hC dX10_rankOf_24 (by decide) ?_
      refine a_iadd (pc := 37) hC dX10_rankOf_37 ?_
      refine a_iald (pc := 38) hC (oM_1 hX) h.1 dX10_rankOf_38 ?_
      replace h := h.2
      exact a_iret (pc := 39) hC hE h (Nat.le_of_ble_eq_true rfl) (Nat.le_of_ble_eq_true rfl) dX10_rankOf_39
  · replace h := h.2 c
    refine a_iconst (pc := 14) hC dX10_rankOf_14 (v := 1) rfl ?_
    refine a_goto (pc := 15) (tgt := 37) hC dX10_rankOf_15 (by decide) ?_
    refine a_iadd (pc := 37) hC dX10_rankOf_37 ?_
    refine a_iald (pc := 38) hC (oM_1 hX) h.1 dX10_rankOf_38 ?_
    replace h := h.2
    exact a_iret (pc := 39) hC hE h (Nat.le_of_ble_eq_true rfl) (Nat.le_of_ble_eq_true rfl) dX10_rankOf_39
set_option maxRecDepth 20000 in
theorem tLX10_ranked_22 {f : aF} {g : aG} (hX : isM g) (P : Int32 → aS → Prop) (hR : f_R f = aR 2 0 0) (hC : aOK f g cX10_ranked 8 RX10) (hE : aEi f g .int P (fun _ _ => False) 0 0) (c1 : Int32) (c2 : Int32) (c3 : Int32) (c4 : Int32) {K : Int32 → aS → Prop} (hK : ∀ (w5 : Int32) (q : aS), K w5 q → AW f g 83 [some (.ref (gAd g 0)), some (.int c1), some (.int c2), some (.int c3), some (.int c4), some (.int w5), none, none] [] q 0 0) : ∀ (N : Nat) (v5 : Int32) (v6 : Int32) (q : aS), LX10_ranked_22 c1 c2 c3 c4 P K N v5 v6 q → AW f g 22 [some (.ref (gAd g 0)), some (.int c1), some (.int c2), some (.int c3), some (.int c4), some (.int v5), some (.int v6), none] [] q 0 0 := by
  intro N
  induction N with
  | zero =>
    intro v5 v6 q h
    exact h.elim
  | succ N ih =>
    intro v5 v6 q h
    unfold LX10_ranked_22 at h
    refine a_iload (pc := 22) hC dX10_ranked_22 rfl ?_
    refine a_aload_n (pc := 24) hC dX10_ranked_24 rfl ?_
    refine a_get (pc := 25) hC cl_X10 (oM_0 hX) 0 (by decide) tw_1504 rfl dX10_ranked_25 ?_
    refine a_iconst (pc := 28) hC dX10_ranked_28 (v := 2) rfl ?_
    refine a_iald (pc := 29) hC (oM_1 hX) h.1 dX10_ranked_29 ?_
    replace h := h.2
    refine a_icmp_ge (pc := 30) (tgt := 83) hC dX10_ranked_30 (by decide) (fun c => ?_) (fun c => ?_)
    · replace h := h.1 c
      exact (hK _ _ h).forget ⟨rfl, rfl, rfl, rfl, rfl, rfl, trivial⟩
    · replace h := h.2 c
      refine a_aload_n (pc := 33) hC dX10_ranked_33 rfl ?_
      refine a_iload (pc := 34) hC dX10_ranked_34 rfl ?_
      refine a_iload_n (pc := 36) hC dX10_ranked_36 rfl ?_
      refine a_callV (pc := 37) hC hR vm_X10_rankOf tw_1844 cl_X10 (oM_0 hX) ⟨(Nat.le_of_ble_eq_true rfl), (Nat.le_of_ble_eq_true rfl), (Nat.le_of_ble_eq_true rfl), (Nat.le_of_ble_eq_true rfl)⟩ dX10_ranked_37 (t_X10_rankOf hX hC.tr _ _ _ _ h) rfl rfl rfl (Nat.le_of_ble_eq_true rfl) (fun r3 q4 h => ?_)
      refine a_aload_n (pc := 40) hC dX10_ranked_40 rfl ?_
      refine a_iload (pc := 41) hC dX10_ranked_41 rfl ?_
      refine a_iload_n (pc := 43) hC dX10_ranked_43 rfl ?_
      refine a_callV (pc := 44) hC hR vm_X10_rankOf tw_1844 cl_X10 (oM_0 hX) ⟨(Nat.le_of_ble_eq_true rfl), (Nat.le_of_ble_eq_true rfl), (Nat.le_of_ble_eq_true rfl), (Nat.le_of_ble_eq_true rfl)⟩ dX10_ranked_44 (t_X10_rankOf hX hC.tr _ _ _ _ h) rfl rfl rfl (Nat.le_of_ble_eq_true rfl) (fun r5 q6 h => ?_)
      refine a_isub (pc := 47) hC dX10_ranked_47 ?_
      refine a_istore (pc := 48) hC dX10_ranked_48 (Nat.le_of_ble_eq_true rfl) ?_
      replace h := h _ rfl
      refine a_iload (pc := 50) hC dX10_ranked_50 rfl ?_
      refine a_iload (pc := 52) hC dX10_ranked_52 rfl ?_
      refine a_if_gt (pc := 54) (tgt := 69) hC dX10_ranked_54 (by decide) (fun c => ?_) (fun c => ?_)
      · replace h := h.1 c
        refine a_iconst (pc := 69) hC dX10_ranked_69 (v := 1) rfl ?_
        refine a_goto (pc := 70) (tgt := 74) hC dX10_ranked_70 (by decide) ?_
        refine a_iadd (pc := 74) hC dX10_ranked_74 ?_
        refine a_istore (pc := 75) hC dX10_ranked_75 (Nat.le_of_ble_eq_true rfl) ?_
        replace h := h _ rfl
        refine a_iinc (pc := 77) hC dX10_ranked_77 rfl (c := 1) rfl ?_
        replace h := h _ rfl
        refine a_goto (pc := 80) (tgt := 22) hC dX10_ranked_80 (by decide) ?_
        exact (ih _ _ _ h).forget ⟨rfl, rfl, rfl, rfl, rfl, rfl, rfl, trivial⟩
      · replace h := h.2 c
        refine a_iload (pc := 57) hC dX10_ranked_57 rfl ?_
        refine a_if_ne (pc := 59) (tgt := 73) hC dX10_ranked_59 (by decide) (fun c => ?_) (fun c => ?_)
        · replace h := h.1 c
          refine a_iconst (pc := 73) hC dX10_ranked_73 (v := 0) rfl ?_
          refine a_iadd (pc := 74) hC dX10_ranked_74 ?_
          refine a_istore (pc := 75) hC dX10_ranked_75 (Nat.le_of_ble_eq_true rfl) ?_
          replace h := h _ rfl
          refine a_iinc (pc := 77) hC dX10_ranked_77 rfl (c := 1) rfl ?_
          replace h := h _ rfl
          refine a_goto (pc := 80) (tgt := 22) hC dX10_ranked_80 (by decide) ?_
          exact (ih _ _ _ h).forget ⟨rfl, rfl, rfl, rfl, rfl, rfl, rfl, trivial⟩
        · replace h := h.2 c
          refine a_iload (pc := 62) hC dX10_ranked_62 rfl ?_
          refine a_iload (pc := 64) hC dX10_ranked_64 rfl ?_
          refine a_icmp_ge (pc := 66) (tgt := 73) hC dX10_ranked_66 (by decide) (fun c => ?_) (fun c => ?_)
          · replace h := h.1 c
            refine a_iconst (pc := 73) hC dX10_ranked_73 (v := 0) rfl ?_
            refine a_iadd (pc := 74) hC dX10_ranked_74 ?_
            refine a_istore (pc := 75) hC dX10_ranked_75 (Nat.le_of_ble_eq_true rfl) ?_
            replace h := h _ rfl
            refine a_iinc (pc := 77) hC dX10_ranked_77 rfl (c := 1) rfl ?_
            replace h := h _ rfl
            refine a_goto (pc := 80) (tgt := 22) hC dX10_ranked_80 (by decide) ?_
            exact (ih _ _ _ h).forget ⟨rfl, rfl, rfl, rfl, rfl, rfl, rfl, trivial⟩
          · replace h := h.2 c
            refine a_iconst (pc := 69) hC dX10_ranked_69 (v := 1) rfl ?_
            refine a_goto (pc := 70) (tgt := 74) hC dX10_ranked_70 (by decide) ?_
            refine a_iadd (pc := 74) hC dX10_ranked_74 ?_
            refine a_istore (pc := 75) hC dX10_ranked_75 (Nat.le_of_ble_eq_true rfl) ?_
            replace h := h _ rfl
            refine a_iinc (pc := 77) hC dX10_ranked_77 rfl (c := 1) rfl ?_
            replace h := h _ rfl
            refine a_goto (pc := 80) (tgt := 22) hC dX10_ranked_80 (by decide) ?_
            exact (ih _ _ _ h).forget ⟨rfl, rfl, rfl, rfl, rfl, rfl, rfl, trivial⟩
set_option maxRecDepth 20000 in
theorem tLX10_ranked_5 {f : aF} {g : aG} (hX : isM g) (P : Int32 → aS → Prop) (hR : f_R f = aR 2 0 0) (hC : aOK f g cX10_ranked 8 RX10) (hE : aEi f g .int P (fun _ _ => False) 0 0) (c1 : Int32) (c2 : Int32) {K : Int32 → aS → Prop} (hK : ∀ (w3 : Int32) (q : aS), K w3 q → AW f g 102 [some (.ref (gAd g 0)), some (.int c1), none, some (.int w3), none, none, none, none] [] q 0 0) : ∀ (N : Nat) (v3 : Int32) (v4 : Int32) (q : aS), LX10_ranked_5 c1 c2 P K N v3 v4 q → AW f g 5 [some (.ref (gAd g 0)), some (.int c1), some (.int c2), some (.int v3), some (.int v4), none, none, none] [] q 0 0 := by
  intro N
  induction N with
  | zero =>
    intro v3 v4 q h
    exact h.elim
  | succ N ih =>
    intro v3 v4 q h
    unfold LX10_ranked_5 at h
    refine a_iload (pc := 5) hC dX10_ranked_5 rfl ?_
    refine a_aload_n (pc := 7) hC dX10_ranked_7 rfl ?_
    refine a_get (pc := 8) hC cl_X10 (oM_0 hX) 0 (by decide) tw_1504 rfl dX10_ranked_8 ?_
    refine a_iconst (pc := 11) hC dX10_ranked_11 (v := 2) rfl ?_
    refine a_iald (pc := 12) hC (oM_1 hX) h.1 dX10_ranked_12 ?_
    replace h := h.2
    refine a_icmp_ge (pc := 13) (tgt := 102) hC dX10_ranked_13 (by decide) (fun c => ?_) (fun c => ?_)
    · replace h := h.1 c
      exact (hK _ _ h).forget ⟨rfl, rfl, rfl, trivial⟩
    · replace h := h.2 c
      refine a_iconst (pc := 16) hC dX10_ranked_16 (v := 0) rfl ?_
      refine a_istore (pc := 17) hC dX10_ranked_17 (Nat.le_of_ble_eq_true rfl) ?_
      refine a_iconst (pc := 19) hC dX10_ranked_19 (v := 0) rfl ?_
      refine a_istore (pc := 20) hC dX10_ranked_20 (Nat.le_of_ble_eq_true rfl) ?_
      obtain ⟨N, h⟩ := h
      refine (tLX10_ranked_22 hX P hR hC hE _ _ _ _ (fun y16 q17 h => ?_) N _ _ _ h).forget ⟨rfl, rfl, rfl, rfl, rfl, rfl, rfl, trivial⟩
      refine a_iload (pc := 83) hC dX10_ranked_83 rfl ?_
      refine a_iload_n (pc := 85) hC dX10_ranked_85 rfl ?_
      refine a_icmp_ne (pc := 86) (tgt := 94) hC dX10_ranked_86 (by decide) (fun c => ?_) (fun c => ?_)
      · replace h := h.1 c
        refine a_iload_n (pc := 94) hC dX10_ranked_94 rfl ?_
        refine a_istore_n (pc := 95) hC dX10_ranked_95 (Nat.le_of_ble_eq_true rfl) ?_
        refine a_iinc (pc := 96) hC dX10_ranked_96 rfl (c := 1) rfl ?_
        replace h := h _ rfl
        refine a_goto (pc := 99) (tgt := 5) hC dX10_ranked_99 (by decide) ?_
        exact (ih _ _ _ h).forget ⟨rfl, rfl, rfl, rfl, rfl, trivial⟩
      · replace h := h.2 c
        refine a_iload (pc := 89) hC dX10_ranked_89 rfl ?_
        refine a_goto (pc := 91) (tgt := 95) hC dX10_ranked_91 (by decide) ?_
        refine a_istore_n (pc := 95) hC dX10_ranked_95 (Nat.le_of_ble_eq_true rfl) ?_
        refine a_iinc (pc := 96) hC dX10_ranked_96 rfl (c := 1) rfl ?_
        replace h := h _ rfl
        refine a_goto (pc := 99) (tgt := 5) hC dX10_ranked_99 (by decide) ?_
        exact (ih _ _ _ h).forget ⟨rfl, rfl, rfl, rfl, rfl, trivial⟩
set_option maxRecDepth 20000 in
theorem tJX10_ranked_119 {f : aF} {g : aG} (hX : isM g) (P : Int32 → aS → Prop) (hR : f_R f = aR 2 0 0) (hC : aOK f g cX10_ranked 8 RX10) (hE : aEi f g .int P (fun _ _ => False) 0 0) (j3 : Int32) (s0 : Int32) (s1 : Int32) (q : aS) (h : JX10_ranked_119 j3 s0 s1 P q) : AW f g 119 [none, none, none, some (.int j3), none, none, none, none] [.int s0, .int s1, .ref (gAd g 0)] q 0 0 := by
  unfold JX10_ranked_119 at h
  refine a_callV (pc := 119) hC hR vm_X10_goes tw_1585 cl_X10 (oM_0 hX) ⟨(Nat.le_of_ble_eq_true rfl), (Nat.le_of_ble_eq_true rfl), (Nat.le_of_ble_eq_true rfl), (Nat.le_of_ble_eq_true rfl)⟩ dX10_ranked_119 (t_X10_goes hX hC.tr _ _ _ _ h) rfl rfl rfl (Nat.le_of_ble_eq_true rfl) (fun r25 q26 h => ?_)
  have z_r25 := h.1
  replace h := h.2
  refine a_if_eq (pc := 122) (tgt := 129) hC dX10_ranked_122 (by decide) (fun c => ?_) (fun c => ?_)
  · replace h := h.1 c
    refine a_iconst (pc := 129) hC dX10_ranked_129 (v := 0) rfl ?_
    exact a_iret (pc := 130) hC hE h (Nat.le_of_ble_eq_true rfl) (Nat.le_of_ble_eq_true rfl) dX10_ranked_130
  · replace h := h.2 c
    refine a_iload_n (pc := 125) hC dX10_ranked_125 rfl ?_
    refine a_goto (pc := 126) (tgt := 130) hC dX10_ranked_126 (by decide) ?_
    exact a_iret (pc := 130) hC hE h (Nat.le_of_ble_eq_true rfl) (Nat.le_of_ble_eq_true rfl) dX10_ranked_130
set_option maxRecDepth 20000 in
theorem t_X10_ranked {l : Launch} {g : aG} (hX : isM g) (hl : l.stackTraces = false) (x1 : Int32) (x2 : Int32) (q : aS) (P : Int32 → aS → Prop) (h : w_X10_ranked x1 x2 q P) : aMi l g yX10_ranked (aWs yX10_ranked cX10_ranked 8 (some .int)) 2 0 0 [.ref (gAd g 0), .int x1, .int x2] q P (fun _ _ => False) := by
  refine aMi_of RX10 ⟨by decide +kernel, rfl⟩ (cat_all rfl) (Nat.le_of_ble_eq_true rfl) hl hX.cl (fun f hR hC hE => ?_)
  show AW f g 0 [some (.ref (gAd g 0)), some (.int x1), some (.int x2), none, none, none, none, none] [] q 0 0
  unfold w_X10_ranked at h
  refine a_iconst (pc := 0) hC dX10_ranked_0 (v := (-1)) rfl ?_
  refine a_istore_n (pc := 1) hC dX10_ranked_1 (Nat.le_of_ble_eq_true rfl) ?_
  refine a_iconst (pc := 2) hC dX10_ranked_2 (v := 0) rfl ?_
  refine a_istore (pc := 3) hC dX10_ranked_3 (Nat.le_of_ble_eq_true rfl) ?_
  obtain ⟨N, h⟩ := h
  refine (tLX10_ranked_5 hX P hR hC hE _ _ (fun y21 q22 h => ?_) N _ _ _ h).forget ⟨rfl, rfl, rfl, rfl, rfl, trivial⟩
  refine a_aload_n (pc := 102) hC dX10_ranked_102 rfl ?_
  refine a_iload_n (pc := 103) hC dX10_ranked_103 rfl ?_
  refine a_iconst (pc := 104) hC dX10_ranked_104 (v := 0) rfl ?_
  refine a_iconst (pc := 105) hC dX10_ranked_105 (v := 3) rfl ?_
  refine a_callS (pc := 106) hC hR sm_X10_isIn tw_1582 ⟨(Nat.le_of_ble_eq_true rfl), (Nat.le_of_ble_eq_true rfl), (Nat.le_of_ble_eq_true rfl), (Nat.le_of_ble_eq_true rfl)⟩ dX10_ranked_106 (t_X10_isIn hX hC.tr _ _ _ _ _ h) rfl rfl rfl (Nat.le_of_ble_eq_true rfl) (fun r23 q24 h => ?_)
  have z_r23 := h.1
  replace h := h.2
  refine a_iload_n (pc := 109) hC dX10_ranked_109 rfl ?_
  refine a_iconst (pc := 110) hC dX10_ranked_110 (v := (-1)) rfl ?_
  refine a_icmp_eq (pc := 111) (tgt := 118) hC dX10_ranked_111 (by decide) (fun c => ?_) (fun c => ?_)
  · replace h := h.1 c
    refine a_iconst (pc := 118) hC dX10_ranked_118 (v := 0) rfl ?_
    exact (tJX10_ranked_119 hX P hR hC hE _ _ _ _ h).forget ⟨rfl, trivial⟩
  · replace h := h.2 c
    refine a_iconst (pc := 114) hC dX10_ranked_114 (v := 1) rfl ?_
    refine a_goto (pc := 115) (tgt := 119) hC dX10_ranked_115 (by decide) ?_
    exact (tJX10_ranked_119 hX P hR hC hE _ _ _ _ h).forget ⟨rfl, trivial⟩
set_option maxRecDepth 20000 in
theorem tJX10_strongest_98 {f : aF} {g : aG} (hX : isM g) (P : Int32 → aS → Prop) (hR : f_R f = aR 1 0 0) (hC : aOK f g cX10_strongest 8 RX10) (hE : aEi f g .int P (fun _ _ => False) 0 0) (c1 : Int32) (c2 : Int32) (c3 : Int32) (j4 : Int32) (j5 : Int32) (j6 : Int32) (s0 : Int32) (s1 : Int32) (B : Int32 → Int32 → aS → Prop) (K : Int32 → aS → Prop) (hB : ∀ (w4 : Int32) (w5 : Int32) (q : aS), B w4 w5 q → AW f g 20 [some (.ref (gAd g 0)), some (.int c1), some (.int c2), some (.int c3), some (.int w4), some (.int w5), none, none] [] q 0 0) (hK : ∀ (w4 : Int32) (q : aS), K w4 q → AW f g 143 [some (.ref (gAd g 0)), some (.int c1), some (.int c2), some (.int c3), some (.int w4), none, none, none] [] q 0 0) (q : aS) (h : JX10_strongest_98 c1 c2 c3 j4 j5 j6 s0 s1 P B K q) : AW f g 98 [some (.ref (gAd g 0)), some (.int c1), some (.int c2), some (.int c3), some (.int j4), some (.int j5), some (.int j6), none] [.int s0, .int s1] q 0 0 := by
  unfold JX10_strongest_98 at h
  refine a_isub (pc := 98) hC dX10_strongest_98 ?_
  refine a_istore (pc := 99) hC dX10_strongest_99 (Nat.le_of_ble_eq_true rfl) ?_
  replace h := h _ rfl
  refine a_iload (pc := 101) hC dX10_strongest_101 rfl ?_
  refine a_iload (pc := 103) hC dX10_strongest_103 rfl ?_
  refine a_if_gt (pc := 105) (tgt := 129) hC dX10_strongest_105 (by decide) (fun c => ?_) (fun c => ?_)
  · replace h := h.1 c
    refine a_iconst (pc := 129) hC dX10_strongest_129 (v := 1) rfl ?_
    refine a_goto (pc := 130) (tgt := 134) hC dX10_strongest_130 (by decide) ?_
    refine a_iadd (pc := 134) hC dX10_strongest_134 ?_
    refine a_istore (pc := 135) hC dX10_strongest_135 (Nat.le_of_ble_eq_true rfl) ?_
    replace h := h _ rfl
    refine a_iinc (pc := 137) hC dX10_strongest_137 rfl (c := 1) rfl ?_
    replace h := h _ rfl
    refine a_goto (pc := 140) (tgt := 20) hC dX10_strongest_140 (by decide) ?_
    exact (hB _ _ _ h).forget ⟨rfl, rfl, rfl, rfl, rfl, rfl, trivial⟩
  · replace h := h.2 c
    refine a_iload (pc := 108) hC dX10_strongest_108 rfl ?_
    refine a_if_ne (pc := 110) (tgt := 133) hC dX10_strongest_110 (by decide) (fun c => ?_) (fun c => ?_)
    · replace h := h.1 c
      refine a_iconst (pc := 133) hC dX10_strongest_133 (v := 0) rfl ?_
      refine a_iadd (pc := 134) hC dX10_strongest_134 ?_
      refine a_istore (pc := 135) hC dX10_strongest_135 (Nat.le_of_ble_eq_true rfl) ?_
      replace h := h _ rfl
      refine a_iinc (pc := 137) hC dX10_strongest_137 rfl (c := 1) rfl ?_
      replace h := h _ rfl
      refine a_goto (pc := 140) (tgt := 20) hC dX10_strongest_140 (by decide) ?_
      exact (hB _ _ _ h).forget ⟨rfl, rfl, rfl, rfl, rfl, rfl, trivial⟩
    · replace h := h.2 c
      refine a_iload (pc := 113) hC dX10_strongest_113 rfl ?_
      refine a_if_gt (pc := 115) (tgt := 129) hC dX10_strongest_115 (by decide) (fun c => ?_) (fun c => ?_)
      · replace h := h.1 c
        refine a_iconst (pc := 129) hC dX10_strongest_129 (v := 1) rfl ?_
        refine a_goto (pc := 130) (tgt := 134) hC dX10_strongest_130 (by decide) ?_
        refine a_iadd (pc := 134) hC dX10_strongest_134 ?_
        refine a_istore (pc := 135) hC dX10_strongest_135 (Nat.le_of_ble_eq_true rfl) ?_
        replace h := h _ rfl
        refine a_iinc (pc := 137) hC dX10_strongest_137 rfl (c := 1) rfl ?_
        replace h := h _ rfl
        refine a_goto (pc := 140) (tgt := 20) hC dX10_strongest_140 (by decide) ?_
        exact (hB _ _ _ h).forget ⟨rfl, rfl, rfl, rfl, rfl, rfl, trivial⟩
      · replace h := h.2 c
        refine a_iload (pc := 118) hC dX10_strongest_118 rfl ?_
        refine a_if_ne (pc := 120) (tgt := 133) hC dX10_strongest_120 (by decide) (fun c => ?_) (fun c => ?_)
        · replace h := h.1 c
          refine a_iconst (pc := 133) hC dX10_strongest_133 (v := 0) rfl ?_
          refine a_iadd (pc := 134) hC dX10_strongest_134 ?_
          refine a_istore (pc := 135) hC dX10_strongest_135 (Nat.le_of_ble_eq_true rfl) ?_
          replace h := h _ rfl
          refine a_iinc (pc := 137) hC dX10_strongest_137 rfl (c := 1) rfl ?_
          replace h := h _ rfl
          refine a_goto (pc := 140) (tgt := 20) hC dX10_strongest_140 (by decide) ?_
          exact (hB _ _ _ h).forget ⟨rfl, rfl, rfl, rfl, rfl, rfl, trivial⟩
        · replace h := h.2 c
          refine a_iload (pc := 123) hC dX10_strongest_123 rfl ?_
          refine a_iload_n (pc := 125) hC dX10_strongest_125 rfl ?_
          refine a_icmp_ge (pc := 126) (tgt := 133) hC dX10_strongest_126 (by decide) (fun c => ?_) (fun c => ?_)
          · replace h := h.1 c
            refine a_iconst (pc := 133) hC dX10_strongest_133 (v := 0) rfl ?_
            refine a_iadd (pc := 134) hC dX10_strongest_134 ?_
            refine a_istore (pc := 135) hC dX10_strongest_135 (Nat.le_of_ble_eq_true rfl) ?_
            replace h := h _ rfl
            refine a_iinc (pc := 137) hC dX10_strongest_137 rfl (c := 1) rfl ?_
            replace h := h _ rfl
            refine a_goto (pc := 140) (tgt := 20) hC dX10_strongest_140 (by decide) ?_
            exact (hB _ _ _ h).forget ⟨rfl, rfl, rfl, rfl, rfl, rfl, trivial⟩
          · replace h := h.2 c
            refine a_iconst (pc := 129) hC dX10_strongest_129 (v := 1) rfl ?_
            refine a_goto (pc := 130) (tgt := 134) hC dX10_strongest_130 (by decide) ?_
            refine a_iadd (pc := 134) hC dX10_strongest_134 ?_
            refine a_istore (pc := 135) hC dX10_strongest_135 (Nat.le_of_ble_eq_true rfl) ?_
            replace h := h _ rfl
            refine a_iinc (pc := 137) hC dX10_strongest_137 rfl (c := 1) rfl ?_
            replace h := h _ rfl
            refine a_goto (pc := 140) (tgt := 20) hC dX10_strongest_140 (by decide) ?_
            exact (hB _ _ _ h).forget ⟨rfl, rfl, rfl, rfl, rfl, rfl, trivial⟩
set_option maxRecDepth 20000 in
theorem tJX10_strongest_78 {f : aF} {g : aG} (hX : isM g) (P : Int32 → aS → Prop) (hR : f_R f = aR 1 0 0) (hC : aOK f g cX10_strongest 8 RX10) (hE : aEi f g .int P (fun _ _ => False) 0 0) (c1 : Int32) (c2 : Int32) (c3 : Int32) (j4 : Int32) (j5 : Int32) (j6 : Int32) (s0 : Int32) (B : Int32 → Int32 → aS → Prop) (K : Int32 → aS → Prop) (hB : ∀ (w4 : Int32) (w5 : Int32) (q : aS), B w4 w5 q → AW f g 20 [some (.ref (gAd g 0)), some (.int c1), some (.int c2), some (.int c3), some (.int w4), some (.int w5), none, none] [] q 0 0) (hK : ∀ (w4 : Int32) (q : aS), K w4 q → AW f g 143 [some (.ref (gAd g 0)), some (.int c1), some (.int c2), some (.int c3), some (.int w4), none, none, none] [] q 0 0) (q : aS) (h : JX10_strongest_78 c1 c2 c3 j4 j5 j6 s0 P B K q) : AW f g 78 [some (.ref (gAd g 0)), some (.int c1), some (.int c2), some (.int c3), some (.int j4), some (.int j5), some (.int j6), none] [.int s0] q 0 0 := by
  unfold JX10_strongest_78 at h
  refine a_aload_n (pc := 78) hC dX10_strongest_78 rfl ?_
  refine a_get (pc := 79) hC cl_X10 (oM_0 hX) 0 (by decide) tw_1504 rfl dX10_strongest_79 ?_
  refine a_iload_n (pc := 82) hC dX10_strongest_82 rfl ?_
  refine a_callS (pc := 83) hC hR sm_X10_echoAt tw_1647 ⟨(Nat.le_of_ble_eq_true rfl), (Nat.le_of_ble_eq_true rfl), (Nat.le_of_ble_eq_true rfl), (Nat.le_of_ble_eq_true rfl)⟩ dX10_strongest_83 (t_X10_echoAt hX hC.tr _ _ _ h) rfl rfl rfl (Nat.le_of_ble_eq_true rfl) (fun r9 q10 h => ?_)
  refine a_iconst (pc := 86) hC dX10_strongest_86 (v := 2) rfl ?_
  refine a_iadd (pc := 87) hC dX10_strongest_87 ?_
  refine a_iald (pc := 88) hC (oM_1 hX) h.1 dX10_strongest_88 ?_
  replace h := h.2
  refine a_iconst (pc := 89) hC dX10_strongest_89 (v := (-1)) rfl ?_
  refine a_icmp_ne (pc := 90) (tgt := 97) hC dX10_strongest_90 (by decide) (fun c => ?_) (fun c => ?_)
  · replace h := h.1 c
    refine a_iconst (pc := 97) hC dX10_strongest_97 (v := 0) rfl ?_
    exact (tJX10_strongest_98 hX P hR hC hE _ _ _ _ _ _ _ _ _ _ hB hK _ h).forget ⟨rfl, rfl, rfl, rfl, rfl, rfl, rfl, trivial⟩
  · replace h := h.2 c
    refine a_iconst (pc := 93) hC dX10_strongest_93 (v := 1) rfl ?_
    refine a_goto (pc := 94) (tgt := 98) hC dX10_strongest_94 (by decide) ?_
    exact (tJX10_strongest_98 hX P hR hC hE _ _ _ _ _ _ _ _ _ _ hB hK _ h).forget ⟨rfl, rfl, rfl, rfl, rfl, rfl, rfl, trivial⟩
set_option maxRecDepth 20000 in
theorem tLX10_strongest_20 {f : aF} {g : aG} (hX : isM g) (P : Int32 → aS → Prop) (hR : f_R f = aR 1 0 0) (hC : aOK f g cX10_strongest 8 RX10) (hE : aEi f g .int P (fun _ _ => False) 0 0) (c1 : Int32) (c2 : Int32) (c3 : Int32) {K : Int32 → aS → Prop} (hK : ∀ (w4 : Int32) (q : aS), K w4 q → AW f g 143 [some (.ref (gAd g 0)), some (.int c1), some (.int c2), some (.int c3), some (.int w4), none, none, none] [] q 0 0) : ∀ (N : Nat) (v4 : Int32) (v5 : Int32) (q : aS), LX10_strongest_20 c1 c2 c3 P K N v4 v5 q → AW f g 20 [some (.ref (gAd g 0)), some (.int c1), some (.int c2), some (.int c3), some (.int v4), some (.int v5), none, none] [] q 0 0 := by
  intro N
  induction N with
  | zero =>
    intro v4 v5 q h
    exact h.elim
  | succ N ih =>
    intro v4 v5 q h
    unfold LX10_strongest_20 at h
    refine a_iload (pc := 20) hC dX10_strongest_20 rfl ?_
    refine a_aload_n (pc := 22) hC dX10_strongest_22 rfl ?_
    refine a_get (pc := 23) hC cl_X10 (oM_0 hX) 0 (by decide) tw_1504 rfl dX10_strongest_23 ?_
    refine a_iconst (pc := 26) hC dX10_strongest_26 (v := 1) rfl ?_
    refine a_iald (pc := 27) hC (oM_1 hX) h.1 dX10_strongest_27 ?_
    replace h := h.2
    refine a_icmp_ge (pc := 28) (tgt := 143) hC dX10_strongest_28 (by decide) (fun c => ?_) (fun c => ?_)
    · replace h := h.1 c
      exact (hK _ _ h).forget ⟨rfl, rfl, rfl, rfl, rfl, trivial⟩
    · replace h := h.2 c
      refine a_aload_n (pc := 31) hC dX10_strongest_31 rfl ?_
      refine a_get (pc := 32) hC cl_X10 (oM_0 hX) 0 (by decide) tw_1504 rfl dX10_strongest_32 ?_
      refine a_iload (pc := 35) hC dX10_strongest_35 rfl ?_
      refine a_callS (pc := 37) hC hR sm_X10_echoAt tw_1647 ⟨(Nat.le_of_ble_eq_true rfl), (Nat.le_of_ble_eq_true rfl), (Nat.le_of_ble_eq_true rfl), (Nat.le_of_ble_eq_true rfl)⟩ dX10_strongest_37 (t_X10_echoAt hX hC.tr _ _ _ h) rfl rfl rfl (Nat.le_of_ble_eq_true rfl) (fun r2 q3 h => ?_)
      refine a_iconst (pc := 40) hC dX10_strongest_40 (v := 1) rfl ?_
      refine a_iadd (pc := 41) hC dX10_strongest_41 ?_
      refine a_iald (pc := 42) hC (oM_1 hX) h.1 dX10_strongest_42 ?_
      replace h := h.2
      refine a_aload_n (pc := 43) hC dX10_strongest_43 rfl ?_
      refine a_get (pc := 44) hC cl_X10 (oM_0 hX) 0 (by decide) tw_1504 rfl dX10_strongest_44 ?_
      refine a_iload_n (pc := 47) hC dX10_strongest_47 rfl ?_
      refine a_callS (pc := 48) hC hR sm_X10_echoAt tw_1647 ⟨(Nat.le_of_ble_eq_true rfl), (Nat.le_of_ble_eq_true rfl), (Nat.le_of_ble_eq_true rfl), (Nat.le_of_ble_eq_true rfl)⟩ dX10_strongest_48 (t_X10_echoAt hX hC.tr _ _ _ h) rfl rfl rfl (Nat.le_of_ble_eq_true rfl) (fun r4 q5 h => ?_)
      refine a_iconst (pc := 51) hC dX10_strongest_51 (v := 1) rfl ?_
      refine a_iadd (pc := 52) hC dX10_strongest_52 ?_
      refine a_iald (pc := 53) hC (oM_1 hX) h.1 dX10_strongest_53 ?_
      replace h := h.2
      refine a_isub (pc := 54) hC dX10_strongest_54 ?_
      refine a_istore (pc := 55) hC dX10_strongest_55 (Nat.le_of_ble_eq_true rfl) ?_
      replace h := h _ rfl
      refine a_aload_n (pc := 57) hC dX10_strongest_57 rfl ?_
      refine a_get (pc := 58) hC cl_X10 (oM_0 hX) 0 (by decide) tw_1504 rfl dX10_strongest_58 ?_
      refine a_iload (pc := 61) hC dX10_strongest_61 rfl ?_
      refine a_callS (pc := 63) hC hR sm_X10_echoAt tw_1647 ⟨(Nat.le_of_ble_eq_true rfl), (Nat.le_of_ble_eq_true rfl), (Nat.le_of_ble_eq_true rfl), (Nat.le_of_ble_eq_true rfl)⟩ dX10_strongest_63 (t_X10_echoAt hX hC.tr _ _ _ h) rfl rfl rfl (Nat.le_of_ble_eq_true rfl) (fun r7 q8 h => ?_)
      refine a_iconst (pc := 66) hC dX10_strongest_66 (v := 2) rfl ?_
      refine a_iadd (pc := 67) hC dX10_strongest_67 ?_
      refine a_iald (pc := 68) hC (oM_1 hX) h.1 dX10_strongest_68 ?_
      replace h := h.2
      refine a_iconst (pc := 69) hC dX10_strongest_69 (v := (-1)) rfl ?_
      refine a_icmp_ne (pc := 70) (tgt := 77) hC dX10_strongest_70 (by decide) (fun c => ?_) (fun c => ?_)
      · replace h := h.1 c
        refine a_iconst (pc := 77) hC dX10_strongest_77 (v := 0) rfl ?_
        exact (tJX10_strongest_78 hX P hR hC hE _ _ _ _ _ _ _ _ _ ih hK _ h).forget ⟨rfl, rfl, rfl, rfl, rfl, rfl, rfl, trivial⟩
      · replace h := h.2 c
        refine a_iconst (pc := 73) hC dX10_strongest_73 (v := 1) rfl ?_
        refine a_goto (pc := 74) (tgt := 78) hC dX10_strongest_74 (by decide) ?_
        exact (tJX10_strongest_78 hX P hR hC hE _ _ _ _ _ _ _ _ _ ih hK _ h).forget ⟨rfl, rfl, rfl, rfl, rfl, rfl, rfl, trivial⟩
set_option maxRecDepth 20000 in
theorem tLX10_strongest_4 {f : aF} {g : aG} (hX : isM g) (P : Int32 → aS → Prop) (hR : f_R f = aR 1 0 0) (hC : aOK f g cX10_strongest 8 RX10) (hE : aEi f g .int P (fun _ _ => False) 0 0) (c1 : Int32) {K : Int32 → aS → Prop} (hK : ∀ (w2 : Int32) (q : aS), K w2 q → AW f g 161 [some (.ref (gAd g 0)), none, some (.int w2), none, none, none, none, none] [] q 0 0) : ∀ (N : Nat) (v2 : Int32) (v3 : Int32) (q : aS), LX10_strongest_4 c1 P K N v2 v3 q → AW f g 4 [some (.ref (gAd g 0)), some (.int c1), some (.int v2), some (.int v3), none, none, none, none] [] q 0 0 := by
  intro N
  induction N with
  | zero =>
    intro v2 v3 q h
    exact h.elim
  | succ N ih =>
    intro v2 v3 q h
    unfold LX10_strongest_4 at h
    refine a_iload_n (pc := 4) hC dX10_strongest_4 rfl ?_
    refine a_aload_n (pc := 5) hC dX10_strongest_5 rfl ?_
    refine a_get (pc := 6) hC cl_X10 (oM_0 hX) 0 (by decide) tw_1504 rfl dX10_strongest_6 ?_
    refine a_iconst (pc := 9) hC dX10_strongest_9 (v := 1) rfl ?_
    refine a_iald (pc := 10) hC (oM_1 hX) h.1 dX10_strongest_10 ?_
    replace h := h.2
    refine a_icmp_ge (pc := 11) (tgt := 161) hC dX10_strongest_11 (by decide) (fun c => ?_) (fun c => ?_)
    · replace h := h.1 c
      exact (hK _ _ h).forget ⟨rfl, rfl, trivial⟩
    · replace h := h.2 c
      refine a_iconst (pc := 14) hC dX10_strongest_14 (v := 0) rfl ?_
      refine a_istore (pc := 15) hC dX10_strongest_15 (Nat.le_of_ble_eq_true rfl) ?_
      refine a_iconst (pc := 17) hC dX10_strongest_17 (v := 0) rfl ?_
      refine a_istore (pc := 18) hC dX10_strongest_18 (Nat.le_of_ble_eq_true rfl) ?_
      obtain ⟨N, h⟩ := h
      refine (tLX10_strongest_20 hX P hR hC hE _ _ _ (fun y24 q25 h => ?_) N _ _ _ h).forget ⟨rfl, rfl, rfl, rfl, rfl, rfl, trivial⟩
      refine a_iload (pc := 143) hC dX10_strongest_143 rfl ?_
      refine a_iload_n (pc := 145) hC dX10_strongest_145 rfl ?_
      refine a_icmp_ne (pc := 146) (tgt := 153) hC dX10_strongest_146 (by decide) (fun c => ?_) (fun c => ?_)
      · replace h := h.1 c
        refine a_iload_n (pc := 153) hC dX10_strongest_153 rfl ?_
        refine a_istore_n (pc := 154) hC dX10_strongest_154 (Nat.le_of_ble_eq_true rfl) ?_
        refine a_iinc (pc := 155) hC dX10_strongest_155 rfl (c := 1) rfl ?_
        replace h := h _ rfl
        refine a_goto (pc := 158) (tgt := 4) hC dX10_strongest_158 (by decide) ?_
        exact (ih _ _ _ h).forget ⟨rfl, rfl, rfl, rfl, trivial⟩
      · replace h := h.2 c
        refine a_iload_n (pc := 149) hC dX10_strongest_149 rfl ?_
        refine a_goto (pc := 150) (tgt := 154) hC dX10_strongest_150 (by decide) ?_
        refine a_istore_n (pc := 154) hC dX10_strongest_154 (Nat.le_of_ble_eq_true rfl) ?_
        refine a_iinc (pc := 155) hC dX10_strongest_155 rfl (c := 1) rfl ?_
        replace h := h _ rfl
        refine a_goto (pc := 158) (tgt := 4) hC dX10_strongest_158 (by decide) ?_
        exact (ih _ _ _ h).forget ⟨rfl, rfl, rfl, rfl, trivial⟩
set_option maxRecDepth 20000 in
theorem tJX10_strongest_172 {f : aF} {g : aG} (hX : isM g) (P : Int32 → aS → Prop) (hR : f_R f = aR 1 0 0) (hC : aOK f g cX10_strongest 8 RX10) (hE : aEi f g .int P (fun _ _ => False) 0 0) (j2 : Int32) (s0 : Int32) (q : aS) (h : JX10_strongest_172 j2 s0 P q) : AW f g 172 [none, none, some (.int j2), none, none, none, none, none] [.int s0, .ref (gAd g 0)] q 0 0 := by
  unfold JX10_strongest_172 at h
  refine a_iconst (pc := 172) hC dX10_strongest_172 (v := 1) rfl ?_
  refine a_callV (pc := 173) hC hR vm_X10_goes tw_1585 cl_X10 (oM_0 hX) ⟨(Nat.le_of_ble_eq_true rfl), (Nat.le_of_ble_eq_true rfl), (Nat.le_of_ble_eq_true rfl), (Nat.le_of_ble_eq_true rfl)⟩ dX10_strongest_173 (t_X10_goes hX hC.tr _ _ _ _ h) rfl rfl rfl (Nat.le_of_ble_eq_true rfl) (fun r31 q32 h => ?_)
  have z_r31 := h.1
  replace h := h.2
  refine a_if_eq (pc := 176) (tgt := 183) hC dX10_strongest_176 (by decide) (fun c => ?_) (fun c => ?_)
  · replace h := h.1 c
    refine a_iconst (pc := 183) hC dX10_strongest_183 (v := 0) rfl ?_
    exact a_iret (pc := 184) hC hE h (Nat.le_of_ble_eq_true rfl) (Nat.le_of_ble_eq_true rfl) dX10_strongest_184
  · replace h := h.2 c
    refine a_iload_n (pc := 179) hC dX10_strongest_179 rfl ?_
    refine a_goto (pc := 180) (tgt := 184) hC dX10_strongest_180 (by decide) ?_
    exact a_iret (pc := 184) hC hE h (Nat.le_of_ble_eq_true rfl) (Nat.le_of_ble_eq_true rfl) dX10_strongest_184
set_option maxRecDepth 20000 in
theorem t_X10_strongest {l : Launch} {g : aG} (hX : isM g) (hl : l.stackTraces = false) (x1 : Int32) (q : aS) (P : Int32 → aS → Prop) (h : w_X10_strongest x1 q P) : aMi l g yX10_strongest (aWs yX10_strongest cX10_strongest 8 (some .int)) 1 0 0 [.ref (gAd g 0), .int x1] q P (fun _ _ => False) := by
  refine aMi_of RX10 ⟨by decide +kernel, rfl⟩ (cat_all rfl) (Nat.le_of_ble_eq_true rfl) hl hX.cl (fun f hR hC hE => ?_)
  show AW f g 0 [some (.ref (gAd g 0)), some (.int x1), none, none, none, none, none, none] [] q 0 0
  unfold w_X10_strongest at h
  refine a_iconst (pc := 0) hC dX10_strongest_0 (v := (-1)) rfl ?_
  refine a_istore_n (pc := 1) hC dX10_strongest_1 (Nat.le_of_ble_eq_true rfl) ?_
  refine a_iconst (pc := 2) hC dX10_strongest_2 (v := 0) rfl ?_
  refine a_istore_n (pc := 3) hC dX10_strongest_3 (Nat.le_of_ble_eq_true rfl) ?_
  obtain ⟨N, h⟩ := h
  refine (tLX10_strongest_4 hX P hR hC hE _ (fun y29 q30 h => ?_) N _ _ _ h).forget ⟨rfl, rfl, rfl, rfl, trivial⟩
  refine a_aload_n (pc := 161) hC dX10_strongest_161 rfl ?_
  refine a_iload_n (pc := 162) hC dX10_strongest_162 rfl ?_
  refine a_iconst (pc := 163) hC dX10_strongest_163 (v := (-1)) rfl ?_
  refine a_icmp_eq (pc := 164) (tgt := 171) hC dX10_strongest_164 (by decide) (fun c => ?_) (fun c => ?_)
  · replace h := h.1 c
    refine a_iconst (pc := 171) hC dX10_strongest_171 (v := 0) rfl ?_
    exact (tJX10_strongest_172 hX P hR hC hE _ _ _ h).forget ⟨rfl, trivial⟩
  · replace h := h.2 c
    refine a_iconst (pc := 167) hC dX10_strongest_167 (v := 1) rfl ?_
    refine a_goto (pc := 168) (tgt := 172) hC dX10_strongest_168 (by decide) ?_
    exact (tJX10_strongest_172 hX P hR hC hE _ _ _ h).forget ⟨rfl, trivial⟩
set_option maxRecDepth 20000 in
theorem t_X10_isTold {l : Launch} {g : aG} (hX : isM g) (hl : l.stackTraces = false) (q : aS) (P : Int32 → aS → Prop) (h : w_X10_isTold q P) : aMi l g yX10_isTold (aWs yX10_isTold cX10_isTold 1 (some .boolean)) 0 0 0 [.ref (gAd g 0)] q (fun r u => (r = 0 ∨ r = 1) ∧ P r u) (fun _ _ => False) := by
  refine aMi_of RX10 ⟨by decide +kernel, rfl⟩ (cat_all rfl) (Nat.le_of_ble_eq_true rfl) hl hX.cl (fun f hR hC hE => ?_)
  show AW f g 0 [some (.ref (gAd g 0))] [] q 0 0
  unfold w_X10_isTold at h
  refine a_aload_n (pc := 0) hC dX10_isTold_0 rfl ?_
  refine a_iconst (pc := 1) hC dX10_isTold_1 (v := 0) rfl ?_
  refine a_put (pc := 2) hC cl_X10 (oM_0 hX) 15 (by decide) tw_1519 tyX10 tyX10_ok rfl rfl rfl (Nat.le_of_ble_eq_true rfl) rfl dX10_isTold_2 ?_
  replace h := h _ rfl
  refine a_iconst (pc := 5) hC dX10_isTold_5 (v := 1) rfl ?_
  exact a_bret (pc := 6) hC hE (Or.inr rfl) h (Nat.le_of_ble_eq_true rfl) (Nat.le_of_ble_eq_true rfl) dX10_isTold_6
