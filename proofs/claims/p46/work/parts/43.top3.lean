theorem dX9_isDamperThan_0 : decode cX9_isDamperThan 0 = .ok (.aload_n 0, 1) := by decide +kernel
theorem dX9_isDamperThan_1 : decode cX9_isDamperThan 1 = .ok (.getfield 10, 3) := by decide +kernel
theorem dX9_isDamperThan_4 : decode cX9_isDamperThan 4 = .ok (.getfield 96, 3) := by decide +kernel
theorem dX9_isDamperThan_7 : decode cX9_isDamperThan 7 = .ok (.getfield 106, 3) := by decide +kernel
theorem dX9_isDamperThan_10 : decode cX9_isDamperThan 10 = .ok (.iload_n 1, 1) := by decide +kernel
theorem dX9_isDamperThan_11 : decode cX9_isDamperThan 11 = .ok (.iaload, 1) := by decide +kernel
theorem dX9_isDamperThan_12 : decode cX9_isDamperThan 12 = .ok (.aload_n 0, 1) := by decide +kernel
theorem dX9_isDamperThan_13 : decode cX9_isDamperThan 13 = .ok (.getfield 10, 3) := by decide +kernel
theorem dX9_isDamperThan_16 : decode cX9_isDamperThan 16 = .ok (.getfield 96, 3) := by decide +kernel
theorem dX9_isDamperThan_19 : decode cX9_isDamperThan 19 = .ok (.getfield 106, 3) := by decide +kernel
theorem dX9_isDamperThan_22 : decode cX9_isDamperThan 22 = .ok (.iload_n 2, 1) := by decide +kernel
theorem dX9_isDamperThan_23 : decode cX9_isDamperThan 23 = .ok (.iaload, 1) := by decide +kernel
theorem dX9_isDamperThan_24 : decode cX9_isDamperThan 24 = .ok (.if_icmp .eq 36, 3) := by decide +kernel
theorem dX9_isDamperThan_27 : decode cX9_isDamperThan 27 = .ok (.aload_n 0, 1) := by decide +kernel
theorem dX9_isDamperThan_28 : decode cX9_isDamperThan 28 = .ok (.getfield 10, 3) := by decide +kernel
theorem dX9_isDamperThan_31 : decode cX9_isDamperThan 31 = .ok (.getfield 96, 3) := by decide +kernel
theorem dX9_isDamperThan_34 : decode cX9_isDamperThan 34 = .ok (.getfield 106, 3) := by decide +kernel
theorem dX9_isDamperThan_37 : decode cX9_isDamperThan 37 = .ok (.iload_n 1, 1) := by decide +kernel
theorem dX9_isDamperThan_38 : decode cX9_isDamperThan 38 = .ok (.iaload, 1) := by decide +kernel
theorem dX9_isDamperThan_39 : decode cX9_isDamperThan 39 = .ok (.aload_n 0, 1) := by decide +kernel
theorem dX9_isDamperThan_40 : decode cX9_isDamperThan 40 = .ok (.getfield 10, 3) := by decide +kernel
theorem dX9_isDamperThan_43 : decode cX9_isDamperThan 43 = .ok (.getfield 96, 3) := by decide +kernel
theorem dX9_isDamperThan_46 : decode cX9_isDamperThan 46 = .ok (.getfield 106, 3) := by decide +kernel
theorem dX9_isDamperThan_49 : decode cX9_isDamperThan 49 = .ok (.iload_n 2, 1) := by decide +kernel
theorem dX9_isDamperThan_50 : decode cX9_isDamperThan 50 = .ok (.iaload, 1) := by decide +kernel
theorem dX9_isDamperThan_51 : decode cX9_isDamperThan 51 = .ok (.if_icmp .le 7, 3) := by decide +kernel
theorem dX9_isDamperThan_54 : decode cX9_isDamperThan 54 = .ok (.iconst 1, 1) := by decide +kernel
theorem dX9_isDamperThan_55 : decode cX9_isDamperThan 55 = .ok (.goto 4, 3) := by decide +kernel
theorem dX9_isDamperThan_58 : decode cX9_isDamperThan 58 = .ok (.iconst 0, 1) := by decide +kernel
theorem dX9_isDamperThan_59 : decode cX9_isDamperThan 59 = .ok (.ireturn, 1) := by decide +kernel
theorem dX9_isDamperThan_60 : decode cX9_isDamperThan 60 = .ok (.aload_n 0, 1) := by decide +kernel
theorem dX9_isDamperThan_61 : decode cX9_isDamperThan 61 = .ok (.getfield 10, 3) := by decide +kernel
theorem dX9_isDamperThan_64 : decode cX9_isDamperThan 64 = .ok (.iload_n 1, 1) := by decide +kernel
theorem dX9_isDamperThan_65 : decode cX9_isDamperThan 65 = .ok (.invokevirtual 109, 3) := by decide +kernel
theorem dX9_isDamperThan_68 : decode cX9_isDamperThan 68 = .ok (.invokestatic 113, 3) := by decide +kernel
theorem dX9_isDamperThan_71 : decode cX9_isDamperThan 71 = .ok (.istore_n 3, 1) := by decide +kernel
theorem dX9_isDamperThan_72 : decode cX9_isDamperThan 72 = .ok (.aload_n 0, 1) := by decide +kernel
theorem dX9_isDamperThan_73 : decode cX9_isDamperThan 73 = .ok (.getfield 10, 3) := by decide +kernel
theorem dX9_isDamperThan_76 : decode cX9_isDamperThan 76 = .ok (.iload_n 2, 1) := by decide +kernel
theorem dX9_isDamperThan_77 : decode cX9_isDamperThan 77 = .ok (.invokevirtual 109, 3) := by decide +kernel
theorem dX9_isDamperThan_80 : decode cX9_isDamperThan 80 = .ok (.invokestatic 113, 3) := by decide +kernel
theorem dX9_isDamperThan_83 : decode cX9_isDamperThan 83 = .ok (.istore 4, 2) := by decide +kernel
theorem dX9_isDamperThan_85 : decode cX9_isDamperThan 85 = .ok (.iload_n 3, 1) := by decide +kernel
theorem dX9_isDamperThan_86 : decode cX9_isDamperThan 86 = .ok (.iload 4, 2) := by decide +kernel
theorem dX9_isDamperThan_88 : decode cX9_isDamperThan 88 = .ok (.if_icmp .eq 15, 3) := by decide +kernel
theorem dX9_isDamperThan_91 : decode cX9_isDamperThan 91 = .ok (.iload_n 3, 1) := by decide +kernel
theorem dX9_isDamperThan_92 : decode cX9_isDamperThan 92 = .ok (.iload 4, 2) := by decide +kernel
theorem dX9_isDamperThan_94 : decode cX9_isDamperThan 94 = .ok (.if_icmp .le 7, 3) := by decide +kernel
theorem dX9_isDamperThan_97 : decode cX9_isDamperThan 97 = .ok (.iconst 1, 1) := by decide +kernel
theorem dX9_isDamperThan_98 : decode cX9_isDamperThan 98 = .ok (.goto 4, 3) := by decide +kernel
theorem dX9_isDamperThan_101 : decode cX9_isDamperThan 101 = .ok (.iconst 0, 1) := by decide +kernel
theorem dX9_isDamperThan_102 : decode cX9_isDamperThan 102 = .ok (.ireturn, 1) := by decide +kernel
theorem dX9_isDamperThan_103 : decode cX9_isDamperThan 103 = .ok (.iload_n 1, 1) := by decide +kernel
theorem dX9_isDamperThan_104 : decode cX9_isDamperThan 104 = .ok (.iload_n 2, 1) := by decide +kernel
theorem dX9_isDamperThan_105 : decode cX9_isDamperThan 105 = .ok (.if_icmp .ge 7, 3) := by decide +kernel
theorem dX9_isDamperThan_108 : decode cX9_isDamperThan 108 = .ok (.iconst 1, 1) := by decide +kernel
theorem dX9_isDamperThan_109 : decode cX9_isDamperThan 109 = .ok (.goto 4, 3) := by decide +kernel
theorem dX9_isDamperThan_112 : decode cX9_isDamperThan 112 = .ok (.iconst 0, 1) := by decide +kernel
theorem dX9_isDamperThan_113 : decode cX9_isDamperThan 113 = .ok (.ireturn, 1) := by decide +kernel
theorem vm_X9_isDamperThan : aVm yX9_isDamperThan RX9 cX9_isDamperThan 5 (some .boolean) 2 := ⟨tw_625, tw_624, List.mem_append_left _ (List.mem_of_getElem? (i := 6) (by decide +kernel)), tw_1, rfl, by decide +kernel, by decide +kernel, by decide +kernel⟩
theorem dX9_countRoomsAhead_0 : decode cX9_countRoomsAhead 0 = .ok (.iconst 0, 1) := by decide +kernel
theorem dX9_countRoomsAhead_1 : decode cX9_countRoomsAhead 1 = .ok (.istore_n 2, 1) := by decide +kernel
theorem dX9_countRoomsAhead_2 : decode cX9_countRoomsAhead 2 = .ok (.iconst 0, 1) := by decide +kernel
theorem dX9_countRoomsAhead_3 : decode cX9_countRoomsAhead 3 = .ok (.istore_n 3, 1) := by decide +kernel
theorem dX9_countRoomsAhead_4 : decode cX9_countRoomsAhead 4 = .ok (.iload_n 3, 1) := by decide +kernel
theorem dX9_countRoomsAhead_5 : decode cX9_countRoomsAhead 5 = .ok (.aload_n 0, 1) := by decide +kernel
theorem dX9_countRoomsAhead_6 : decode cX9_countRoomsAhead 6 = .ok (.getfield 10, 3) := by decide +kernel
theorem dX9_countRoomsAhead_9 : decode cX9_countRoomsAhead 9 = .ok (.getfield 96, 3) := by decide +kernel
theorem dX9_countRoomsAhead_12 : decode cX9_countRoomsAhead 12 = .ok (.getfield 200, 3) := by decide +kernel
theorem dX9_countRoomsAhead_15 : decode cX9_countRoomsAhead 15 = .ok (.if_icmp .ge 26, 3) := by decide +kernel
theorem dX9_countRoomsAhead_18 : decode cX9_countRoomsAhead 18 = .ok (.iload_n 3, 1) := by decide +kernel
theorem dX9_countRoomsAhead_19 : decode cX9_countRoomsAhead 19 = .ok (.iload_n 1, 1) := by decide +kernel
theorem dX9_countRoomsAhead_20 : decode cX9_countRoomsAhead 20 = .ok (.if_icmp .eq 15, 3) := by decide +kernel
theorem dX9_countRoomsAhead_23 : decode cX9_countRoomsAhead 23 = .ok (.aload_n 0, 1) := by decide +kernel
theorem dX9_countRoomsAhead_24 : decode cX9_countRoomsAhead 24 = .ok (.iload_n 3, 1) := by decide +kernel
theorem dX9_countRoomsAhead_25 : decode cX9_countRoomsAhead 25 = .ok (.iload_n 1, 1) := by decide +kernel
theorem dX9_countRoomsAhead_26 : decode cX9_countRoomsAhead 26 = .ok (.invokevirtual 497, 3) := by decide +kernel
theorem dX9_countRoomsAhead_29 : decode cX9_countRoomsAhead 29 = .ok (.ifCond .eq 6, 3) := by decide +kernel
theorem dX9_countRoomsAhead_32 : decode cX9_countRoomsAhead 32 = .ok (.iinc 2 1, 3) := by decide +kernel
theorem dX9_countRoomsAhead_35 : decode cX9_countRoomsAhead 35 = .ok (.iinc 3 1, 3) := by decide +kernel
theorem dX9_countRoomsAhead_38 : decode cX9_countRoomsAhead 38 = .ok (.goto (-34), 3) := by decide +kernel
theorem dX9_countRoomsAhead_41 : decode cX9_countRoomsAhead 41 = .ok (.iload_n 2, 1) := by decide +kernel
theorem dX9_countRoomsAhead_42 : decode cX9_countRoomsAhead 42 = .ok (.ireturn, 1) := by decide +kernel
theorem vm_X9_countRoomsAhead : aVm yX9_countRoomsAhead RX9 cX9_countRoomsAhead 4 (some .int) 1 := ⟨tw_621, tw_620, List.mem_append_left _ (List.mem_of_getElem? (i := 5) (by decide +kernel)), tw_1, rfl, by decide +kernel, by decide +kernel, by decide +kernel⟩
theorem dX9_rankedValue_0 : decode cX9_rankedValue 0 = .ok (.iload_n 1, 1) := by decide +kernel
theorem dX9_rankedValue_1 : decode cX9_rankedValue 1 = .ok (.tableswitch 66 0 2 #[27, 40, 53], 27) := by decide +kernel
theorem dX9_rankedValue_28 : decode cX9_rankedValue 28 = .ok (.aload_n 0, 1) := by decide +kernel
theorem dX9_rankedValue_29 : decode cX9_rankedValue 29 = .ok (.getfield 10, 3) := by decide +kernel
theorem dX9_rankedValue_32 : decode cX9_rankedValue 32 = .ok (.getfield 161, 3) := by decide +kernel
theorem dX9_rankedValue_35 : decode cX9_rankedValue 35 = .ok (.getfield 170, 3) := by decide +kernel
theorem dX9_rankedValue_38 : decode cX9_rankedValue 38 = .ok (.iload_n 2, 1) := by decide +kernel
theorem dX9_rankedValue_39 : decode cX9_rankedValue 39 = .ok (.iaload, 1) := by decide +kernel
theorem dX9_rankedValue_40 : decode cX9_rankedValue 40 = .ok (.ireturn, 1) := by decide +kernel
theorem dX9_rankedValue_41 : decode cX9_rankedValue 41 = .ok (.aload_n 0, 1) := by decide +kernel
theorem dX9_rankedValue_42 : decode cX9_rankedValue 42 = .ok (.getfield 10, 3) := by decide +kernel
theorem dX9_rankedValue_45 : decode cX9_rankedValue 45 = .ok (.getfield 161, 3) := by decide +kernel
theorem dX9_rankedValue_48 : decode cX9_rankedValue 48 = .ok (.getfield 178, 3) := by decide +kernel
theorem dX9_rankedValue_51 : decode cX9_rankedValue 51 = .ok (.iload_n 2, 1) := by decide +kernel
theorem dX9_rankedValue_52 : decode cX9_rankedValue 52 = .ok (.iaload, 1) := by decide +kernel
theorem dX9_rankedValue_53 : decode cX9_rankedValue 53 = .ok (.ireturn, 1) := by decide +kernel
theorem dX9_rankedValue_54 : decode cX9_rankedValue 54 = .ok (.aload_n 0, 1) := by decide +kernel
theorem dX9_rankedValue_55 : decode cX9_rankedValue 55 = .ok (.getfield 10, 3) := by decide +kernel
theorem dX9_rankedValue_58 : decode cX9_rankedValue 58 = .ok (.getfield 161, 3) := by decide +kernel
theorem dX9_rankedValue_61 : decode cX9_rankedValue 61 = .ok (.getfield 177, 3) := by decide +kernel
theorem dX9_rankedValue_64 : decode cX9_rankedValue 64 = .ok (.iload_n 2, 1) := by decide +kernel
theorem dX9_rankedValue_65 : decode cX9_rankedValue 65 = .ok (.iaload, 1) := by decide +kernel
theorem dX9_rankedValue_66 : decode cX9_rankedValue 66 = .ok (.ireturn, 1) := by decide +kernel
theorem dX9_rankedValue_67 : decode cX9_rankedValue 67 = .ok (.aload_n 0, 1) := by decide +kernel
theorem dX9_rankedValue_68 : decode cX9_rankedValue 68 = .ok (.getfield 10, 3) := by decide +kernel
theorem dX9_rankedValue_71 : decode cX9_rankedValue 71 = .ok (.getfield 161, 3) := by decide +kernel
theorem dX9_rankedValue_74 : decode cX9_rankedValue 74 = .ok (.getfield 165, 3) := by decide +kernel
theorem dX9_rankedValue_77 : decode cX9_rankedValue 77 = .ok (.iload_n 2, 1) := by decide +kernel
theorem dX9_rankedValue_78 : decode cX9_rankedValue 78 = .ok (.iaload, 1) := by decide +kernel
theorem dX9_rankedValue_79 : decode cX9_rankedValue 79 = .ok (.ireturn, 1) := by decide +kernel
theorem vm_X9_rankedValue : aVm yX9_rankedValue RX9 cX9_rankedValue 3 (some .int) 2 := ⟨tw_639, tw_638, List.mem_append_left _ (List.mem_of_getElem? (i := 8) (by decide +kernel)), tw_1, rfl, by decide +kernel, by decide +kernel, by decide +kernel⟩
theorem dX9_countSingersAhead_0 : decode cX9_countSingersAhead 0 = .ok (.aload_n 0, 1) := by decide +kernel
theorem dX9_countSingersAhead_1 : decode cX9_countSingersAhead 1 = .ok (.iload_n 1, 1) := by decide +kernel
theorem dX9_countSingersAhead_2 : decode cX9_countSingersAhead 2 = .ok (.iload_n 2, 1) := by decide +kernel
theorem dX9_countSingersAhead_3 : decode cX9_countSingersAhead 3 = .ok (.invokevirtual 500, 3) := by decide +kernel
theorem dX9_countSingersAhead_6 : decode cX9_countSingersAhead 6 = .ok (.istore_n 3, 1) := by decide +kernel
theorem dX9_countSingersAhead_7 : decode cX9_countSingersAhead 7 = .ok (.iconst 0, 1) := by decide +kernel
theorem dX9_countSingersAhead_8 : decode cX9_countSingersAhead 8 = .ok (.istore 4, 2) := by decide +kernel
theorem dX9_countSingersAhead_10 : decode cX9_countSingersAhead 10 = .ok (.iconst 0, 1) := by decide +kernel
theorem dX9_countSingersAhead_11 : decode cX9_countSingersAhead 11 = .ok (.istore 5, 2) := by decide +kernel
theorem dX9_countSingersAhead_13 : decode cX9_countSingersAhead 13 = .ok (.iload 5, 2) := by decide +kernel
theorem dX9_countSingersAhead_15 : decode cX9_countSingersAhead 15 = .ok (.aload_n 0, 1) := by decide +kernel
theorem dX9_countSingersAhead_16 : decode cX9_countSingersAhead 16 = .ok (.getfield 10, 3) := by decide +kernel
theorem dX9_countSingersAhead_19 : decode cX9_countSingersAhead 19 = .ok (.getfield 161, 3) := by decide +kernel
theorem dX9_countSingersAhead_22 : decode cX9_countSingersAhead 22 = .ok (.getfield 238, 3) := by decide +kernel
theorem dX9_countSingersAhead_25 : decode cX9_countSingersAhead 25 = .ok (.if_icmp .ge 39, 3) := by decide +kernel
theorem dX9_countSingersAhead_28 : decode cX9_countSingersAhead 28 = .ok (.aload_n 0, 1) := by decide +kernel
theorem dX9_countSingersAhead_29 : decode cX9_countSingersAhead 29 = .ok (.iload_n 1, 1) := by decide +kernel
theorem dX9_countSingersAhead_30 : decode cX9_countSingersAhead 30 = .ok (.iload 5, 2) := by decide +kernel
theorem dX9_countSingersAhead_32 : decode cX9_countSingersAhead 32 = .ok (.invokevirtual 500, 3) := by decide +kernel
theorem dX9_countSingersAhead_35 : decode cX9_countSingersAhead 35 = .ok (.istore 6, 2) := by decide +kernel
theorem dX9_countSingersAhead_37 : decode cX9_countSingersAhead 37 = .ok (.iload 6, 2) := by decide +kernel
theorem dX9_countSingersAhead_39 : decode cX9_countSingersAhead 39 = .ok (.iload_n 3, 1) := by decide +kernel
theorem dX9_countSingersAhead_40 : decode cX9_countSingersAhead 40 = .ok (.if_icmp .gt 15, 3) := by decide +kernel
theorem dX9_countSingersAhead_43 : decode cX9_countSingersAhead 43 = .ok (.iload 6, 2) := by decide +kernel
theorem dX9_countSingersAhead_45 : decode cX9_countSingersAhead 45 = .ok (.iload_n 3, 1) := by decide +kernel
theorem dX9_countSingersAhead_46 : decode cX9_countSingersAhead 46 = .ok (.if_icmp .ne 12, 3) := by decide +kernel
theorem dX9_countSingersAhead_49 : decode cX9_countSingersAhead 49 = .ok (.iload 5, 2) := by decide +kernel
theorem dX9_countSingersAhead_51 : decode cX9_countSingersAhead 51 = .ok (.iload_n 2, 1) := by decide +kernel
theorem dX9_countSingersAhead_52 : decode cX9_countSingersAhead 52 = .ok (.if_icmp .ge 6, 3) := by decide +kernel
theorem dX9_countSingersAhead_55 : decode cX9_countSingersAhead 55 = .ok (.iinc 4 1, 3) := by decide +kernel
theorem dX9_countSingersAhead_58 : decode cX9_countSingersAhead 58 = .ok (.iinc 5 1, 3) := by decide +kernel
theorem dX9_countSingersAhead_61 : decode cX9_countSingersAhead 61 = .ok (.goto (-48), 3) := by decide +kernel
theorem dX9_countSingersAhead_64 : decode cX9_countSingersAhead 64 = .ok (.iload 4, 2) := by decide +kernel
theorem dX9_countSingersAhead_66 : decode cX9_countSingersAhead 66 = .ok (.ireturn, 1) := by decide +kernel
theorem vm_X9_countSingersAhead : aVm yX9_countSingersAhead RX9 cX9_countSingersAhead 7 (some .int) 2 := ⟨tw_635, tw_634, List.mem_append_left _ (List.mem_of_getElem? (i := 7) (by decide +kernel)), tw_1, rfl, by decide +kernel, by decide +kernel, by decide +kernel⟩
theorem dX9_isStrongerThan_0 : decode cX9_isStrongerThan 0 = .ok (.aload_n 0, 1) := by decide +kernel
theorem dX9_isStrongerThan_1 : decode cX9_isStrongerThan 1 = .ok (.getfield 10, 3) := by decide +kernel
theorem dX9_isStrongerThan_4 : decode cX9_isStrongerThan 4 = .ok (.getfield 137, 3) := by decide +kernel
theorem dX9_isStrongerThan_7 : decode cX9_isStrongerThan 7 = .ok (.getfield 146, 3) := by decide +kernel
theorem dX9_isStrongerThan_10 : decode cX9_isStrongerThan 10 = .ok (.iload_n 1, 1) := by decide +kernel
theorem dX9_isStrongerThan_11 : decode cX9_isStrongerThan 11 = .ok (.iaload, 1) := by decide +kernel
theorem dX9_isStrongerThan_12 : decode cX9_isStrongerThan 12 = .ok (.aload_n 0, 1) := by decide +kernel
theorem dX9_isStrongerThan_13 : decode cX9_isStrongerThan 13 = .ok (.getfield 10, 3) := by decide +kernel
theorem dX9_isStrongerThan_16 : decode cX9_isStrongerThan 16 = .ok (.getfield 137, 3) := by decide +kernel
theorem dX9_isStrongerThan_19 : decode cX9_isStrongerThan 19 = .ok (.getfield 146, 3) := by decide +kernel
theorem dX9_isStrongerThan_22 : decode cX9_isStrongerThan 22 = .ok (.iload_n 2, 1) := by decide +kernel
theorem dX9_isStrongerThan_23 : decode cX9_isStrongerThan 23 = .ok (.iaload, 1) := by decide +kernel
theorem dX9_isStrongerThan_24 : decode cX9_isStrongerThan 24 = .ok (.if_icmp .eq 36, 3) := by decide +kernel
theorem dX9_isStrongerThan_27 : decode cX9_isStrongerThan 27 = .ok (.aload_n 0, 1) := by decide +kernel
theorem dX9_isStrongerThan_28 : decode cX9_isStrongerThan 28 = .ok (.getfield 10, 3) := by decide +kernel
theorem dX9_isStrongerThan_31 : decode cX9_isStrongerThan 31 = .ok (.getfield 137, 3) := by decide +kernel
theorem dX9_isStrongerThan_34 : decode cX9_isStrongerThan 34 = .ok (.getfield 146, 3) := by decide +kernel
theorem dX9_isStrongerThan_37 : decode cX9_isStrongerThan 37 = .ok (.iload_n 1, 1) := by decide +kernel
theorem dX9_isStrongerThan_38 : decode cX9_isStrongerThan 38 = .ok (.iaload, 1) := by decide +kernel
theorem dX9_isStrongerThan_39 : decode cX9_isStrongerThan 39 = .ok (.aload_n 0, 1) := by decide +kernel
theorem dX9_isStrongerThan_40 : decode cX9_isStrongerThan 40 = .ok (.getfield 10, 3) := by decide +kernel
theorem dX9_isStrongerThan_43 : decode cX9_isStrongerThan 43 = .ok (.getfield 137, 3) := by decide +kernel
theorem dX9_isStrongerThan_46 : decode cX9_isStrongerThan 46 = .ok (.getfield 146, 3) := by decide +kernel
theorem dX9_isStrongerThan_49 : decode cX9_isStrongerThan 49 = .ok (.iload_n 2, 1) := by decide +kernel
theorem dX9_isStrongerThan_50 : decode cX9_isStrongerThan 50 = .ok (.iaload, 1) := by decide +kernel
theorem dX9_isStrongerThan_51 : decode cX9_isStrongerThan 51 = .ok (.if_icmp .le 7, 3) := by decide +kernel
theorem dX9_isStrongerThan_54 : decode cX9_isStrongerThan 54 = .ok (.iconst 1, 1) := by decide +kernel
theorem dX9_isStrongerThan_55 : decode cX9_isStrongerThan 55 = .ok (.goto 4, 3) := by decide +kernel
theorem dX9_isStrongerThan_58 : decode cX9_isStrongerThan 58 = .ok (.iconst 0, 1) := by decide +kernel
theorem dX9_isStrongerThan_59 : decode cX9_isStrongerThan 59 = .ok (.ireturn, 1) := by decide +kernel
theorem dX9_isStrongerThan_60 : decode cX9_isStrongerThan 60 = .ok (.aload_n 0, 1) := by decide +kernel
theorem dX9_isStrongerThan_61 : decode cX9_isStrongerThan 61 = .ok (.getfield 10, 3) := by decide +kernel
theorem dX9_isStrongerThan_64 : decode cX9_isStrongerThan 64 = .ok (.iload_n 1, 1) := by decide +kernel
theorem dX9_isStrongerThan_65 : decode cX9_isStrongerThan 65 = .ok (.invokevirtual 217, 3) := by decide +kernel
theorem dX9_isStrongerThan_68 : decode cX9_isStrongerThan 68 = .ok (.aload_n 0, 1) := by decide +kernel
theorem dX9_isStrongerThan_69 : decode cX9_isStrongerThan 69 = .ok (.getfield 10, 3) := by decide +kernel
theorem dX9_isStrongerThan_72 : decode cX9_isStrongerThan 72 = .ok (.iload_n 2, 1) := by decide +kernel
theorem dX9_isStrongerThan_73 : decode cX9_isStrongerThan 73 = .ok (.invokevirtual 217, 3) := by decide +kernel
theorem dX9_isStrongerThan_76 : decode cX9_isStrongerThan 76 = .ok (.if_icmp .eq 12, 3) := by decide +kernel
theorem dX9_isStrongerThan_79 : decode cX9_isStrongerThan 79 = .ok (.aload_n 0, 1) := by decide +kernel
theorem dX9_isStrongerThan_80 : decode cX9_isStrongerThan 80 = .ok (.getfield 10, 3) := by decide +kernel
theorem dX9_isStrongerThan_83 : decode cX9_isStrongerThan 83 = .ok (.iload_n 2, 1) := by decide +kernel
theorem dX9_isStrongerThan_84 : decode cX9_isStrongerThan 84 = .ok (.invokevirtual 217, 3) := by decide +kernel
theorem dX9_isStrongerThan_87 : decode cX9_isStrongerThan 87 = .ok (.ireturn, 1) := by decide +kernel
theorem dX9_isStrongerThan_88 : decode cX9_isStrongerThan 88 = .ok (.iload_n 1, 1) := by decide +kernel
theorem dX9_isStrongerThan_89 : decode cX9_isStrongerThan 89 = .ok (.iload_n 2, 1) := by decide +kernel
theorem dX9_isStrongerThan_90 : decode cX9_isStrongerThan 90 = .ok (.if_icmp .ge 7, 3) := by decide +kernel
theorem dX9_isStrongerThan_93 : decode cX9_isStrongerThan 93 = .ok (.iconst 1, 1) := by decide +kernel
theorem dX9_isStrongerThan_94 : decode cX9_isStrongerThan 94 = .ok (.goto 4, 3) := by decide +kernel
theorem dX9_isStrongerThan_97 : decode cX9_isStrongerThan 97 = .ok (.iconst 0, 1) := by decide +kernel
theorem dX9_isStrongerThan_98 : decode cX9_isStrongerThan 98 = .ok (.ireturn, 1) := by decide +kernel
theorem vm_X9_isStrongerThan : aVm yX9_isStrongerThan RX9 cX9_isStrongerThan 3 (some .boolean) 2 := ⟨tw_652, tw_651, List.mem_append_left _ (List.mem_of_getElem? (i := 10) (by decide +kernel)), tw_1, rfl, by decide +kernel, by decide +kernel, by decide +kernel⟩
theorem dX9_countEchoesAhead_0 : decode cX9_countEchoesAhead 0 = .ok (.iconst 0, 1) := by decide +kernel
theorem dX9_countEchoesAhead_1 : decode cX9_countEchoesAhead 1 = .ok (.istore_n 2, 1) := by decide +kernel
theorem dX9_countEchoesAhead_2 : decode cX9_countEchoesAhead 2 = .ok (.iconst 0, 1) := by decide +kernel
theorem dX9_countEchoesAhead_3 : decode cX9_countEchoesAhead 3 = .ok (.istore_n 3, 1) := by decide +kernel
theorem dX9_countEchoesAhead_4 : decode cX9_countEchoesAhead 4 = .ok (.iload_n 3, 1) := by decide +kernel
theorem dX9_countEchoesAhead_5 : decode cX9_countEchoesAhead 5 = .ok (.aload_n 0, 1) := by decide +kernel
theorem dX9_countEchoesAhead_6 : decode cX9_countEchoesAhead 6 = .ok (.getfield 10, 3) := by decide +kernel
theorem dX9_countEchoesAhead_9 : decode cX9_countEchoesAhead 9 = .ok (.getfield 137, 3) := by decide +kernel
theorem dX9_countEchoesAhead_12 : decode cX9_countEchoesAhead 12 = .ok (.getfield 244, 3) := by decide +kernel
theorem dX9_countEchoesAhead_15 : decode cX9_countEchoesAhead 15 = .ok (.if_icmp .ge 26, 3) := by decide +kernel
theorem dX9_countEchoesAhead_18 : decode cX9_countEchoesAhead 18 = .ok (.iload_n 3, 1) := by decide +kernel
theorem dX9_countEchoesAhead_19 : decode cX9_countEchoesAhead 19 = .ok (.iload_n 1, 1) := by decide +kernel
theorem dX9_countEchoesAhead_20 : decode cX9_countEchoesAhead 20 = .ok (.if_icmp .eq 15, 3) := by decide +kernel
theorem dX9_countEchoesAhead_23 : decode cX9_countEchoesAhead 23 = .ok (.aload_n 0, 1) := by decide +kernel
theorem dX9_countEchoesAhead_24 : decode cX9_countEchoesAhead 24 = .ok (.iload_n 3, 1) := by decide +kernel
theorem dX9_countEchoesAhead_25 : decode cX9_countEchoesAhead 25 = .ok (.iload_n 1, 1) := by decide +kernel
theorem dX9_countEchoesAhead_26 : decode cX9_countEchoesAhead 26 = .ok (.invokevirtual 503, 3) := by decide +kernel
theorem dX9_countEchoesAhead_29 : decode cX9_countEchoesAhead 29 = .ok (.ifCond .eq 6, 3) := by decide +kernel
theorem dX9_countEchoesAhead_32 : decode cX9_countEchoesAhead 32 = .ok (.iinc 2 1, 3) := by decide +kernel
theorem dX9_countEchoesAhead_35 : decode cX9_countEchoesAhead 35 = .ok (.iinc 3 1, 3) := by decide +kernel
theorem dX9_countEchoesAhead_38 : decode cX9_countEchoesAhead 38 = .ok (.goto (-34), 3) := by decide +kernel
theorem dX9_countEchoesAhead_41 : decode cX9_countEchoesAhead 41 = .ok (.iload_n 2, 1) := by decide +kernel
theorem dX9_countEchoesAhead_42 : decode cX9_countEchoesAhead 42 = .ok (.ireturn, 1) := by decide +kernel
theorem vm_X9_countEchoesAhead : aVm yX9_countEchoesAhead RX9 cX9_countEchoesAhead 4 (some .int) 1 := ⟨tw_648, tw_647, List.mem_append_left _ (List.mem_of_getElem? (i := 9) (by decide +kernel)), tw_1, rfl, by decide +kernel, by decide +kernel, by decide +kernel⟩
theorem dX9_bothWaysAgree_0 : decode cX9_bothWaysAgree 0 = .ok (.aload_n 0, 1) := by decide +kernel
theorem dX9_bothWaysAgree_1 : decode cX9_bothWaysAgree 1 = .ok (.getfield 10, 3) := by decide +kernel
theorem dX9_bothWaysAgree_4 : decode cX9_bothWaysAgree 4 = .ok (.iload_n 1, 1) := by decide +kernel
theorem dX9_bothWaysAgree_5 : decode cX9_bothWaysAgree 5 = .ok (.aload_n 0, 1) := by decide +kernel
theorem dX9_bothWaysAgree_6 : decode cX9_bothWaysAgree 6 = .ok (.getfield 10, 3) := by decide +kernel
theorem dX9_bothWaysAgree_9 : decode cX9_bothWaysAgree 9 = .ok (.getfield 161, 3) := by decide +kernel
theorem dX9_bothWaysAgree_12 : decode cX9_bothWaysAgree 12 = .ok (.getfield 173, 3) := by decide +kernel
theorem dX9_bothWaysAgree_15 : decode cX9_bothWaysAgree 15 = .ok (.iload_n 1, 1) := by decide +kernel
theorem dX9_bothWaysAgree_16 : decode cX9_bothWaysAgree 16 = .ok (.iaload, 1) := by decide +kernel
theorem dX9_bothWaysAgree_17 : decode cX9_bothWaysAgree 17 = .ok (.invokevirtual 187, 3) := by decide +kernel
theorem dX9_bothWaysAgree_20 : decode cX9_bothWaysAgree 20 = .ok (.aload_n 0, 1) := by decide +kernel
theorem dX9_bothWaysAgree_21 : decode cX9_bothWaysAgree 21 = .ok (.getfield 10, 3) := by decide +kernel
theorem dX9_bothWaysAgree_24 : decode cX9_bothWaysAgree 24 = .ok (.iload_n 1, 1) := by decide +kernel
theorem dX9_bothWaysAgree_25 : decode cX9_bothWaysAgree 25 = .ok (.invokevirtual 191, 3) := by decide +kernel
theorem dX9_bothWaysAgree_28 : decode cX9_bothWaysAgree 28 = .ok (.if_icmp .ne 26, 3) := by decide +kernel
theorem dX9_bothWaysAgree_31 : decode cX9_bothWaysAgree 31 = .ok (.aload_n 0, 1) := by decide +kernel
theorem dX9_bothWaysAgree_32 : decode cX9_bothWaysAgree 32 = .ok (.getfield 10, 3) := by decide +kernel
theorem dX9_bothWaysAgree_35 : decode cX9_bothWaysAgree 35 = .ok (.iload_n 1, 1) := by decide +kernel
theorem dX9_bothWaysAgree_36 : decode cX9_bothWaysAgree 36 = .ok (.invokevirtual 194, 3) := by decide +kernel
theorem dX9_bothWaysAgree_39 : decode cX9_bothWaysAgree 39 = .ok (.aload_n 0, 1) := by decide +kernel
theorem dX9_bothWaysAgree_40 : decode cX9_bothWaysAgree 40 = .ok (.getfield 10, 3) := by decide +kernel
theorem dX9_bothWaysAgree_43 : decode cX9_bothWaysAgree 43 = .ok (.iload_n 1, 1) := by decide +kernel
theorem dX9_bothWaysAgree_44 : decode cX9_bothWaysAgree 44 = .ok (.invokevirtual 197, 3) := by decide +kernel
theorem dX9_bothWaysAgree_47 : decode cX9_bothWaysAgree 47 = .ok (.if_icmp .ne 7, 3) := by decide +kernel
theorem dX9_bothWaysAgree_50 : decode cX9_bothWaysAgree 50 = .ok (.iconst 1, 1) := by decide +kernel
theorem dX9_bothWaysAgree_51 : decode cX9_bothWaysAgree 51 = .ok (.goto 4, 3) := by decide +kernel
theorem dX9_bothWaysAgree_54 : decode cX9_bothWaysAgree 54 = .ok (.iconst 0, 1) := by decide +kernel
theorem dX9_bothWaysAgree_55 : decode cX9_bothWaysAgree 55 = .ok (.ireturn, 1) := by decide +kernel
theorem vm_X9_bothWaysAgree : aVm yX9_bothWaysAgree RX9 cX9_bothWaysAgree 2 (some .boolean) 1 := ⟨tw_1089, tw_1088, List.mem_append_left _ (List.mem_of_getElem? (i := 24) (by decide +kernel)), tw_1, rfl, by decide +kernel, by decide +kernel, by decide +kernel⟩
theorem dX9_isTold_0 : decode cX9_isTold 0 = .ok (.iconst 0, 1) := by decide +kernel
theorem dX9_isTold_1 : decode cX9_isTold 1 = .ok (.istore_n 1, 1) := by decide +kernel
theorem dX9_isTold_2 : decode cX9_isTold 2 = .ok (.iload_n 1, 1) := by decide +kernel
theorem dX9_isTold_3 : decode cX9_isTold 3 = .ok (.aload_n 0, 1) := by decide +kernel
theorem dX9_isTold_4 : decode cX9_isTold 4 = .ok (.getfield 10, 3) := by decide +kernel
theorem dX9_isTold_7 : decode cX9_isTold 7 = .ok (.getfield 161, 3) := by decide +kernel
theorem dX9_isTold_10 : decode cX9_isTold 10 = .ok (.getfield 238, 3) := by decide +kernel
theorem dX9_isTold_13 : decode cX9_isTold 13 = .ok (.if_icmp .ge 30, 3) := by decide +kernel
theorem dX9_isTold_16 : decode cX9_isTold 16 = .ok (.aload_n 0, 1) := by decide +kernel
theorem dX9_isTold_17 : decode cX9_isTold 17 = .ok (.getfield 10, 3) := by decide +kernel
theorem dX9_isTold_20 : decode cX9_isTold 20 = .ok (.iload_n 1, 1) := by decide +kernel
theorem dX9_isTold_21 : decode cX9_isTold 21 = .ok (.invokevirtual 250, 3) := by decide +kernel
theorem dX9_isTold_24 : decode cX9_isTold 24 = .ok (.ifCond .eq 13, 3) := by decide +kernel
theorem dX9_isTold_27 : decode cX9_isTold 27 = .ok (.aload_n 0, 1) := by decide +kernel
theorem dX9_isTold_28 : decode cX9_isTold 28 = .ok (.iload_n 1, 1) := by decide +kernel
theorem dX9_isTold_29 : decode cX9_isTold 29 = .ok (.invokevirtual 253, 3) := by decide +kernel
theorem dX9_isTold_32 : decode cX9_isTold 32 = .ok (.ifCond .ne 5, 3) := by decide +kernel
theorem dX9_isTold_35 : decode cX9_isTold 35 = .ok (.iconst 0, 1) := by decide +kernel
theorem dX9_isTold_36 : decode cX9_isTold 36 = .ok (.ireturn, 1) := by decide +kernel
theorem dX9_isTold_37 : decode cX9_isTold 37 = .ok (.iinc 1 1, 3) := by decide +kernel
theorem dX9_isTold_40 : decode cX9_isTold 40 = .ok (.goto (-38), 3) := by decide +kernel
theorem dX9_isTold_43 : decode cX9_isTold 43 = .ok (.aload_n 0, 1) := by decide +kernel
theorem dX9_isTold_44 : decode cX9_isTold 44 = .ok (.getfield 10, 3) := by decide +kernel
theorem dX9_isTold_47 : decode cX9_isTold 47 = .ok (.getfield 256, 3) := by decide +kernel
theorem dX9_isTold_50 : decode cX9_isTold 50 = .ok (.aload_n 0, 1) := by decide +kernel
theorem dX9_isTold_51 : decode cX9_isTold 51 = .ok (.getfield 10, 3) := by decide +kernel
theorem dX9_isTold_54 : decode cX9_isTold 54 = .ok (.getfield 259, 3) := by decide +kernel
theorem dX9_isTold_57 : decode cX9_isTold 57 = .ok (.aload_n 0, 1) := by decide +kernel
theorem dX9_isTold_58 : decode cX9_isTold 58 = .ok (.getfield 10, 3) := by decide +kernel
theorem dX9_isTold_61 : decode cX9_isTold 61 = .ok (.getfield 262, 3) := by decide +kernel
theorem dX9_isTold_64 : decode cX9_isTold 64 = .ok (.iadd, 1) := by decide +kernel
theorem dX9_isTold_65 : decode cX9_isTold 65 = .ok (.aload_n 0, 1) := by decide +kernel
theorem dX9_isTold_66 : decode cX9_isTold 66 = .ok (.getfield 10, 3) := by decide +kernel
theorem dX9_isTold_69 : decode cX9_isTold 69 = .ok (.invokevirtual 265, 3) := by decide +kernel
theorem dX9_isTold_72 : decode cX9_isTold 72 = .ok (.iadd, 1) := by decide +kernel
theorem dX9_isTold_73 : decode cX9_isTold 73 = .ok (.if_icmp .ne 7, 3) := by decide +kernel
theorem dX9_isTold_76 : decode cX9_isTold 76 = .ok (.iconst 1, 1) := by decide +kernel
theorem dX9_isTold_77 : decode cX9_isTold 77 = .ok (.goto 4, 3) := by decide +kernel
theorem dX9_isTold_80 : decode cX9_isTold 80 = .ok (.iconst 0, 1) := by decide +kernel
theorem dX9_isTold_81 : decode cX9_isTold 81 = .ok (.ireturn, 1) := by decide +kernel
theorem vm_X9_isTold : aVm yX9_isTold RX9 cX9_isTold 2 (some .boolean) 0 := ⟨tw_1085, tw_1083, tw_1084, tw_1, rfl, by decide +kernel, by decide +kernel, by decide +kernel⟩
theorem dX9_dampest_0 : decode cX9_dampest 0 = .ok (.iconst 0, 1) := by decide +kernel
theorem dX9_dampest_1 : decode cX9_dampest 1 = .ok (.istore_n 2, 1) := by decide +kernel
theorem dX9_dampest_2 : decode cX9_dampest 2 = .ok (.iload_n 2, 1) := by decide +kernel
theorem dX9_dampest_3 : decode cX9_dampest 3 = .ok (.aload_n 0, 1) := by decide +kernel
theorem dX9_dampest_4 : decode cX9_dampest 4 = .ok (.getfield 10, 3) := by decide +kernel
theorem dX9_dampest_7 : decode cX9_dampest 7 = .ok (.getfield 96, 3) := by decide +kernel
theorem dX9_dampest_10 : decode cX9_dampest 10 = .ok (.getfield 200, 3) := by decide +kernel
theorem dX9_dampest_13 : decode cX9_dampest 13 = .ok (.if_icmp .ge 20, 3) := by decide +kernel
theorem dX9_dampest_16 : decode cX9_dampest 16 = .ok (.aload_n 0, 1) := by decide +kernel
theorem dX9_dampest_17 : decode cX9_dampest 17 = .ok (.iload_n 2, 1) := by decide +kernel
theorem dX9_dampest_18 : decode cX9_dampest 18 = .ok (.invokevirtual 231, 3) := by decide +kernel
theorem dX9_dampest_21 : decode cX9_dampest 21 = .ok (.iload_n 1, 1) := by decide +kernel
theorem dX9_dampest_22 : decode cX9_dampest 22 = .ok (.if_icmp .ne 5, 3) := by decide +kernel
theorem dX9_dampest_25 : decode cX9_dampest 25 = .ok (.iload_n 2, 1) := by decide +kernel
theorem dX9_dampest_26 : decode cX9_dampest 26 = .ok (.ireturn, 1) := by decide +kernel
theorem dX9_dampest_27 : decode cX9_dampest 27 = .ok (.iinc 2 1, 3) := by decide +kernel
theorem dX9_dampest_30 : decode cX9_dampest 30 = .ok (.goto (-28), 3) := by decide +kernel
theorem dX9_dampest_33 : decode cX9_dampest 33 = .ok (.new 204, 3) := by decide +kernel
theorem dX9_dampest_36 : decode cX9_dampest 36 = .ok (.dup, 1) := by decide +kernel
theorem dX9_dampest_37 : decode cX9_dampest 37 = .ok (.ldc 234, 2) := by decide +kernel
theorem dX9_dampest_39 : decode cX9_dampest 39 = .ok (.invokespecial 208, 3) := by decide +kernel
theorem dX9_dampest_42 : decode cX9_dampest 42 = .ok (.athrow, 1) := by decide +kernel
theorem vm_X9_dampest : aVm yX9_dampest RX9 cX9_dampest 3 (some .int) 1 := ⟨tw_617, tw_615, tw_616, tw_1, rfl, by decide +kernel, by decide +kernel, by decide +kernel⟩
theorem dX9_ranked_0 : decode cX9_ranked 0 = .ok (.iload_n 1, 1) := by decide +kernel
theorem dX9_ranked_1 : decode cX9_ranked 1 = .ok (.ifCond .lt 8, 3) := by decide +kernel
theorem dX9_ranked_4 : decode cX9_ranked 4 = .ok (.iload_n 1, 1) := by decide +kernel
theorem dX9_ranked_5 : decode cX9_ranked 5 = .ok (.iconst 3, 1) := by decide +kernel
theorem dX9_ranked_6 : decode cX9_ranked 6 = .ok (.if_icmp .le 13, 3) := by decide +kernel
theorem dX9_ranked_9 : decode cX9_ranked 9 = .ok (.new 127, 3) := by decide +kernel
theorem dX9_ranked_12 : decode cX9_ranked 12 = .ok (.dup, 1) := by decide +kernel
theorem dX9_ranked_13 : decode cX9_ranked 13 = .ok (.ldc 236, 2) := by decide +kernel
theorem dX9_ranked_15 : decode cX9_ranked 15 = .ok (.invokespecial 131, 3) := by decide +kernel
theorem dX9_ranked_18 : decode cX9_ranked 18 = .ok (.athrow, 1) := by decide +kernel
theorem dX9_ranked_19 : decode cX9_ranked 19 = .ok (.iconst 0, 1) := by decide +kernel
theorem dX9_ranked_20 : decode cX9_ranked 20 = .ok (.istore_n 3, 1) := by decide +kernel
theorem dX9_ranked_21 : decode cX9_ranked 21 = .ok (.iload_n 3, 1) := by decide +kernel
theorem dX9_ranked_22 : decode cX9_ranked 22 = .ok (.aload_n 0, 1) := by decide +kernel
theorem dX9_ranked_23 : decode cX9_ranked 23 = .ok (.getfield 10, 3) := by decide +kernel
theorem dX9_ranked_26 : decode cX9_ranked 26 = .ok (.getfield 161, 3) := by decide +kernel
theorem dX9_ranked_29 : decode cX9_ranked 29 = .ok (.getfield 238, 3) := by decide +kernel
theorem dX9_ranked_32 : decode cX9_ranked 32 = .ok (.if_icmp .ge 21, 3) := by decide +kernel
theorem dX9_ranked_35 : decode cX9_ranked 35 = .ok (.aload_n 0, 1) := by decide +kernel
theorem dX9_ranked_36 : decode cX9_ranked 36 = .ok (.iload_n 1, 1) := by decide +kernel
theorem dX9_ranked_37 : decode cX9_ranked 37 = .ok (.iload_n 3, 1) := by decide +kernel
theorem dX9_ranked_38 : decode cX9_ranked 38 = .ok (.invokevirtual 239, 3) := by decide +kernel
theorem dX9_ranked_41 : decode cX9_ranked 41 = .ok (.iload_n 2, 1) := by decide +kernel
theorem dX9_ranked_42 : decode cX9_ranked 42 = .ok (.if_icmp .ne 5, 3) := by decide +kernel
theorem dX9_ranked_45 : decode cX9_ranked 45 = .ok (.iload_n 3, 1) := by decide +kernel
theorem dX9_ranked_46 : decode cX9_ranked 46 = .ok (.ireturn, 1) := by decide +kernel
theorem dX9_ranked_47 : decode cX9_ranked 47 = .ok (.iinc 3 1, 3) := by decide +kernel
theorem dX9_ranked_50 : decode cX9_ranked 50 = .ok (.goto (-29), 3) := by decide +kernel
theorem dX9_ranked_53 : decode cX9_ranked 53 = .ok (.new 204, 3) := by decide +kernel
theorem dX9_ranked_56 : decode cX9_ranked 56 = .ok (.dup, 1) := by decide +kernel
theorem dX9_ranked_57 : decode cX9_ranked 57 = .ok (.ldc 242, 2) := by decide +kernel
theorem dX9_ranked_59 : decode cX9_ranked 59 = .ok (.invokespecial 208, 3) := by decide +kernel
theorem dX9_ranked_62 : decode cX9_ranked 62 = .ok (.athrow, 1) := by decide +kernel
theorem vm_X9_ranked : aVm yX9_ranked RX9 cX9_ranked 4 (some .int) 2 := ⟨tw_630, tw_628, tw_629, tw_1, rfl, by decide +kernel, by decide +kernel, by decide +kernel⟩
theorem dX9_strongest_0 : decode cX9_strongest 0 = .ok (.iconst 0, 1) := by decide +kernel
theorem dX9_strongest_1 : decode cX9_strongest 1 = .ok (.istore_n 2, 1) := by decide +kernel
theorem dX9_strongest_2 : decode cX9_strongest 2 = .ok (.iload_n 2, 1) := by decide +kernel
theorem dX9_strongest_3 : decode cX9_strongest 3 = .ok (.aload_n 0, 1) := by decide +kernel
theorem dX9_strongest_4 : decode cX9_strongest 4 = .ok (.getfield 10, 3) := by decide +kernel
theorem dX9_strongest_7 : decode cX9_strongest 7 = .ok (.getfield 137, 3) := by decide +kernel
theorem dX9_strongest_10 : decode cX9_strongest 10 = .ok (.getfield 244, 3) := by decide +kernel
theorem dX9_strongest_13 : decode cX9_strongest 13 = .ok (.if_icmp .ge 20, 3) := by decide +kernel
theorem dX9_strongest_16 : decode cX9_strongest 16 = .ok (.aload_n 0, 1) := by decide +kernel
theorem dX9_strongest_17 : decode cX9_strongest 17 = .ok (.iload_n 2, 1) := by decide +kernel
theorem dX9_strongest_18 : decode cX9_strongest 18 = .ok (.invokevirtual 245, 3) := by decide +kernel
theorem dX9_strongest_21 : decode cX9_strongest 21 = .ok (.iload_n 1, 1) := by decide +kernel
theorem dX9_strongest_22 : decode cX9_strongest 22 = .ok (.if_icmp .ne 5, 3) := by decide +kernel
theorem dX9_strongest_25 : decode cX9_strongest 25 = .ok (.iload_n 2, 1) := by decide +kernel
theorem dX9_strongest_26 : decode cX9_strongest 26 = .ok (.ireturn, 1) := by decide +kernel
theorem dX9_strongest_27 : decode cX9_strongest 27 = .ok (.iinc 2 1, 3) := by decide +kernel
theorem dX9_strongest_30 : decode cX9_strongest 30 = .ok (.goto (-28), 3) := by decide +kernel
theorem dX9_strongest_33 : decode cX9_strongest 33 = .ok (.new 204, 3) := by decide +kernel
theorem dX9_strongest_36 : decode cX9_strongest 36 = .ok (.dup, 1) := by decide +kernel
theorem dX9_strongest_37 : decode cX9_strongest 37 = .ok (.ldc 248, 2) := by decide +kernel
theorem dX9_strongest_39 : decode cX9_strongest 39 = .ok (.invokespecial 208, 3) := by decide +kernel
theorem dX9_strongest_42 : decode cX9_strongest 42 = .ok (.athrow, 1) := by decide +kernel
theorem vm_X9_strongest : aVm yX9_strongest RX9 cX9_strongest 3 (some .int) 1 := ⟨tw_644, tw_642, tw_643, tw_1, rfl, by decide +kernel, by decide +kernel, by decide +kernel⟩
theorem dX9_account_0 : decode cX9_account 0 = .ok (.iload_n 1, 1) := by decide +kernel
theorem dX9_account_1 : decode cX9_account 1 = .ok (.tableswitch 192 0 13 #[71, 82, 93, 104, 112, 120, 128, 136, 144, 152, 160, 168, 176, 184], 71) := by decide +kernel
theorem dX9_account_72 : decode cX9_account 72 = .ok (.aload_n 0, 1) := by decide +kernel
theorem dX9_account_73 : decode cX9_account 73 = .ok (.getfield 10, 3) := by decide +kernel
theorem dX9_account_76 : decode cX9_account 76 = .ok (.getfield 96, 3) := by decide +kernel
theorem dX9_account_79 : decode cX9_account 79 = .ok (.getfield 200, 3) := by decide +kernel
theorem dX9_account_82 : decode cX9_account 82 = .ok (.ireturn, 1) := by decide +kernel
theorem dX9_account_83 : decode cX9_account 83 = .ok (.aload_n 0, 1) := by decide +kernel
theorem dX9_account_84 : decode cX9_account 84 = .ok (.getfield 10, 3) := by decide +kernel
theorem dX9_account_87 : decode cX9_account 87 = .ok (.getfield 137, 3) := by decide +kernel
theorem dX9_account_90 : decode cX9_account 90 = .ok (.getfield 244, 3) := by decide +kernel
theorem dX9_account_93 : decode cX9_account 93 = .ok (.ireturn, 1) := by decide +kernel
theorem dX9_account_94 : decode cX9_account 94 = .ok (.aload_n 0, 1) := by decide +kernel
theorem dX9_account_95 : decode cX9_account 95 = .ok (.getfield 10, 3) := by decide +kernel
theorem dX9_account_98 : decode cX9_account 98 = .ok (.getfield 161, 3) := by decide +kernel
theorem dX9_account_101 : decode cX9_account 101 = .ok (.getfield 238, 3) := by decide +kernel
theorem dX9_account_104 : decode cX9_account 104 = .ok (.ireturn, 1) := by decide +kernel
theorem dX9_account_105 : decode cX9_account 105 = .ok (.aload_n 0, 1) := by decide +kernel
theorem dX9_account_106 : decode cX9_account 106 = .ok (.getfield 10, 3) := by decide +kernel
theorem dX9_account_109 : decode cX9_account 109 = .ok (.invokevirtual 354, 3) := by decide +kernel
theorem dX9_account_112 : decode cX9_account 112 = .ok (.ireturn, 1) := by decide +kernel
theorem dX9_account_113 : decode cX9_account 113 = .ok (.aload_n 0, 1) := by decide +kernel
theorem dX9_account_114 : decode cX9_account 114 = .ok (.getfield 10, 3) := by decide +kernel
theorem dX9_account_117 : decode cX9_account 117 = .ok (.getfield 357, 3) := by decide +kernel
theorem dX9_account_120 : decode cX9_account 120 = .ok (.ireturn, 1) := by decide +kernel
theorem dX9_account_121 : decode cX9_account 121 = .ok (.aload_n 0, 1) := by decide +kernel
theorem dX9_account_122 : decode cX9_account 122 = .ok (.getfield 10, 3) := by decide +kernel
theorem dX9_account_125 : decode cX9_account 125 = .ok (.invokevirtual 360, 3) := by decide +kernel
theorem dX9_account_128 : decode cX9_account 128 = .ok (.ireturn, 1) := by decide +kernel
theorem dX9_account_129 : decode cX9_account 129 = .ok (.aload_n 0, 1) := by decide +kernel
theorem dX9_account_130 : decode cX9_account 130 = .ok (.getfield 10, 3) := by decide +kernel
theorem dX9_account_133 : decode cX9_account 133 = .ok (.invokevirtual 363, 3) := by decide +kernel
theorem dX9_account_136 : decode cX9_account 136 = .ok (.ireturn, 1) := by decide +kernel
theorem dX9_account_137 : decode cX9_account 137 = .ok (.aload_n 0, 1) := by decide +kernel
theorem dX9_account_138 : decode cX9_account 138 = .ok (.getfield 10, 3) := by decide +kernel
theorem dX9_account_141 : decode cX9_account 141 = .ok (.invokevirtual 366, 3) := by decide +kernel
theorem dX9_account_144 : decode cX9_account 144 = .ok (.ireturn, 1) := by decide +kernel
theorem dX9_account_145 : decode cX9_account 145 = .ok (.aload_n 0, 1) := by decide +kernel
theorem dX9_account_146 : decode cX9_account 146 = .ok (.getfield 10, 3) := by decide +kernel
theorem dX9_account_149 : decode cX9_account 149 = .ok (.getfield 256, 3) := by decide +kernel
theorem dX9_account_152 : decode cX9_account 152 = .ok (.ireturn, 1) := by decide +kernel
theorem dX9_account_153 : decode cX9_account 153 = .ok (.aload_n 0, 1) := by decide +kernel
theorem dX9_account_154 : decode cX9_account 154 = .ok (.getfield 10, 3) := by decide +kernel
theorem dX9_account_157 : decode cX9_account 157 = .ok (.getfield 259, 3) := by decide +kernel
theorem dX9_account_160 : decode cX9_account 160 = .ok (.ireturn, 1) := by decide +kernel
theorem dX9_account_161 : decode cX9_account 161 = .ok (.aload_n 0, 1) := by decide +kernel
theorem dX9_account_162 : decode cX9_account 162 = .ok (.getfield 10, 3) := by decide +kernel
theorem dX9_account_165 : decode cX9_account 165 = .ok (.getfield 262, 3) := by decide +kernel
theorem dX9_account_168 : decode cX9_account 168 = .ok (.ireturn, 1) := by decide +kernel
theorem dX9_account_169 : decode cX9_account 169 = .ok (.aload_n 0, 1) := by decide +kernel
theorem dX9_account_170 : decode cX9_account 170 = .ok (.getfield 10, 3) := by decide +kernel
theorem dX9_account_173 : decode cX9_account 173 = .ok (.invokevirtual 265, 3) := by decide +kernel
theorem dX9_account_176 : decode cX9_account 176 = .ok (.ireturn, 1) := by decide +kernel
theorem dX9_account_177 : decode cX9_account 177 = .ok (.aload_n 0, 1) := by decide +kernel
theorem dX9_account_178 : decode cX9_account 178 = .ok (.getfield 32, 3) := by decide +kernel
theorem dX9_account_181 : decode cX9_account 181 = .ok (.getfield 270, 3) := by decide +kernel
theorem dX9_account_184 : decode cX9_account 184 = .ok (.ireturn, 1) := by decide +kernel
theorem dX9_account_185 : decode cX9_account 185 = .ok (.aload_n 0, 1) := by decide +kernel
theorem dX9_account_186 : decode cX9_account 186 = .ok (.getfield 25, 3) := by decide +kernel
theorem dX9_account_189 : decode cX9_account 189 = .ok (.getfield 369, 3) := by decide +kernel
theorem dX9_account_192 : decode cX9_account 192 = .ok (.ireturn, 1) := by decide +kernel
theorem dX9_account_193 : decode cX9_account 193 = .ok (.new 127, 3) := by decide +kernel
theorem dX9_account_196 : decode cX9_account 196 = .ok (.dup, 1) := by decide +kernel
theorem dX9_account_197 : decode cX9_account 197 = .ok (.ldc_w 370, 3) := by decide +kernel
theorem dX9_account_200 : decode cX9_account 200 = .ok (.invokespecial 131, 3) := by decide +kernel
theorem dX9_account_203 : decode cX9_account 203 = .ok (.athrow, 1) := by decide +kernel
theorem vm_X9_account : aVm yX9_account RX9 cX9_account 2 (some .int) 1 := ⟨tw_330, tw_328, tw_329, tw_1, rfl, by decide +kernel, by decide +kernel, by decide +kernel⟩
theorem dX9_meanDamp_0 : decode cX9_meanDamp 0 = .ok (.aload_n 0, 1) := by decide +kernel
theorem dX9_meanDamp_1 : decode cX9_meanDamp 1 = .ok (.getfield 10, 3) := by decide +kernel
theorem dX9_meanDamp_4 : decode cX9_meanDamp 4 = .ok (.getfield 96, 3) := by decide +kernel
theorem dX9_meanDamp_7 : decode cX9_meanDamp 7 = .ok (.getfield 200, 3) := by decide +kernel
theorem dX9_meanDamp_10 : decode cX9_meanDamp 10 = .ok (.ifCond .ne 13, 3) := by decide +kernel
theorem dX9_meanDamp_13 : decode cX9_meanDamp 13 = .ok (.new 372, 3) := by decide +kernel
theorem dX9_meanDamp_16 : decode cX9_meanDamp 16 = .ok (.dup, 1) := by decide +kernel
theorem dX9_meanDamp_17 : decode cX9_meanDamp 17 = .ok (.ldc 206, 2) := by decide +kernel
theorem dX9_meanDamp_19 : decode cX9_meanDamp 19 = .ok (.invokespecial 374, 3) := by decide +kernel
theorem dX9_meanDamp_22 : decode cX9_meanDamp 22 = .ok (.athrow, 1) := by decide +kernel
theorem dX9_meanDamp_23 : decode cX9_meanDamp 23 = .ok (.aload_n 0, 1) := by decide +kernel
theorem dX9_meanDamp_24 : decode cX9_meanDamp 24 = .ok (.getfield 10, 3) := by decide +kernel
theorem dX9_meanDamp_27 : decode cX9_meanDamp 27 = .ok (.invokevirtual 360, 3) := by decide +kernel
theorem dX9_meanDamp_30 : decode cX9_meanDamp 30 = .ok (.i2d, 1) := by decide +kernel
theorem dX9_meanDamp_31 : decode cX9_meanDamp 31 = .ok (.aload_n 0, 1) := by decide +kernel
theorem dX9_meanDamp_32 : decode cX9_meanDamp 32 = .ok (.getfield 10, 3) := by decide +kernel
theorem dX9_meanDamp_35 : decode cX9_meanDamp 35 = .ok (.getfield 96, 3) := by decide +kernel
theorem dX9_meanDamp_38 : decode cX9_meanDamp 38 = .ok (.getfield 200, 3) := by decide +kernel
theorem dX9_meanDamp_41 : decode cX9_meanDamp 41 = .ok (.i2d, 1) := by decide +kernel
theorem dX9_meanDamp_42 : decode cX9_meanDamp 42 = .ok (.ddiv, 1) := by decide +kernel
theorem dX9_meanDamp_43 : decode cX9_meanDamp 43 = .ok (.dreturn, 1) := by decide +kernel
theorem vm_X9_meanDamp : aVm yX9_meanDamp RX9 cX9_meanDamp 1 (some .double) 0 := ⟨tw_1060, tw_1058, tw_1059, tw_1, rfl, by decide +kernel, by decide +kernel, by decide +kernel⟩
theorem dX9_letShare_0 : decode cX9_letShare 0 = .ok (.aload_n 0, 1) := by decide +kernel
theorem dX9_letShare_1 : decode cX9_letShare 1 = .ok (.getfield 10, 3) := by decide +kernel
theorem dX9_letShare_4 : decode cX9_letShare 4 = .ok (.getfield 137, 3) := by decide +kernel
theorem dX9_letShare_7 : decode cX9_letShare 7 = .ok (.getfield 244, 3) := by decide +kernel
theorem dX9_letShare_10 : decode cX9_letShare 10 = .ok (.ifCond .ne 14, 3) := by decide +kernel
theorem dX9_letShare_13 : decode cX9_letShare 13 = .ok (.new 372, 3) := by decide +kernel
theorem dX9_letShare_16 : decode cX9_letShare 16 = .ok (.dup, 1) := by decide +kernel
theorem dX9_letShare_17 : decode cX9_letShare 17 = .ok (.ldc_w 375, 3) := by decide +kernel
theorem dX9_letShare_20 : decode cX9_letShare 20 = .ok (.invokespecial 374, 3) := by decide +kernel
theorem dX9_letShare_23 : decode cX9_letShare 23 = .ok (.athrow, 1) := by decide +kernel
theorem dX9_letShare_24 : decode cX9_letShare 24 = .ok (.aload_n 0, 1) := by decide +kernel
theorem dX9_letShare_25 : decode cX9_letShare 25 = .ok (.getfield 10, 3) := by decide +kernel
theorem dX9_letShare_28 : decode cX9_letShare 28 = .ok (.invokevirtual 354, 3) := by decide +kernel
theorem dX9_letShare_31 : decode cX9_letShare 31 = .ok (.i2f, 1) := by decide +kernel
theorem dX9_letShare_32 : decode cX9_letShare 32 = .ok (.aload_n 0, 1) := by decide +kernel
theorem dX9_letShare_33 : decode cX9_letShare 33 = .ok (.getfield 10, 3) := by decide +kernel
theorem dX9_letShare_36 : decode cX9_letShare 36 = .ok (.getfield 137, 3) := by decide +kernel
theorem dX9_letShare_39 : decode cX9_letShare 39 = .ok (.getfield 244, 3) := by decide +kernel
theorem dX9_letShare_42 : decode cX9_letShare 42 = .ok (.i2f, 1) := by decide +kernel
theorem dX9_letShare_43 : decode cX9_letShare 43 = .ok (.fdiv, 1) := by decide +kernel
theorem dX9_letShare_44 : decode cX9_letShare 44 = .ok (.freturn, 1) := by decide +kernel
theorem vm_X9_letShare : aVm yX9_letShare RX9 cX9_letShare 1 (some .float) 0 := ⟨tw_1093, tw_1091, tw_1092, tw_1, rfl, by decide +kernel, by decide +kernel, by decide +kernel⟩
def w_X9_isDamperThan (x1 : Int32) (x2 : Int32) (q : aS) (P : Int32 → aS → Prop) : Prop := (vp_in x1 6 ∧ (vp_in x2 6 ∧ (((q.1 4 (Int32.toNatClampNeg x1)) = (q.1 4 (Int32.toNatClampNeg x2)) → w_X8_singersIn x1 q (fun r3 q4 => w_J6_bitCount_0f7a4 r3 q4 (fun r5 q6 => w_X8_singersIn x2 q6 (fun r7 q8 => w_J6_bitCount_0f7a4 r7 q8 (fun r9 q10 => ((r5 = r9 → ((x2 ≤ x1 → P 0 q10) ∧ (¬ x2 ≤ x1 → P 1 q10))) ∧ (¬ r5 = r9 → ((r5 ≤ r9 → P 0 q10) ∧ (¬ r5 ≤ r9 → P 1 q10))))))))) ∧ (¬ (q.1 4 (Int32.toNatClampNeg x1)) = (q.1 4 (Int32.toNatClampNeg x2)) → (vp_in x1 6 ∧ (vp_in x2 6 ∧ (((q.1 4 (Int32.toNatClampNeg x1)) ≤ (q.1 4 (Int32.toNatClampNeg x2)) → P 0 q) ∧ (¬ (q.1 4 (Int32.toNatClampNeg x1)) ≤ (q.1 4 (Int32.toNatClampNeg x2)) → P 1 q))))))))
def LX9_countRoomsAhead_4 (c1 : Int32) (P : Int32 → aS → Prop) (K : Int32 → aS → Prop) : Nat → Int32 → Int32 → aS → Prop
  | 0, _, _, _ => False
  | N + 1, v2, v3, q => (((q.1 2 0) ≤ v3 → K v2 q) ∧ (¬ (q.1 2 0) ≤ v3 → ((v3 = c1 → ∀ x2 : Int32, x2 = v3 + 1 → (LX9_countRoomsAhead_4 c1 P K N) v2 x2 q) ∧ (¬ v3 = c1 → w_X9_isDamperThan v3 c1 q (fun r3 q4 => ((r3 = 0 → ∀ x5 : Int32, x5 = v3 + 1 → (LX9_countRoomsAhead_4 c1 P K N) v2 x5 q4) ∧ (¬ r3 = 0 → ∀ x6 : Int32, x6 = v2 + 1 → ∀ x7 : Int32, x7 = v3 + 1 → (LX9_countRoomsAhead_4 c1 P K N) x6 x7 q4)))))))
def w_X9_countRoomsAhead (x1 : Int32) (q : aS) (P : Int32 → aS → Prop) : Prop := ∃ M10, LX9_countRoomsAhead_4 x1 P (fun y8 q9 => P y8 q9) M10 0 0 q
def w_X9_rankedValue (x1 : Int32) (x2 : Int32) (q : aS) (P : Int32 → aS → Prop) : Prop := ((x1 = 0 → (vp_in x2 6 ∧ P (q.1 14 (Int32.toNatClampNeg x2)) q)) ∧ (¬ x1 = 0 → ((x1 = 1 → (vp_in x2 6 ∧ P (q.1 17 (Int32.toNatClampNeg x2)) q)) ∧ (¬ x1 = 1 → ((x1 = 2 → (vp_in x2 6 ∧ P (q.1 16 (Int32.toNatClampNeg x2)) q)) ∧ (¬ x1 = 2 → (vp_in x2 6 ∧ P (q.1 13 (Int32.toNatClampNeg x2)) q)))))))
def LX9_countSingersAhead_13 (c1 : Int32) (c2 : Int32) (c3 : Int32) (P : Int32 → aS → Prop) (K : Int32 → aS → Prop) : Nat → Int32 → Int32 → aS → Prop
  | 0, _, _, _ => False
  | N + 1, v4, v5, q => (((q.1 12 0) ≤ v5 → K v4 q) ∧ (¬ (q.1 12 0) ≤ v5 → w_X9_rankedValue c1 v5 q (fun r5 q6 => ((c3 < r5 → ∀ x7 : Int32, x7 = v4 + 1 → ∀ x8 : Int32, x8 = v5 + 1 → (LX9_countSingersAhead_13 c1 c2 c3 P K N) x7 x8 q6) ∧ (¬ c3 < r5 → ((¬ r5 = c3 → ∀ x9 : Int32, x9 = v5 + 1 → (LX9_countSingersAhead_13 c1 c2 c3 P K N) v4 x9 q6) ∧ (r5 = c3 → ((c2 ≤ v5 → ∀ x10 : Int32, x10 = v5 + 1 → (LX9_countSingersAhead_13 c1 c2 c3 P K N) v4 x10 q6) ∧ (¬ c2 ≤ v5 → ∀ x11 : Int32, x11 = v4 + 1 → ∀ x12 : Int32, x12 = v5 + 1 → (LX9_countSingersAhead_13 c1 c2 c3 P K N) x11 x12 q6)))))))))
def w_X9_countSingersAhead (x1 : Int32) (x2 : Int32) (q : aS) (P : Int32 → aS → Prop) : Prop := w_X9_rankedValue x1 x2 q (fun r3 q4 => ∃ M15, LX9_countSingersAhead_13 x1 x2 r3 P (fun y13 q14 => P y13 q14) M15 0 0 q4)
def w_X9_isStrongerThan (x1 : Int32) (x2 : Int32) (q : aS) (P : Int32 → aS → Prop) : Prop := (vp_in x1 8 ∧ (vp_in x2 8 ∧ (((q.1 8 (Int32.toNatClampNeg x1)) = (q.1 8 (Int32.toNatClampNeg x2)) → w_X8_isLet x1 q (fun r3 q4 => w_X8_isLet x2 q4 (fun r5 q6 => ((r3 = r5 → ((x2 ≤ x1 → P 0 q6) ∧ (¬ x2 ≤ x1 → P 1 q6))) ∧ (¬ r3 = r5 → w_X8_isLet x2 q6 (fun r7 q8 => P r7 q8)))))) ∧ (¬ (q.1 8 (Int32.toNatClampNeg x1)) = (q.1 8 (Int32.toNatClampNeg x2)) → (vp_in x1 8 ∧ (vp_in x2 8 ∧ (((q.1 8 (Int32.toNatClampNeg x1)) ≤ (q.1 8 (Int32.toNatClampNeg x2)) → P 0 q) ∧ (¬ (q.1 8 (Int32.toNatClampNeg x1)) ≤ (q.1 8 (Int32.toNatClampNeg x2)) → P 1 q))))))))
def LX9_countEchoesAhead_4 (c1 : Int32) (P : Int32 → aS → Prop) (K : Int32 → aS → Prop) : Nat → Int32 → Int32 → aS → Prop
  | 0, _, _, _ => False
  | N + 1, v2, v3, q => (((q.1 6 0) ≤ v3 → K v2 q) ∧ (¬ (q.1 6 0) ≤ v3 → ((v3 = c1 → ∀ x2 : Int32, x2 = v3 + 1 → (LX9_countEchoesAhead_4 c1 P K N) v2 x2 q) ∧ (¬ v3 = c1 → w_X9_isStrongerThan v3 c1 q (fun r3 q4 => ((r3 = 0 → ∀ x5 : Int32, x5 = v3 + 1 → (LX9_countEchoesAhead_4 c1 P K N) v2 x5 q4) ∧ (¬ r3 = 0 → ∀ x6 : Int32, x6 = v2 + 1 → ∀ x7 : Int32, x7 = v3 + 1 → (LX9_countEchoesAhead_4 c1 P K N) x6 x7 q4)))))))
def w_X9_countEchoesAhead (x1 : Int32) (q : aS) (P : Int32 → aS → Prop) : Prop := ∃ M10, LX9_countEchoesAhead_4 x1 P (fun y8 q9 => P y8 q9) M10 0 0 q
def w_X9_bothWaysAgree (x1 : Int32) (q : aS) (P : Int32 → aS → Prop) : Prop := (vp_in x1 6 ∧ w_X8_tonesInRoom x1 (q.1 15 (Int32.toNatClampNeg x1)) q (fun r2 q3 => w_X8_tonesByStrength x1 q3 (fun r4 q5 => ((¬ r2 = r4 → P 0 q5) ∧ (r2 = r4 → w_X8_versesInThought x1 q5 (fun r6 q7 => w_X8_versesByEcho x1 q7 (fun r8 q9 => ((¬ r6 = r8 → P 0 q9) ∧ (r6 = r8 → P 1 q9)))))))))
def LX9_isTold_2 (P : Int32 → aS → Prop) (K : aS → Prop) : Nat → Int32 → aS → Prop
  | 0, _, _ => False
  | N + 1, v1, q => (((q.1 12 0) ≤ v1 → K  q) ∧ (¬ (q.1 12 0) ≤ v1 → w_X8_isInside v1 q (fun r1 q2 => ((r1 = 0 → ∀ x3 : Int32, x3 = v1 + 1 → (LX9_isTold_2 P K N) x3 q2) ∧ (¬ r1 = 0 → w_X9_bothWaysAgree v1 q2 (fun r4 q5 => ((¬ r4 = 0 → ∀ x6 : Int32, x6 = v1 + 1 → (LX9_isTold_2 P K N) x6 q5) ∧ (r4 = 0 → P 0 q5))))))))
def w_X9_isTold (q : aS) (P : Int32 → aS → Prop) : Prop := ∃ M10, LX9_isTold_2 P (fun q7 => w_X8_heldOfAll q7 (fun r8 q9 => ((¬ (q7.1 1 4) = (((q7.1 1 5) + (q7.1 1 6)) + r8) → P 0 q9) ∧ ((q7.1 1 4) = (((q7.1 1 5) + (q7.1 1 6)) + r8) → P 1 q9)))) M10 0 q
def LX9_dampest_2 (c1 : Int32) (P : Int32 → aS → Prop) (X : String → aS → Prop) (K : aS → Prop) : Nat → Int32 → aS → Prop
  | 0, _, _ => False
  | N + 1, v2, q => (((q.1 2 0) ≤ v2 → K  q) ∧ (¬ (q.1 2 0) ≤ v2 → w_X9_countRoomsAhead v2 q (fun r2 q3 => ((¬ r2 = c1 → ∀ x4 : Int32, x4 = v2 + 1 → (LX9_dampest_2 c1 P X K N) x4 q3) ∧ (r2 = c1 → P v2 q3)))))
def w_X9_dampest (x1 : Int32) (q : aS) (P : Int32 → aS → Prop) (X : String → aS → Prop) : Prop := ∃ M6, LX9_dampest_2 x1 P X (fun q5 => X "java/util/NoSuchElementException" q5) M6 0 q
def JX9_ranked_9 (P : Int32 → aS → Prop) (X : String → aS → Prop) (q : aS) : Prop := X "java/lang/IllegalArgumentException" q
def LX9_ranked_21 (c1 : Int32) (c2 : Int32) (P : Int32 → aS → Prop) (X : String → aS → Prop) (K : aS → Prop) : Nat → Int32 → aS → Prop
  | 0, _, _ => False
  | N + 1, v3, q => (((q.1 12 0) ≤ v3 → K  q) ∧ (¬ (q.1 12 0) ≤ v3 → w_X9_countSingersAhead c1 v3 q (fun r3 q4 => ((¬ r3 = c2 → ∀ x5 : Int32, x5 = v3 + 1 → (LX9_ranked_21 c1 c2 P X K N) x5 q4) ∧ (r3 = c2 → P v3 q4)))))
def w_X9_ranked (x1 : Int32) (x2 : Int32) (q : aS) (P : Int32 → aS → Prop) (X : String → aS → Prop) : Prop := ((x1 < 0 → JX9_ranked_9 P X q) ∧ (¬ x1 < 0 → ((x1 ≤ 3 → ∃ M7, LX9_ranked_21 x1 x2 P X (fun q6 => X "java/util/NoSuchElementException" q6) M7 0 q) ∧ (¬ x1 ≤ 3 → JX9_ranked_9 P X q))))
def LX9_strongest_2 (c1 : Int32) (P : Int32 → aS → Prop) (X : String → aS → Prop) (K : aS → Prop) : Nat → Int32 → aS → Prop
  | 0, _, _ => False
  | N + 1, v2, q => (((q.1 6 0) ≤ v2 → K  q) ∧ (¬ (q.1 6 0) ≤ v2 → w_X9_countEchoesAhead v2 q (fun r2 q3 => ((¬ r2 = c1 → ∀ x4 : Int32, x4 = v2 + 1 → (LX9_strongest_2 c1 P X K N) x4 q3) ∧ (r2 = c1 → P v2 q3)))))
def w_X9_strongest (x1 : Int32) (q : aS) (P : Int32 → aS → Prop) (X : String → aS → Prop) : Prop := ∃ M6, LX9_strongest_2 x1 P X (fun q5 => X "java/util/NoSuchElementException" q5) M6 0 q
def w_X9_account (x1 : Int32) (q : aS) (P : Int32 → aS → Prop) (X : String → aS → Prop) : Prop := ((x1 = 0 → P (q.1 2 0) q) ∧ (¬ x1 = 0 → ((x1 = 1 → P (q.1 6 0) q) ∧ (¬ x1 = 1 → ((x1 = 2 → P (q.1 12 0) q) ∧ (¬ x1 = 2 → ((x1 = 3 → w_X8_countLet q (fun r2 q3 => P r2 q3)) ∧ (¬ x1 = 3 → ((x1 = 4 → P (q.1 1 3) q) ∧ (¬ x1 = 4 → ((x1 = 5 → w_X8_dampOfAll q (fun r4 q5 => P r4 q5)) ∧ (¬ x1 = 5 → ((x1 = 6 → w_X8_versesOfAll q (fun r6 q7 => P r6 q7)) ∧ (¬ x1 = 6 → ((x1 = 7 → w_X8_tonesOfAll q (fun r8 q9 => P r8 q9)) ∧ (¬ x1 = 7 → ((x1 = 8 → P (q.1 1 4) q) ∧ (¬ x1 = 8 → ((x1 = 9 → P (q.1 1 5) q) ∧ (¬ x1 = 9 → ((x1 = 10 → P (q.1 1 6) q) ∧ (¬ x1 = 10 → ((x1 = 11 → w_X8_heldOfAll q (fun r10 q11 => P r10 q11)) ∧ (¬ x1 = 11 → ((x1 = 12 → P (q.1 190 1) q) ∧ (¬ x1 = 12 → ((x1 = 13 → P (q.1 52 2) q) ∧ (¬ x1 = 13 → X "java/lang/IllegalArgumentException" q))))))))))))))))))))))))))))
def w_X9_meanDamp (q : aS) (P : UInt64 → aS → Prop) (X : String → aS → Prop) : Prop := ((¬ (q.1 2 0) = 0 → w_X8_dampOfAll q (fun r1 q2 => (vf_n64 (FP.ddiv (FP.i2d r1) (FP.i2d (q2.1 2 0))) ∧ P (FP.ddiv (FP.i2d r1) (FP.i2d (q2.1 2 0))) q2))) ∧ ((q.1 2 0) = 0 → X "java/lang/ArithmeticException" q))
def w_X9_letShare (q : aS) (P : UInt32 → aS → Prop) (X : String → aS → Prop) : Prop := ((¬ (q.1 6 0) = 0 → w_X8_countLet q (fun r1 q2 => (vf_n32 (FP.fdiv (FP.i2f r1) (FP.i2f (q2.1 6 0))) ∧ P (FP.fdiv (FP.i2f r1) (FP.i2f (q2.1 6 0))) q2))) ∧ ((q.1 6 0) = 0 → X "java/lang/ArithmeticException" q))
set_option maxRecDepth 20000 in
theorem t_X9_isDamperThan {l : Launch} {g : aG} (hX : isX g) (hl : l.stackTraces = false) (x1 : Int32) (x2 : Int32) (q : aS) (P : Int32 → aS → Prop) (h : w_X9_isDamperThan x1 x2 q P) : aMi l g yX9_isDamperThan (aWs yX9_isDamperThan cX9_isDamperThan 5 (some .boolean)) 1 0 0 [.ref (gAd g 0), .int x1, .int x2] q (fun r u => (r = 0 ∨ r = 1) ∧ P r u) (fun _ _ => False) := by
  refine aMi_of RX9 ⟨by decide +kernel, rfl⟩ (cat_all rfl) (Nat.le_of_ble_eq_true rfl) hl hX.cl (fun f hR hC hE => ?_)
  show AW f g 0 [some (.ref (gAd g 0)), some (.int x1), some (.int x2), none, none] [] q 0 0
  unfold w_X9_isDamperThan at h
  refine a_aload_n (pc := 0) hC dX9_isDamperThan_0 rfl ?_
  refine a_get (pc := 1) hC cl_X9 (oX_0 hX) 0 (by decide) tw_303 rfl dX9_isDamperThan_1 ?_
  refine a_get (pc := 4) hC cl_X8 (oX_1 hX) 0 (by decide) tw_151 rfl dX9_isDamperThan_4 ?_
  refine a_get (pc := 7) hC cl_X6 (oX_2 hX) 2 (by decide) tw_61 rfl dX9_isDamperThan_7 ?_
  refine a_iload_n (pc := 10) hC dX9_isDamperThan_10 rfl ?_
  refine a_iald (pc := 11) hC (oX_4 hX) h.1 dX9_isDamperThan_11 ?_
  replace h := h.2
  refine a_aload_n (pc := 12) hC dX9_isDamperThan_12 rfl ?_
  refine a_get (pc := 13) hC cl_X9 (oX_0 hX) 0 (by decide) tw_303 rfl dX9_isDamperThan_13 ?_
  refine a_get (pc := 16) hC cl_X8 (oX_1 hX) 0 (by decide) tw_151 rfl dX9_isDamperThan_16 ?_
  refine a_get (pc := 19) hC cl_X6 (oX_2 hX) 2 (by decide) tw_61 rfl dX9_isDamperThan_19 ?_
  refine a_iload_n (pc := 22) hC dX9_isDamperThan_22 rfl ?_
  refine a_iald (pc := 23) hC (oX_4 hX) h.1 dX9_isDamperThan_23 ?_
  replace h := h.2
  refine a_icmp_eq (pc := 24) (tgt := 60) hC dX9_isDamperThan_24 (by decide) (fun c => ?_) (fun c => ?_)
  · replace h := h.1 c
    refine a_aload_n (pc := 60) hC dX9_isDamperThan_60 rfl ?_
    refine a_get (pc := 61) hC cl_X9 (oX_0 hX) 0 (by decide) tw_303 rfl dX9_isDamperThan_61 ?_
    refine a_iload_n (pc := 64) hC dX9_isDamperThan_64 rfl ?_
    refine a_callV (pc := 65) hC hR vm_X8_singersIn tw_487 cl_X8 (oX_1 hX) ⟨(Nat.le_of_ble_eq_true rfl), (Nat.le_of_ble_eq_true rfl), (Nat.le_of_ble_eq_true rfl), (Nat.le_of_ble_eq_true rfl)⟩ dX9_isDamperThan_65 (t_X8_singersIn hX hC.tr _ _ _ h) rfl rfl rfl (Nat.le_of_ble_eq_true rfl) (fun r3 q4 h => ?_)
    refine a_callS (pc := 68) hC hR sm_J6_bitCount_0f7a4 tw_491 ⟨(Nat.le_of_ble_eq_true rfl), (Nat.le_of_ble_eq_true rfl), (Nat.le_of_ble_eq_true rfl), (Nat.le_of_ble_eq_true rfl)⟩ dX9_isDamperThan_68 (t_J6_bitCount_0f7a4 hX.cl hC.tr _ _ _ h) rfl rfl rfl (Nat.le_of_ble_eq_true rfl) (fun r5 q6 h => ?_)
    refine a_istore_n (pc := 71) hC dX9_isDamperThan_71 (Nat.le_of_ble_eq_true rfl) ?_
    refine a_aload_n (pc := 72) hC dX9_isDamperThan_72 rfl ?_
    refine a_get (pc := 73) hC cl_X9 (oX_0 hX) 0 (by decide) tw_303 rfl dX9_isDamperThan_73 ?_
    refine a_iload_n (pc := 76) hC dX9_isDamperThan_76 rfl ?_
    refine a_callV (pc := 77) hC hR vm_X8_singersIn tw_487 cl_X8 (oX_1 hX) ⟨(Nat.le_of_ble_eq_true rfl), (Nat.le_of_ble_eq_true rfl), (Nat.le_of_ble_eq_true rfl), (Nat.le_of_ble_eq_true rfl)⟩ dX9_isDamperThan_77 (t_X8_singersIn hX hC.tr _ _ _ h) rfl rfl rfl (Nat.le_of_ble_eq_true rfl) (fun r7 q8 h => ?_)
    refine a_callS (pc := 80) hC hR sm_J6_bitCount_0f7a4 tw_491 ⟨(Nat.le_of_ble_eq_true rfl), (Nat.le_of_ble_eq_true rfl), (Nat.le_of_ble_eq_true rfl), (Nat.le_of_ble_eq_true rfl)⟩ dX9_isDamperThan_80 (t_J6_bitCount_0f7a4 hX.cl hC.tr _ _ _ h) rfl rfl rfl (Nat.le_of_ble_eq_true rfl) (fun r9 q10 h => ?_)
    refine a_istore (pc := 83) hC dX9_isDamperThan_83 (Nat.le_of_ble_eq_true rfl) ?_
    refine a_iload_n (pc := 85) hC dX9_isDamperThan_85 rfl ?_
    refine a_iload (pc := 86) hC dX9_isDamperThan_86 rfl ?_
    refine a_icmp_eq (pc := 88) (tgt := 103) hC dX9_isDamperThan_88 (by decide) (fun c => ?_) (fun c => ?_)
    · replace h := h.1 c
      refine a_iload_n (pc := 103) hC dX9_isDamperThan_103 rfl ?_
      refine a_iload_n (pc := 104) hC dX9_isDamperThan_104 rfl ?_
      refine a_icmp_ge (pc := 105) (tgt := 112) hC dX9_isDamperThan_105 (by decide) (fun c => ?_) (fun c => ?_)
      · replace h := h.1 c
        refine a_iconst (pc := 112) hC dX9_isDamperThan_112 (v := 0) rfl ?_
        exact a_bret (pc := 113) hC hE (Or.inl rfl) h (Nat.le_of_ble_eq_true rfl) (Nat.le_of_ble_eq_true rfl) dX9_isDamperThan_113
      · replace h := h.2 c
        refine a_iconst (pc := 108) hC dX9_isDamperThan_108 (v := 1) rfl ?_
        refine a_goto (pc := 109) (tgt := 113) hC dX9_isDamperThan_109 (by decide) ?_
        exact a_bret (pc := 113) hC hE (Or.inr rfl) h (Nat.le_of_ble_eq_true rfl) (Nat.le_of_ble_eq_true rfl) dX9_isDamperThan_113
    · replace h := h.2 c
      refine a_iload_n (pc := 91) hC dX9_isDamperThan_91 rfl ?_
      refine a_iload (pc := 92) hC dX9_isDamperThan_92 rfl ?_
      refine a_icmp_le (pc := 94) (tgt := 101) hC dX9_isDamperThan_94 (by decide) (fun c => ?_) (fun c => ?_)
      · replace h := h.1 c
        refine a_iconst (pc := 101) hC dX9_isDamperThan_101 (v := 0) rfl ?_
        exact a_bret (pc := 102) hC hE (Or.inl rfl) h (Nat.le_of_ble_eq_true rfl) (Nat.le_of_ble_eq_true rfl) dX9_isDamperThan_102
      · replace h := h.2 c
        refine a_iconst (pc := 97) hC dX9_isDamperThan_97 (v := 1) rfl ?_
        refine a_goto (pc := 98) (tgt := 102) hC dX9_isDamperThan_98 (by decide) ?_
        exact a_bret (pc := 102) hC hE (Or.inr rfl) h (Nat.le_of_ble_eq_true rfl) (Nat.le_of_ble_eq_true rfl) dX9_isDamperThan_102
  · replace h := h.2 c
    refine a_aload_n (pc := 27) hC dX9_isDamperThan_27 rfl ?_
    refine a_get (pc := 28) hC cl_X9 (oX_0 hX) 0 (by decide) tw_303 rfl dX9_isDamperThan_28 ?_
    refine a_get (pc := 31) hC cl_X8 (oX_1 hX) 0 (by decide) tw_151 rfl dX9_isDamperThan_31 ?_
    refine a_get (pc := 34) hC cl_X6 (oX_2 hX) 2 (by decide) tw_61 rfl dX9_isDamperThan_34 ?_
    refine a_iload_n (pc := 37) hC dX9_isDamperThan_37 rfl ?_
    refine a_iald (pc := 38) hC (oX_4 hX) h.1 dX9_isDamperThan_38 ?_
    replace h := h.2
    refine a_aload_n (pc := 39) hC dX9_isDamperThan_39 rfl ?_
    refine a_get (pc := 40) hC cl_X9 (oX_0 hX) 0 (by decide) tw_303 rfl dX9_isDamperThan_40 ?_
    refine a_get (pc := 43) hC cl_X8 (oX_1 hX) 0 (by decide) tw_151 rfl dX9_isDamperThan_43 ?_
    refine a_get (pc := 46) hC cl_X6 (oX_2 hX) 2 (by decide) tw_61 rfl dX9_isDamperThan_46 ?_
    refine a_iload_n (pc := 49) hC dX9_isDamperThan_49 rfl ?_
    refine a_iald (pc := 50) hC (oX_4 hX) h.1 dX9_isDamperThan_50 ?_
    replace h := h.2
    refine a_icmp_le (pc := 51) (tgt := 58) hC dX9_isDamperThan_51 (by decide) (fun c => ?_) (fun c => ?_)
    · replace h := h.1 c
      refine a_iconst (pc := 58) hC dX9_isDamperThan_58 (v := 0) rfl ?_
      exact a_bret (pc := 59) hC hE (Or.inl rfl) h (Nat.le_of_ble_eq_true rfl) (Nat.le_of_ble_eq_true rfl) dX9_isDamperThan_59
    · replace h := h.2 c
      refine a_iconst (pc := 54) hC dX9_isDamperThan_54 (v := 1) rfl ?_
      refine a_goto (pc := 55) (tgt := 59) hC dX9_isDamperThan_55 (by decide) ?_
      exact a_bret (pc := 59) hC hE (Or.inr rfl) h (Nat.le_of_ble_eq_true rfl) (Nat.le_of_ble_eq_true rfl) dX9_isDamperThan_59
set_option maxRecDepth 20000 in
theorem tLX9_countRoomsAhead_4 {f : aF} {g : aG} (hX : isX g) (P : Int32 → aS → Prop) (hR : f_R f = aR 2 0 0) (hC : aOK f g cX9_countRoomsAhead 4 RX9) (hE : aEi f g .int P (fun _ _ => False) 0 0) (c1 : Int32) {K : Int32 → aS → Prop} (hK : ∀ (w2 : Int32) (q : aS), K w2 q → AW f g 41 [none, none, some (.int w2), none] [] q 0 0) : ∀ (N : Nat) (v2 : Int32) (v3 : Int32) (q : aS), LX9_countRoomsAhead_4 c1 P K N v2 v3 q → AW f g 4 [some (.ref (gAd g 0)), some (.int c1), some (.int v2), some (.int v3)] [] q 0 0 := by
  intro N
  induction N with
  | zero =>
    intro v2 v3 q h
    exact h.elim
  | succ N ih =>
    intro v2 v3 q h
    unfold LX9_countRoomsAhead_4 at h
    refine a_iload_n (pc := 4) hC dX9_countRoomsAhead_4 rfl ?_
    refine a_aload_n (pc := 5) hC dX9_countRoomsAhead_5 rfl ?_
    refine a_get (pc := 6) hC cl_X9 (oX_0 hX) 0 (by decide) tw_303 rfl dX9_countRoomsAhead_6 ?_
    refine a_get (pc := 9) hC cl_X8 (oX_1 hX) 0 (by decide) tw_151 rfl dX9_countRoomsAhead_9 ?_
    refine a_get (pc := 12) hC cl_X6 (oX_2 hX) 0 (by decide) tw_56 rfl dX9_countRoomsAhead_12 ?_
    refine a_icmp_ge (pc := 15) (tgt := 41) hC dX9_countRoomsAhead_15 (by decide) (fun c => ?_) (fun c => ?_)
    · replace h := h.1 c
      exact (hK _ _ h).forget ⟨rfl, trivial⟩
    · replace h := h.2 c
      refine a_iload_n (pc := 18) hC dX9_countRoomsAhead_18 rfl ?_
      refine a_iload_n (pc := 19) hC dX9_countRoomsAhead_19 rfl ?_
      refine a_icmp_eq (pc := 20) (tgt := 35) hC dX9_countRoomsAhead_20 (by decide) (fun c => ?_) (fun c => ?_)
      · replace h := h.1 c
        refine a_iinc (pc := 35) hC dX9_countRoomsAhead_35 rfl (c := 1) rfl ?_
        replace h := h _ rfl
        refine a_goto (pc := 38) (tgt := 4) hC dX9_countRoomsAhead_38 (by decide) ?_
        exact (ih _ _ _ h).forget ⟨rfl, rfl, rfl, rfl, trivial⟩
      · replace h := h.2 c
        refine a_aload_n (pc := 23) hC dX9_countRoomsAhead_23 rfl ?_
        refine a_iload_n (pc := 24) hC dX9_countRoomsAhead_24 rfl ?_
        refine a_iload_n (pc := 25) hC dX9_countRoomsAhead_25 rfl ?_
        refine a_callV (pc := 26) hC hR vm_X9_isDamperThan tw_622 cl_X9 (oX_0 hX) ⟨(Nat.le_of_ble_eq_true rfl), (Nat.le_of_ble_eq_true rfl), (Nat.le_of_ble_eq_true rfl), (Nat.le_of_ble_eq_true rfl)⟩ dX9_countRoomsAhead_26 (t_X9_isDamperThan hX hC.tr _ _ _ _ h) rfl rfl rfl (Nat.le_of_ble_eq_true rfl) (fun r3 q4 h => ?_)
        have z_r3 := h.1
        replace h := h.2
        refine a_if_eq (pc := 29) (tgt := 35) hC dX9_countRoomsAhead_29 (by decide) (fun c => ?_) (fun c => ?_)
        · replace h := h.1 c
          refine a_iinc (pc := 35) hC dX9_countRoomsAhead_35 rfl (c := 1) rfl ?_
          replace h := h _ rfl
          refine a_goto (pc := 38) (tgt := 4) hC dX9_countRoomsAhead_38 (by decide) ?_
          exact (ih _ _ _ h).forget ⟨rfl, rfl, rfl, rfl, trivial⟩
        · replace h := h.2 c
          refine a_iinc (pc := 32) hC dX9_countRoomsAhead_32 rfl (c := 1) rfl ?_
          replace h := h _ rfl
          refine a_iinc (pc := 35) hC dX9_countRoomsAhead_35 rfl (c := 1) rfl ?_
          replace h := h _ rfl
          refine a_goto (pc := 38) (tgt := 4) hC dX9_countRoomsAhead_38 (by decide) ?_
          exact (ih _ _ _ h).forget ⟨rfl, rfl, rfl, rfl, trivial⟩
set_option maxRecDepth 20000 in
theorem t_X9_countRoomsAhead {l : Launch} {g : aG} (hX : isX g) (hl : l.stackTraces = false) (x1 : Int32) (q : aS) (P : Int32 → aS → Prop) (h : w_X9_countRoomsAhead x1 q P) : aMi l g yX9_countRoomsAhead (aWs yX9_countRoomsAhead cX9_countRoomsAhead 4 (some .int)) 2 0 0 [.ref (gAd g 0), .int x1] q P (fun _ _ => False) := by
  refine aMi_of RX9 ⟨by decide +kernel, rfl⟩ (cat_all rfl) (Nat.le_of_ble_eq_true rfl) hl hX.cl (fun f hR hC hE => ?_)
  show AW f g 0 [some (.ref (gAd g 0)), some (.int x1), none, none] [] q 0 0
  unfold w_X9_countRoomsAhead at h
  refine a_iconst (pc := 0) hC dX9_countRoomsAhead_0 (v := 0) rfl ?_
  refine a_istore_n (pc := 1) hC dX9_countRoomsAhead_1 (Nat.le_of_ble_eq_true rfl) ?_
  refine a_iconst (pc := 2) hC dX9_countRoomsAhead_2 (v := 0) rfl ?_
  refine a_istore_n (pc := 3) hC dX9_countRoomsAhead_3 (Nat.le_of_ble_eq_true rfl) ?_
  obtain ⟨N, h⟩ := h
  refine (tLX9_countRoomsAhead_4 hX P hR hC hE _ (fun y8 q9 h => ?_) N _ _ _ h).forget ⟨rfl, rfl, rfl, rfl, trivial⟩
  refine a_iload_n (pc := 41) hC dX9_countRoomsAhead_41 rfl ?_
  exact a_iret (pc := 42) hC hE h (Nat.le_of_ble_eq_true rfl) (Nat.le_of_ble_eq_true rfl) dX9_countRoomsAhead_42
set_option maxRecDepth 20000 in
theorem t_X9_rankedValue {l : Launch} {g : aG} (hX : isX g) (hl : l.stackTraces = false) (x1 : Int32) (x2 : Int32) (q : aS) (P : Int32 → aS → Prop) (h : w_X9_rankedValue x1 x2 q P) : aMi l g yX9_rankedValue (aWs yX9_rankedValue cX9_rankedValue 3 (some .int)) 0 0 0 [.ref (gAd g 0), .int x1, .int x2] q P (fun _ _ => False) := by
  refine aMi_of RX9 ⟨by decide +kernel, rfl⟩ (cat_all rfl) (Nat.le_of_ble_eq_true rfl) hl hX.cl (fun f hR hC hE => ?_)
  show AW f g 0 [some (.ref (gAd g 0)), some (.int x1), some (.int x2)] [] q 0 0
  unfold w_X9_rankedValue at h
  refine a_iload_n (pc := 0) hC dX9_rankedValue_0 rfl ?_
  refine tab_or (fun c0 => ?_) (fun c0 => ?_) h
  · intro h
    refine a_tabIn (pc := 1) (tgt := 28) hC dX9_rankedValue_1 (by rw [c0]; decide) (by rw [c0]; decide) (by rw [c0]; rfl) (by decide) ?_
    refine a_aload_n (pc := 28) hC dX9_rankedValue_28 rfl ?_
    refine a_get (pc := 29) hC cl_X9 (oX_0 hX) 0 (by decide) tw_303 rfl dX9_rankedValue_29 ?_
    refine a_get (pc := 32) hC cl_X8 (oX_1 hX) 2 (by decide) tw_155 rfl dX9_rankedValue_32 ?_
    refine a_get (pc := 35) hC cl_X7 (oX_12 hX) 2 (by decide) tw_127 rfl dX9_rankedValue_35 ?_
    refine a_iload_n (pc := 38) hC dX9_rankedValue_38 rfl ?_
    refine a_iald (pc := 39) hC (oX_14 hX) h.1 dX9_rankedValue_39 ?_
    replace h := h.2
    exact a_iret (pc := 40) hC hE h (Nat.le_of_ble_eq_true rfl) (Nat.le_of_ble_eq_true rfl) dX9_rankedValue_40
  intro h
  refine tab_or (fun c1 => ?_) (fun c1 => ?_) h
  · intro h
    refine a_tabIn (pc := 1) (tgt := 41) hC dX9_rankedValue_1 (by rw [c1]; decide) (by rw [c1]; decide) (by rw [c1]; rfl) (by decide) ?_
    refine a_aload_n (pc := 41) hC dX9_rankedValue_41 rfl ?_
    refine a_get (pc := 42) hC cl_X9 (oX_0 hX) 0 (by decide) tw_303 rfl dX9_rankedValue_42 ?_
    refine a_get (pc := 45) hC cl_X8 (oX_1 hX) 2 (by decide) tw_155 rfl dX9_rankedValue_45 ?_
    refine a_get (pc := 48) hC cl_X7 (oX_12 hX) 5 (by decide) tw_135 rfl dX9_rankedValue_48 ?_
    refine a_iload_n (pc := 51) hC dX9_rankedValue_51 rfl ?_
    refine a_iald (pc := 52) hC (oX_17 hX) h.1 dX9_rankedValue_52 ?_
    replace h := h.2
    exact a_iret (pc := 53) hC hE h (Nat.le_of_ble_eq_true rfl) (Nat.le_of_ble_eq_true rfl) dX9_rankedValue_53
  intro h
  refine tab_or (fun c2 => ?_) (fun c2 => ?_) h
  · intro h
    refine a_tabIn (pc := 1) (tgt := 54) hC dX9_rankedValue_1 (by rw [c2]; decide) (by rw [c2]; decide) (by rw [c2]; rfl) (by decide) ?_
    refine a_aload_n (pc := 54) hC dX9_rankedValue_54 rfl ?_
    refine a_get (pc := 55) hC cl_X9 (oX_0 hX) 0 (by decide) tw_303 rfl dX9_rankedValue_55 ?_
    refine a_get (pc := 58) hC cl_X8 (oX_1 hX) 2 (by decide) tw_155 rfl dX9_rankedValue_58 ?_
    refine a_get (pc := 61) hC cl_X7 (oX_12 hX) 4 (by decide) tw_132 rfl dX9_rankedValue_61 ?_
    refine a_iload_n (pc := 64) hC dX9_rankedValue_64 rfl ?_
    refine a_iald (pc := 65) hC (oX_16 hX) h.1 dX9_rankedValue_65 ?_
    replace h := h.2
    exact a_iret (pc := 66) hC hE h (Nat.le_of_ble_eq_true rfl) (Nat.le_of_ble_eq_true rfl) dX9_rankedValue_66
  intro h
  refine a_tabOut (pc := 1) (tgt := 67) hC dX9_rankedValue_1 (by have e0 := tab_ne (z := 0) rfl c0; have e1 := tab_ne (z := 1) rfl c1; have e2 := tab_ne (z := 2) rfl c2; omega) (by decide) ?_
  refine a_aload_n (pc := 67) hC dX9_rankedValue_67 rfl ?_
  refine a_get (pc := 68) hC cl_X9 (oX_0 hX) 0 (by decide) tw_303 rfl dX9_rankedValue_68 ?_
  refine a_get (pc := 71) hC cl_X8 (oX_1 hX) 2 (by decide) tw_155 rfl dX9_rankedValue_71 ?_
  refine a_get (pc := 74) hC cl_X7 (oX_12 hX) 1 (by decide) tw_124 rfl dX9_rankedValue_74 ?_
  refine a_iload_n (pc := 77) hC dX9_rankedValue_77 rfl ?_
  refine a_iald (pc := 78) hC (oX_13 hX) h.1 dX9_rankedValue_78 ?_
  replace h := h.2
  exact a_iret (pc := 79) hC hE h (Nat.le_of_ble_eq_true rfl) (Nat.le_of_ble_eq_true rfl) dX9_rankedValue_79
set_option maxRecDepth 20000 in
theorem tLX9_countSingersAhead_13 {f : aF} {g : aG} (hX : isX g) (P : Int32 → aS → Prop) (hR : f_R f = aR 1 0 0) (hC : aOK f g cX9_countSingersAhead 7 RX9) (hE : aEi f g .int P (fun _ _ => False) 0 0) (c1 : Int32) (c2 : Int32) (c3 : Int32) {K : Int32 → aS → Prop} (hK : ∀ (w4 : Int32) (q : aS), K w4 q → AW f g 64 [none, none, none, none, some (.int w4), none, none] [] q 0 0) : ∀ (N : Nat) (v4 : Int32) (v5 : Int32) (q : aS), LX9_countSingersAhead_13 c1 c2 c3 P K N v4 v5 q → AW f g 13 [some (.ref (gAd g 0)), some (.int c1), some (.int c2), some (.int c3), some (.int v4), some (.int v5), none] [] q 0 0 := by
  intro N
  induction N with
  | zero =>
    intro v4 v5 q h
    exact h.elim
  | succ N ih =>
    intro v4 v5 q h
    unfold LX9_countSingersAhead_13 at h
    refine a_iload (pc := 13) hC dX9_countSingersAhead_13 rfl ?_
    refine a_aload_n (pc := 15) hC dX9_countSingersAhead_15 rfl ?_
    refine a_get (pc := 16) hC cl_X9 (oX_0 hX) 0 (by decide) tw_303 rfl dX9_countSingersAhead_16 ?_
    refine a_get (pc := 19) hC cl_X8 (oX_1 hX) 2 (by decide) tw_155 rfl dX9_countSingersAhead_19 ?_
    refine a_get (pc := 22) hC cl_X7 (oX_12 hX) 0 (by decide) tw_121 rfl dX9_countSingersAhead_22 ?_
    refine a_icmp_ge (pc := 25) (tgt := 64) hC dX9_countSingersAhead_25 (by decide) (fun c => ?_) (fun c => ?_)
    · replace h := h.1 c
      exact (hK _ _ h).forget ⟨rfl, trivial⟩
    · replace h := h.2 c
      refine a_aload_n (pc := 28) hC dX9_countSingersAhead_28 rfl ?_
      refine a_iload_n (pc := 29) hC dX9_countSingersAhead_29 rfl ?_
      refine a_iload (pc := 30) hC dX9_countSingersAhead_30 rfl ?_
      refine a_callV (pc := 32) hC hR vm_X9_rankedValue tw_636 cl_X9 (oX_0 hX) ⟨(Nat.le_of_ble_eq_true rfl), (Nat.le_of_ble_eq_true rfl), (Nat.le_of_ble_eq_true rfl), (Nat.le_of_ble_eq_true rfl)⟩ dX9_countSingersAhead_32 (t_X9_rankedValue hX hC.tr _ _ _ _ h) rfl rfl rfl (Nat.le_of_ble_eq_true rfl) (fun r5 q6 h => ?_)
      refine a_istore (pc := 35) hC dX9_countSingersAhead_35 (Nat.le_of_ble_eq_true rfl) ?_
      refine a_iload (pc := 37) hC dX9_countSingersAhead_37 rfl ?_
      refine a_iload_n (pc := 39) hC dX9_countSingersAhead_39 rfl ?_
      refine a_icmp_gt (pc := 40) (tgt := 55) hC dX9_countSingersAhead_40 (by decide) (fun c => ?_) (fun c => ?_)
      · replace h := h.1 c
        refine a_iinc (pc := 55) hC dX9_countSingersAhead_55 rfl (c := 1) rfl ?_
        replace h := h _ rfl
        refine a_iinc (pc := 58) hC dX9_countSingersAhead_58 rfl (c := 1) rfl ?_
        replace h := h _ rfl
        refine a_goto (pc := 61) (tgt := 13) hC dX9_countSingersAhead_61 (by decide) ?_
        exact (ih _ _ _ h).forget ⟨rfl, rfl, rfl, rfl, rfl, rfl, trivial⟩
      · replace h := h.2 c
        refine a_iload (pc := 43) hC dX9_countSingersAhead_43 rfl ?_
        refine a_iload_n (pc := 45) hC dX9_countSingersAhead_45 rfl ?_
        refine a_icmp_ne (pc := 46) (tgt := 58) hC dX9_countSingersAhead_46 (by decide) (fun c => ?_) (fun c => ?_)
        · replace h := h.1 c
          refine a_iinc (pc := 58) hC dX9_countSingersAhead_58 rfl (c := 1) rfl ?_
          replace h := h _ rfl
          refine a_goto (pc := 61) (tgt := 13) hC dX9_countSingersAhead_61 (by decide) ?_
          exact (ih _ _ _ h).forget ⟨rfl, rfl, rfl, rfl, rfl, rfl, trivial⟩
        · replace h := h.2 c
          refine a_iload (pc := 49) hC dX9_countSingersAhead_49 rfl ?_
          refine a_iload_n (pc := 51) hC dX9_countSingersAhead_51 rfl ?_
          refine a_icmp_ge (pc := 52) (tgt := 58) hC dX9_countSingersAhead_52 (by decide) (fun c => ?_) (fun c => ?_)
          · replace h := h.1 c
            refine a_iinc (pc := 58) hC dX9_countSingersAhead_58 rfl (c := 1) rfl ?_
            replace h := h _ rfl
            refine a_goto (pc := 61) (tgt := 13) hC dX9_countSingersAhead_61 (by decide) ?_
            exact (ih _ _ _ h).forget ⟨rfl, rfl, rfl, rfl, rfl, rfl, trivial⟩
          · replace h := h.2 c
            refine a_iinc (pc := 55) hC dX9_countSingersAhead_55 rfl (c := 1) rfl ?_
            replace h := h _ rfl
            refine a_iinc (pc := 58) hC dX9_countSingersAhead_58 rfl (c := 1) rfl ?_
            replace h := h _ rfl
            refine a_goto (pc := 61) (tgt := 13) hC dX9_countSingersAhead_61 (by decide) ?_
            exact (ih _ _ _ h).forget ⟨rfl, rfl, rfl, rfl, rfl, rfl, trivial⟩
set_option maxRecDepth 20000 in
theorem t_X9_countSingersAhead {l : Launch} {g : aG} (hX : isX g) (hl : l.stackTraces = false) (x1 : Int32) (x2 : Int32) (q : aS) (P : Int32 → aS → Prop) (h : w_X9_countSingersAhead x1 x2 q P) : aMi l g yX9_countSingersAhead (aWs yX9_countSingersAhead cX9_countSingersAhead 7 (some .int)) 1 0 0 [.ref (gAd g 0), .int x1, .int x2] q P (fun _ _ => False) := by
  refine aMi_of RX9 ⟨by decide +kernel, rfl⟩ (cat_all rfl) (Nat.le_of_ble_eq_true rfl) hl hX.cl (fun f hR hC hE => ?_)
  show AW f g 0 [some (.ref (gAd g 0)), some (.int x1), some (.int x2), none, none, none, none] [] q 0 0
  unfold w_X9_countSingersAhead at h
  refine a_aload_n (pc := 0) hC dX9_countSingersAhead_0 rfl ?_
  refine a_iload_n (pc := 1) hC dX9_countSingersAhead_1 rfl ?_
  refine a_iload_n (pc := 2) hC dX9_countSingersAhead_2 rfl ?_
  refine a_callV (pc := 3) hC hR vm_X9_rankedValue tw_636 cl_X9 (oX_0 hX) ⟨(Nat.le_of_ble_eq_true rfl), (Nat.le_of_ble_eq_true rfl), (Nat.le_of_ble_eq_true rfl), (Nat.le_of_ble_eq_true rfl)⟩ dX9_countSingersAhead_3 (t_X9_rankedValue hX hC.tr _ _ _ _ h) rfl rfl rfl (Nat.le_of_ble_eq_true rfl) (fun r3 q4 h => ?_)
  refine a_istore_n (pc := 6) hC dX9_countSingersAhead_6 (Nat.le_of_ble_eq_true rfl) ?_
  refine a_iconst (pc := 7) hC dX9_countSingersAhead_7 (v := 0) rfl ?_
  refine a_istore (pc := 8) hC dX9_countSingersAhead_8 (Nat.le_of_ble_eq_true rfl) ?_
  refine a_iconst (pc := 10) hC dX9_countSingersAhead_10 (v := 0) rfl ?_
  refine a_istore (pc := 11) hC dX9_countSingersAhead_11 (Nat.le_of_ble_eq_true rfl) ?_
  obtain ⟨N, h⟩ := h
  refine (tLX9_countSingersAhead_13 hX P hR hC hE _ _ _ (fun y13 q14 h => ?_) N _ _ _ h).forget ⟨rfl, rfl, rfl, rfl, rfl, rfl, trivial⟩
  refine a_iload (pc := 64) hC dX9_countSingersAhead_64 rfl ?_
  exact a_iret (pc := 66) hC hE h (Nat.le_of_ble_eq_true rfl) (Nat.le_of_ble_eq_true rfl) dX9_countSingersAhead_66
set_option maxRecDepth 20000 in
theorem t_X9_isStrongerThan {l : Launch} {g : aG} (hX : isX g) (hl : l.stackTraces = false) (x1 : Int32) (x2 : Int32) (q : aS) (P : Int32 → aS → Prop) (h : w_X9_isStrongerThan x1 x2 q P) : aMi l g yX9_isStrongerThan (aWs yX9_isStrongerThan cX9_isStrongerThan 3 (some .boolean)) 1 0 0 [.ref (gAd g 0), .int x1, .int x2] q (fun r u => (r = 0 ∨ r = 1) ∧ P r u) (fun _ _ => False) := by
  refine aMi_of RX9 ⟨by decide +kernel, rfl⟩ (cat_all rfl) (Nat.le_of_ble_eq_true rfl) hl hX.cl (fun f hR hC hE => ?_)
  show AW f g 0 [some (.ref (gAd g 0)), some (.int x1), some (.int x2)] [] q 0 0
  unfold w_X9_isStrongerThan at h
  refine a_aload_n (pc := 0) hC dX9_isStrongerThan_0 rfl ?_
  refine a_get (pc := 1) hC cl_X9 (oX_0 hX) 0 (by decide) tw_303 rfl dX9_isStrongerThan_1 ?_
  refine a_get (pc := 4) hC cl_X8 (oX_1 hX) 1 (by decide) tw_153 rfl dX9_isStrongerThan_4 ?_
  refine a_get (pc := 7) hC cl_X1 (oX_6 hX) 2 (by decide) tw_90 rfl dX9_isStrongerThan_7 ?_
  refine a_iload_n (pc := 10) hC dX9_isStrongerThan_10 rfl ?_
  refine a_iald (pc := 11) hC (oX_8 hX) h.1 dX9_isStrongerThan_11 ?_
  replace h := h.2
  refine a_aload_n (pc := 12) hC dX9_isStrongerThan_12 rfl ?_
  refine a_get (pc := 13) hC cl_X9 (oX_0 hX) 0 (by decide) tw_303 rfl dX9_isStrongerThan_13 ?_
  refine a_get (pc := 16) hC cl_X8 (oX_1 hX) 1 (by decide) tw_153 rfl dX9_isStrongerThan_16 ?_
  refine a_get (pc := 19) hC cl_X1 (oX_6 hX) 2 (by decide) tw_90 rfl dX9_isStrongerThan_19 ?_
  refine a_iload_n (pc := 22) hC dX9_isStrongerThan_22 rfl ?_
  refine a_iald (pc := 23) hC (oX_8 hX) h.1 dX9_isStrongerThan_23 ?_
  replace h := h.2
  refine a_icmp_eq (pc := 24) (tgt := 60) hC dX9_isStrongerThan_24 (by decide) (fun c => ?_) (fun c => ?_)
  · replace h := h.1 c
    refine a_aload_n (pc := 60) hC dX9_isStrongerThan_60 rfl ?_
    refine a_get (pc := 61) hC cl_X9 (oX_0 hX) 0 (by decide) tw_303 rfl dX9_isStrongerThan_61 ?_
    refine a_iload_n (pc := 64) hC dX9_isStrongerThan_64 rfl ?_
    refine a_callV (pc := 65) hC hR vm_X8_isLet tw_611 cl_X8 (oX_1 hX) ⟨(Nat.le_of_ble_eq_true rfl), (Nat.le_of_ble_eq_true rfl), (Nat.le_of_ble_eq_true rfl), (Nat.le_of_ble_eq_true rfl)⟩ dX9_isStrongerThan_65 (t_X8_isLet hX hC.tr _ _ _ h) rfl rfl rfl (Nat.le_of_ble_eq_true rfl) (fun r3 q4 h => ?_)
    have z_r3 := h.1
    replace h := h.2
    refine a_aload_n (pc := 68) hC dX9_isStrongerThan_68 rfl ?_
    refine a_get (pc := 69) hC cl_X9 (oX_0 hX) 0 (by decide) tw_303 rfl dX9_isStrongerThan_69 ?_
    refine a_iload_n (pc := 72) hC dX9_isStrongerThan_72 rfl ?_
    refine a_callV (pc := 73) hC hR vm_X8_isLet tw_611 cl_X8 (oX_1 hX) ⟨(Nat.le_of_ble_eq_true rfl), (Nat.le_of_ble_eq_true rfl), (Nat.le_of_ble_eq_true rfl), (Nat.le_of_ble_eq_true rfl)⟩ dX9_isStrongerThan_73 (t_X8_isLet hX hC.tr _ _ _ h) rfl rfl rfl (Nat.le_of_ble_eq_true rfl) (fun r5 q6 h => ?_)
    have z_r5 := h.1
    replace h := h.2
    refine a_icmp_eq (pc := 76) (tgt := 88) hC dX9_isStrongerThan_76 (by decide) (fun c => ?_) (fun c => ?_)
    · replace h := h.1 c
      refine a_iload_n (pc := 88) hC dX9_isStrongerThan_88 rfl ?_
      refine a_iload_n (pc := 89) hC dX9_isStrongerThan_89 rfl ?_
      refine a_icmp_ge (pc := 90) (tgt := 97) hC dX9_isStrongerThan_90 (by decide) (fun c => ?_) (fun c => ?_)
      · replace h := h.1 c
        refine a_iconst (pc := 97) hC dX9_isStrongerThan_97 (v := 0) rfl ?_
        exact a_bret (pc := 98) hC hE (Or.inl rfl) h (Nat.le_of_ble_eq_true rfl) (Nat.le_of_ble_eq_true rfl) dX9_isStrongerThan_98
      · replace h := h.2 c
        refine a_iconst (pc := 93) hC dX9_isStrongerThan_93 (v := 1) rfl ?_
        refine a_goto (pc := 94) (tgt := 98) hC dX9_isStrongerThan_94 (by decide) ?_
        exact a_bret (pc := 98) hC hE (Or.inr rfl) h (Nat.le_of_ble_eq_true rfl) (Nat.le_of_ble_eq_true rfl) dX9_isStrongerThan_98
    · replace h := h.2 c
      refine a_aload_n (pc := 79) hC dX9_isStrongerThan_79 rfl ?_
      refine a_get (pc := 80) hC cl_X9 (oX_0 hX) 0 (by decide) tw_303 rfl dX9_isStrongerThan_80 ?_
      refine a_iload_n (pc := 83) hC dX9_isStrongerThan_83 rfl ?_
      refine a_callV (pc := 84) hC hR vm_X8_isLet tw_611 cl_X8 (oX_1 hX) ⟨(Nat.le_of_ble_eq_true rfl), (Nat.le_of_ble_eq_true rfl), (Nat.le_of_ble_eq_true rfl), (Nat.le_of_ble_eq_true rfl)⟩ dX9_isStrongerThan_84 (t_X8_isLet hX hC.tr _ _ _ h) rfl rfl rfl (Nat.le_of_ble_eq_true rfl) (fun r7 q8 h => ?_)
      have z_r7 := h.1
      replace h := h.2
      exact a_bret (pc := 87) hC hE z_r7 h (Nat.le_of_ble_eq_true rfl) (Nat.le_of_ble_eq_true rfl) dX9_isStrongerThan_87
  · replace h := h.2 c
    refine a_aload_n (pc := 27) hC dX9_isStrongerThan_27 rfl ?_
    refine a_get (pc := 28) hC cl_X9 (oX_0 hX) 0 (by decide) tw_303 rfl dX9_isStrongerThan_28 ?_
    refine a_get (pc := 31) hC cl_X8 (oX_1 hX) 1 (by decide) tw_153 rfl dX9_isStrongerThan_31 ?_
    refine a_get (pc := 34) hC cl_X1 (oX_6 hX) 2 (by decide) tw_90 rfl dX9_isStrongerThan_34 ?_
    refine a_iload_n (pc := 37) hC dX9_isStrongerThan_37 rfl ?_
    refine a_iald (pc := 38) hC (oX_8 hX) h.1 dX9_isStrongerThan_38 ?_
    replace h := h.2
    refine a_aload_n (pc := 39) hC dX9_isStrongerThan_39 rfl ?_
    refine a_get (pc := 40) hC cl_X9 (oX_0 hX) 0 (by decide) tw_303 rfl dX9_isStrongerThan_40 ?_
    refine a_get (pc := 43) hC cl_X8 (oX_1 hX) 1 (by decide) tw_153 rfl dX9_isStrongerThan_43 ?_
    refine a_get (pc := 46) hC cl_X1 (oX_6 hX) 2 (by decide) tw_90 rfl dX9_isStrongerThan_46 ?_
    refine a_iload_n (pc := 49) hC dX9_isStrongerThan_49 rfl ?_
    refine a_iald (pc := 50) hC (oX_8 hX) h.1 dX9_isStrongerThan_50 ?_
    replace h := h.2
    refine a_icmp_le (pc := 51) (tgt := 58) hC dX9_isStrongerThan_51 (by decide) (fun c => ?_) (fun c => ?_)
    · replace h := h.1 c
      refine a_iconst (pc := 58) hC dX9_isStrongerThan_58 (v := 0) rfl ?_
      exact a_bret (pc := 59) hC hE (Or.inl rfl) h (Nat.le_of_ble_eq_true rfl) (Nat.le_of_ble_eq_true rfl) dX9_isStrongerThan_59
    · replace h := h.2 c
      refine a_iconst (pc := 54) hC dX9_isStrongerThan_54 (v := 1) rfl ?_
      refine a_goto (pc := 55) (tgt := 59) hC dX9_isStrongerThan_55 (by decide) ?_
      exact a_bret (pc := 59) hC hE (Or.inr rfl) h (Nat.le_of_ble_eq_true rfl) (Nat.le_of_ble_eq_true rfl) dX9_isStrongerThan_59
set_option maxRecDepth 20000 in
theorem tLX9_countEchoesAhead_4 {f : aF} {g : aG} (hX : isX g) (P : Int32 → aS → Prop) (hR : f_R f = aR 2 0 0) (hC : aOK f g cX9_countEchoesAhead 4 RX9) (hE : aEi f g .int P (fun _ _ => False) 0 0) (c1 : Int32) {K : Int32 → aS → Prop} (hK : ∀ (w2 : Int32) (q : aS), K w2 q → AW f g 41 [none, none, some (.int w2), none] [] q 0 0) : ∀ (N : Nat) (v2 : Int32) (v3 : Int32) (q : aS), LX9_countEchoesAhead_4 c1 P K N v2 v3 q → AW f g 4 [some (.ref (gAd g 0)), some (.int c1), some (.int v2), some (.int v3)] [] q 0 0 := by
  intro N
  induction N with
  | zero =>
    intro v2 v3 q h
    exact h.elim
  | succ N ih =>
    intro v2 v3 q h
    unfold LX9_countEchoesAhead_4 at h
    refine a_iload_n (pc := 4) hC dX9_countEchoesAhead_4 rfl ?_
    refine a_aload_n (pc := 5) hC dX9_countEchoesAhead_5 rfl ?_
    refine a_get (pc := 6) hC cl_X9 (oX_0 hX) 0 (by decide) tw_303 rfl dX9_countEchoesAhead_6 ?_
    refine a_get (pc := 9) hC cl_X8 (oX_1 hX) 1 (by decide) tw_153 rfl dX9_countEchoesAhead_9 ?_
    refine a_get (pc := 12) hC cl_X1 (oX_6 hX) 0 (by decide) tw_84 rfl dX9_countEchoesAhead_12 ?_
    refine a_icmp_ge (pc := 15) (tgt := 41) hC dX9_countEchoesAhead_15 (by decide) (fun c => ?_) (fun c => ?_)
    · replace h := h.1 c
      exact (hK _ _ h).forget ⟨rfl, trivial⟩
    · replace h := h.2 c
      refine a_iload_n (pc := 18) hC dX9_countEchoesAhead_18 rfl ?_
      refine a_iload_n (pc := 19) hC dX9_countEchoesAhead_19 rfl ?_
      refine a_icmp_eq (pc := 20) (tgt := 35) hC dX9_countEchoesAhead_20 (by decide) (fun c => ?_) (fun c => ?_)
      · replace h := h.1 c
        refine a_iinc (pc := 35) hC dX9_countEchoesAhead_35 rfl (c := 1) rfl ?_
        replace h := h _ rfl
        refine a_goto (pc := 38) (tgt := 4) hC dX9_countEchoesAhead_38 (by decide) ?_
        exact (ih _ _ _ h).forget ⟨rfl, rfl, rfl, rfl, trivial⟩
      · replace h := h.2 c
        refine a_aload_n (pc := 23) hC dX9_countEchoesAhead_23 rfl ?_
        refine a_iload_n (pc := 24) hC dX9_countEchoesAhead_24 rfl ?_
        refine a_iload_n (pc := 25) hC dX9_countEchoesAhead_25 rfl ?_
        refine a_callV (pc := 26) hC hR vm_X9_isStrongerThan tw_649 cl_X9 (oX_0 hX) ⟨(Nat.le_of_ble_eq_true rfl), (Nat.le_of_ble_eq_true rfl), (Nat.le_of_ble_eq_true rfl), (Nat.le_of_ble_eq_true rfl)⟩ dX9_countEchoesAhead_26 (t_X9_isStrongerThan hX hC.tr _ _ _ _ h) rfl rfl rfl (Nat.le_of_ble_eq_true rfl) (fun r3 q4 h => ?_)
        have z_r3 := h.1
        replace h := h.2
        refine a_if_eq (pc := 29) (tgt := 35) hC dX9_countEchoesAhead_29 (by decide) (fun c => ?_) (fun c => ?_)
        · replace h := h.1 c
          refine a_iinc (pc := 35) hC dX9_countEchoesAhead_35 rfl (c := 1) rfl ?_
          replace h := h _ rfl
          refine a_goto (pc := 38) (tgt := 4) hC dX9_countEchoesAhead_38 (by decide) ?_
          exact (ih _ _ _ h).forget ⟨rfl, rfl, rfl, rfl, trivial⟩
        · replace h := h.2 c
          refine a_iinc (pc := 32) hC dX9_countEchoesAhead_32 rfl (c := 1) rfl ?_
          replace h := h _ rfl
          refine a_iinc (pc := 35) hC dX9_countEchoesAhead_35 rfl (c := 1) rfl ?_
          replace h := h _ rfl
          refine a_goto (pc := 38) (tgt := 4) hC dX9_countEchoesAhead_38 (by decide) ?_
          exact (ih _ _ _ h).forget ⟨rfl, rfl, rfl, rfl, trivial⟩
set_option maxRecDepth 20000 in
theorem t_X9_countEchoesAhead {l : Launch} {g : aG} (hX : isX g) (hl : l.stackTraces = false) (x1 : Int32) (q : aS) (P : Int32 → aS → Prop) (h : w_X9_countEchoesAhead x1 q P) : aMi l g yX9_countEchoesAhead (aWs yX9_countEchoesAhead cX9_countEchoesAhead 4 (some .int)) 2 0 0 [.ref (gAd g 0), .int x1] q P (fun _ _ => False) := by
  refine aMi_of RX9 ⟨by decide +kernel, rfl⟩ (cat_all rfl) (Nat.le_of_ble_eq_true rfl) hl hX.cl (fun f hR hC hE => ?_)
  show AW f g 0 [some (.ref (gAd g 0)), some (.int x1), none, none] [] q 0 0
  unfold w_X9_countEchoesAhead at h
  refine a_iconst (pc := 0) hC dX9_countEchoesAhead_0 (v := 0) rfl ?_
  refine a_istore_n (pc := 1) hC dX9_countEchoesAhead_1 (Nat.le_of_ble_eq_true rfl) ?_
  refine a_iconst (pc := 2) hC dX9_countEchoesAhead_2 (v := 0) rfl ?_
  refine a_istore_n (pc := 3) hC dX9_countEchoesAhead_3 (Nat.le_of_ble_eq_true rfl) ?_
  obtain ⟨N, h⟩ := h
  refine (tLX9_countEchoesAhead_4 hX P hR hC hE _ (fun y8 q9 h => ?_) N _ _ _ h).forget ⟨rfl, rfl, rfl, rfl, trivial⟩
  refine a_iload_n (pc := 41) hC dX9_countEchoesAhead_41 rfl ?_
  exact a_iret (pc := 42) hC hE h (Nat.le_of_ble_eq_true rfl) (Nat.le_of_ble_eq_true rfl) dX9_countEchoesAhead_42
set_option maxRecDepth 20000 in
theorem t_X9_bothWaysAgree {l : Launch} {g : aG} (hX : isX g) (hl : l.stackTraces = false) (x1 : Int32) (q : aS) (P : Int32 → aS → Prop) (h : w_X9_bothWaysAgree x1 q P) : aMi l g yX9_bothWaysAgree (aWs yX9_bothWaysAgree cX9_bothWaysAgree 2 (some .boolean)) 3 0 0 [.ref (gAd g 0), .int x1] q (fun r u => (r = 0 ∨ r = 1) ∧ P r u) (fun _ _ => False) := by
  refine aMi_of RX9 ⟨by decide +kernel, rfl⟩ (cat_all rfl) (Nat.le_of_ble_eq_true rfl) hl hX.cl (fun f hR hC hE => ?_)
  show AW f g 0 [some (.ref (gAd g 0)), some (.int x1)] [] q 0 0
  unfold w_X9_bothWaysAgree at h
  refine a_aload_n (pc := 0) hC dX9_bothWaysAgree_0 rfl ?_
  refine a_get (pc := 1) hC cl_X9 (oX_0 hX) 0 (by decide) tw_303 rfl dX9_bothWaysAgree_1 ?_
  refine a_iload_n (pc := 4) hC dX9_bothWaysAgree_4 rfl ?_
  refine a_aload_n (pc := 5) hC dX9_bothWaysAgree_5 rfl ?_
  refine a_get (pc := 6) hC cl_X9 (oX_0 hX) 0 (by decide) tw_303 rfl dX9_bothWaysAgree_6 ?_
  refine a_get (pc := 9) hC cl_X8 (oX_1 hX) 2 (by decide) tw_155 rfl dX9_bothWaysAgree_9 ?_
  refine a_get (pc := 12) hC cl_X7 (oX_12 hX) 3 (by decide) tw_130 rfl dX9_bothWaysAgree_12 ?_
  refine a_iload_n (pc := 15) hC dX9_bothWaysAgree_15 rfl ?_
  refine a_iald (pc := 16) hC (oX_15 hX) h.1 dX9_bothWaysAgree_16 ?_
  replace h := h.2
  refine a_callV (pc := 17) hC hR vm_X8_tonesInRoom tw_568 cl_X8 (oX_1 hX) ⟨(Nat.le_of_ble_eq_true rfl), (Nat.le_of_ble_eq_true rfl), (Nat.le_of_ble_eq_true rfl), (Nat.le_of_ble_eq_true rfl)⟩ dX9_bothWaysAgree_17 (t_X8_tonesInRoom hX hC.tr _ _ _ _ h) rfl rfl rfl (Nat.le_of_ble_eq_true rfl) (fun r2 q3 h => ?_)
  refine a_aload_n (pc := 20) hC dX9_bothWaysAgree_20 rfl ?_
  refine a_get (pc := 21) hC cl_X9 (oX_0 hX) 0 (by decide) tw_303 rfl dX9_bothWaysAgree_21 ?_
  refine a_iload_n (pc := 24) hC dX9_bothWaysAgree_24 rfl ?_
  refine a_callV (pc := 25) hC hR vm_X8_tonesByStrength tw_1026 cl_X8 (oX_1 hX) ⟨(Nat.le_of_ble_eq_true rfl), (Nat.le_of_ble_eq_true rfl), (Nat.le_of_ble_eq_true rfl), (Nat.le_of_ble_eq_true rfl)⟩ dX9_bothWaysAgree_25 (t_X8_tonesByStrength hX hC.tr _ _ _ h) rfl rfl rfl (Nat.le_of_ble_eq_true rfl) (fun r4 q5 h => ?_)
  refine a_icmp_ne (pc := 28) (tgt := 54) hC dX9_bothWaysAgree_28 (by decide) (fun c => ?_) (fun c => ?_)
  · replace h := h.1 c
    refine a_iconst (pc := 54) hC dX9_bothWaysAgree_54 (v := 0) rfl ?_
    exact a_bret (pc := 55) hC hE (Or.inl rfl) h (Nat.le_of_ble_eq_true rfl) (Nat.le_of_ble_eq_true rfl) dX9_bothWaysAgree_55
  · replace h := h.2 c
    refine a_aload_n (pc := 31) hC dX9_bothWaysAgree_31 rfl ?_
    refine a_get (pc := 32) hC cl_X9 (oX_0 hX) 0 (by decide) tw_303 rfl dX9_bothWaysAgree_32 ?_
    refine a_iload_n (pc := 35) hC dX9_bothWaysAgree_35 rfl ?_
    refine a_callV (pc := 36) hC hR vm_X8_versesInThought tw_587 cl_X8 (oX_1 hX) ⟨(Nat.le_of_ble_eq_true rfl), (Nat.le_of_ble_eq_true rfl), (Nat.le_of_ble_eq_true rfl), (Nat.le_of_ble_eq_true rfl)⟩ dX9_bothWaysAgree_36 (t_X8_versesInThought hX hC.tr _ _ _ h) rfl rfl rfl (Nat.le_of_ble_eq_true rfl) (fun r6 q7 h => ?_)
    refine a_aload_n (pc := 39) hC dX9_bothWaysAgree_39 rfl ?_
    refine a_get (pc := 40) hC cl_X9 (oX_0 hX) 0 (by decide) tw_303 rfl dX9_bothWaysAgree_40 ?_
    refine a_iload_n (pc := 43) hC dX9_bothWaysAgree_43 rfl ?_
    refine a_callV (pc := 44) hC hR vm_X8_versesByEcho tw_1038 cl_X8 (oX_1 hX) ⟨(Nat.le_of_ble_eq_true rfl), (Nat.le_of_ble_eq_true rfl), (Nat.le_of_ble_eq_true rfl), (Nat.le_of_ble_eq_true rfl)⟩ dX9_bothWaysAgree_44 (t_X8_versesByEcho hX hC.tr _ _ _ h) rfl rfl rfl (Nat.le_of_ble_eq_true rfl) (fun r8 q9 h => ?_)
    refine a_icmp_ne (pc := 47) (tgt := 54) hC dX9_bothWaysAgree_47 (by decide) (fun c => ?_) (fun c => ?_)
    · replace h := h.1 c
      refine a_iconst (pc := 54) hC dX9_bothWaysAgree_54 (v := 0) rfl ?_
      exact a_bret (pc := 55) hC hE (Or.inl rfl) h (Nat.le_of_ble_eq_true rfl) (Nat.le_of_ble_eq_true rfl) dX9_bothWaysAgree_55
    · replace h := h.2 c
      refine a_iconst (pc := 50) hC dX9_bothWaysAgree_50 (v := 1) rfl ?_
      refine a_goto (pc := 51) (tgt := 55) hC dX9_bothWaysAgree_51 (by decide) ?_
      exact a_bret (pc := 55) hC hE (Or.inr rfl) h (Nat.le_of_ble_eq_true rfl) (Nat.le_of_ble_eq_true rfl) dX9_bothWaysAgree_55
set_option maxRecDepth 20000 in
theorem tLX9_isTold_2 {f : aF} {g : aG} (hX : isX g) (P : Int32 → aS → Prop) (hR : f_R f = aR 4 0 0) (hC : aOK f g cX9_isTold 2 RX9) (hE : aEi f g .boolean (fun r u => (r = 0 ∨ r = 1) ∧ P r u) (fun _ _ => False) 0 0) {K : aS → Prop} (hK : ∀ (q : aS), K q → AW f g 43 [some (.ref (gAd g 0)), none] [] q 0 0) : ∀ (N : Nat) (v1 : Int32) (q : aS), LX9_isTold_2 P K N v1 q → AW f g 2 [some (.ref (gAd g 0)), some (.int v1)] [] q 0 0 := by
  intro N
  induction N with
  | zero =>
    intro v1 q h
    exact h.elim
  | succ N ih =>
    intro v1 q h
    unfold LX9_isTold_2 at h
    refine a_iload_n (pc := 2) hC dX9_isTold_2 rfl ?_
    refine a_aload_n (pc := 3) hC dX9_isTold_3 rfl ?_
    refine a_get (pc := 4) hC cl_X9 (oX_0 hX) 0 (by decide) tw_303 rfl dX9_isTold_4 ?_
    refine a_get (pc := 7) hC cl_X8 (oX_1 hX) 2 (by decide) tw_155 rfl dX9_isTold_7 ?_
    refine a_get (pc := 10) hC cl_X7 (oX_12 hX) 0 (by decide) tw_121 rfl dX9_isTold_10 ?_
    refine a_icmp_ge (pc := 13) (tgt := 43) hC dX9_isTold_13 (by decide) (fun c => ?_) (fun c => ?_)
    · replace h := h.1 c
      exact (hK _ h).forget ⟨rfl, trivial⟩
    · replace h := h.2 c
      refine a_aload_n (pc := 16) hC dX9_isTold_16 rfl ?_
      refine a_get (pc := 17) hC cl_X9 (oX_0 hX) 0 (by decide) tw_303 rfl dX9_isTold_17 ?_
      refine a_iload_n (pc := 20) hC dX9_isTold_20 rfl ?_
      refine a_callV (pc := 21) hC hR vm_X8_isInside tw_548 cl_X8 (oX_1 hX) ⟨(Nat.le_of_ble_eq_true rfl), (Nat.le_of_ble_eq_true rfl), (Nat.le_of_ble_eq_true rfl), (Nat.le_of_ble_eq_true rfl)⟩ dX9_isTold_21 (t_X8_isInside hX hC.tr _ _ _ h) rfl rfl rfl (Nat.le_of_ble_eq_true rfl) (fun r1 q2 h => ?_)
      have z_r1 := h.1
      replace h := h.2
      refine a_if_eq (pc := 24) (tgt := 37) hC dX9_isTold_24 (by decide) (fun c => ?_) (fun c => ?_)
      · replace h := h.1 c
        refine a_iinc (pc := 37) hC dX9_isTold_37 rfl (c := 1) rfl ?_
        replace h := h _ rfl
        refine a_goto (pc := 40) (tgt := 2) hC dX9_isTold_40 (by decide) ?_
        exact (ih _ _ h).forget ⟨rfl, rfl, trivial⟩
      · replace h := h.2 c
        refine a_aload_n (pc := 27) hC dX9_isTold_27 rfl ?_
        refine a_iload_n (pc := 28) hC dX9_isTold_28 rfl ?_
        refine a_callV (pc := 29) hC hR vm_X9_bothWaysAgree tw_1086 cl_X9 (oX_0 hX) ⟨(Nat.le_of_ble_eq_true rfl), (Nat.le_of_ble_eq_true rfl), (Nat.le_of_ble_eq_true rfl), (Nat.le_of_ble_eq_true rfl)⟩ dX9_isTold_29 (t_X9_bothWaysAgree hX hC.tr _ _ _ h) rfl rfl rfl (Nat.le_of_ble_eq_true rfl) (fun r4 q5 h => ?_)
        have z_r4 := h.1
        replace h := h.2
        refine a_if_ne (pc := 32) (tgt := 37) hC dX9_isTold_32 (by decide) (fun c => ?_) (fun c => ?_)
        · replace h := h.1 c
          refine a_iinc (pc := 37) hC dX9_isTold_37 rfl (c := 1) rfl ?_
          replace h := h _ rfl
          refine a_goto (pc := 40) (tgt := 2) hC dX9_isTold_40 (by decide) ?_
          exact (ih _ _ h).forget ⟨rfl, rfl, trivial⟩
        · replace h := h.2 c
          refine a_iconst (pc := 35) hC dX9_isTold_35 (v := 0) rfl ?_
          exact a_bret (pc := 36) hC hE (Or.inl rfl) h (Nat.le_of_ble_eq_true rfl) (Nat.le_of_ble_eq_true rfl) dX9_isTold_36
set_option maxRecDepth 20000 in
theorem t_X9_isTold {l : Launch} {g : aG} (hX : isX g) (hl : l.stackTraces = false) (q : aS) (P : Int32 → aS → Prop) (h : w_X9_isTold q P) : aMi l g yX9_isTold (aWs yX9_isTold cX9_isTold 2 (some .boolean)) 4 0 0 [.ref (gAd g 0)] q (fun r u => (r = 0 ∨ r = 1) ∧ P r u) (fun _ _ => False) := by
  refine aMi_of RX9 ⟨by decide +kernel, rfl⟩ (cat_all rfl) (Nat.le_of_ble_eq_true rfl) hl hX.cl (fun f hR hC hE => ?_)
  show AW f g 0 [some (.ref (gAd g 0)), none] [] q 0 0
  unfold w_X9_isTold at h
  refine a_iconst (pc := 0) hC dX9_isTold_0 (v := 0) rfl ?_
  refine a_istore_n (pc := 1) hC dX9_isTold_1 (Nat.le_of_ble_eq_true rfl) ?_
  obtain ⟨N, h⟩ := h
  refine (tLX9_isTold_2 hX P hR hC hE (fun q7 h => ?_) N _ _ h).forget ⟨rfl, rfl, trivial⟩
  refine a_aload_n (pc := 43) hC dX9_isTold_43 rfl ?_
  refine a_get (pc := 44) hC cl_X9 (oX_0 hX) 0 (by decide) tw_303 rfl dX9_isTold_44 ?_
  refine a_get (pc := 47) hC cl_X8 (oX_1 hX) 4 (by decide) tw_159 rfl dX9_isTold_47 ?_
  refine a_aload_n (pc := 50) hC dX9_isTold_50 rfl ?_
  refine a_get (pc := 51) hC cl_X9 (oX_0 hX) 0 (by decide) tw_303 rfl dX9_isTold_51 ?_
  refine a_get (pc := 54) hC cl_X8 (oX_1 hX) 5 (by decide) tw_161 rfl dX9_isTold_54 ?_
  refine a_aload_n (pc := 57) hC dX9_isTold_57 rfl ?_
  refine a_get (pc := 58) hC cl_X9 (oX_0 hX) 0 (by decide) tw_303 rfl dX9_isTold_58 ?_
  refine a_get (pc := 61) hC cl_X8 (oX_1 hX) 6 (by decide) tw_163 rfl dX9_isTold_61 ?_
  refine a_iadd (pc := 64) hC dX9_isTold_64 ?_
  refine a_aload_n (pc := 65) hC dX9_isTold_65 rfl ?_
  refine a_get (pc := 66) hC cl_X9 (oX_0 hX) 0 (by decide) tw_303 rfl dX9_isTold_66 ?_
  refine a_callV (pc := 69) hC hR vm_X8_heldOfAll tw_351 cl_X8 (oX_1 hX) ⟨(Nat.le_of_ble_eq_true rfl), (Nat.le_of_ble_eq_true rfl), (Nat.le_of_ble_eq_true rfl), (Nat.le_of_ble_eq_true rfl)⟩ dX9_isTold_69 (t_X8_heldOfAll hX hC.tr _ _ h) rfl rfl rfl (Nat.le_of_ble_eq_true rfl) (fun r8 q9 h => ?_)
  refine a_iadd (pc := 72) hC dX9_isTold_72 ?_
  refine a_icmp_ne (pc := 73) (tgt := 80) hC dX9_isTold_73 (by decide) (fun c => ?_) (fun c => ?_)
  · replace h := h.1 c
    refine a_iconst (pc := 80) hC dX9_isTold_80 (v := 0) rfl ?_
    exact a_bret (pc := 81) hC hE (Or.inl rfl) h (Nat.le_of_ble_eq_true rfl) (Nat.le_of_ble_eq_true rfl) dX9_isTold_81
  · replace h := h.2 c
    refine a_iconst (pc := 76) hC dX9_isTold_76 (v := 1) rfl ?_
    refine a_goto (pc := 77) (tgt := 81) hC dX9_isTold_77 (by decide) ?_
    exact a_bret (pc := 81) hC hE (Or.inr rfl) h (Nat.le_of_ble_eq_true rfl) (Nat.le_of_ble_eq_true rfl) dX9_isTold_81
set_option maxRecDepth 20000 in
theorem tLX9_dampest_2 {f : aF} {g : aG} (hX : isX g) (P : Int32 → aS → Prop) (X : String → aS → Prop) (hR : f_R f = aR 8 1 6) (hC : aOK f g cX9_dampest 3 RX9) (hE : aEi f g .int P X 1 6) (c1 : Int32) {K : aS → Prop} (hK : ∀ (q : aS), K q → AW f g 33 [none, none, none] [] q 0 0) : ∀ (N : Nat) (v2 : Int32) (q : aS), LX9_dampest_2 c1 P X K N v2 q → AW f g 2 [some (.ref (gAd g 0)), some (.int c1), some (.int v2)] [] q 0 0 := by
  intro N
  induction N with
  | zero =>
    intro v2 q h
    exact h.elim
  | succ N ih =>
    intro v2 q h
    unfold LX9_dampest_2 at h
    refine a_iload_n (pc := 2) hC dX9_dampest_2 rfl ?_
    refine a_aload_n (pc := 3) hC dX9_dampest_3 rfl ?_
    refine a_get (pc := 4) hC cl_X9 (oX_0 hX) 0 (by decide) tw_303 rfl dX9_dampest_4 ?_
    refine a_get (pc := 7) hC cl_X8 (oX_1 hX) 0 (by decide) tw_151 rfl dX9_dampest_7 ?_
    refine a_get (pc := 10) hC cl_X6 (oX_2 hX) 0 (by decide) tw_56 rfl dX9_dampest_10 ?_
    refine a_icmp_ge (pc := 13) (tgt := 33) hC dX9_dampest_13 (by decide) (fun c => ?_) (fun c => ?_)
    · replace h := h.1 c
      exact (hK _ h).forget trivial
    · replace h := h.2 c
      refine a_aload_n (pc := 16) hC dX9_dampest_16 rfl ?_
      refine a_iload_n (pc := 17) hC dX9_dampest_17 rfl ?_
      refine a_callV (pc := 18) hC hR vm_X9_countRoomsAhead tw_618 cl_X9 (oX_0 hX) ⟨(Nat.le_of_ble_eq_true rfl), (Nat.le_of_ble_eq_true rfl), (Nat.le_of_ble_eq_true rfl), (Nat.le_of_ble_eq_true rfl)⟩ dX9_dampest_18 (t_X9_countRoomsAhead hX hC.tr _ _ _ h) rfl rfl rfl (Nat.le_of_ble_eq_true rfl) (fun r2 q3 h => ?_)
      refine a_iload_n (pc := 21) hC dX9_dampest_21 rfl ?_
      refine a_icmp_ne (pc := 22) (tgt := 27) hC dX9_dampest_22 (by decide) (fun c => ?_) (fun c => ?_)
      · replace h := h.1 c
        refine a_iinc (pc := 27) hC dX9_dampest_27 rfl (c := 1) rfl ?_
        replace h := h _ rfl
        refine a_goto (pc := 30) (tgt := 2) hC dX9_dampest_30 (by decide) ?_
        exact (ih _ _ h).forget ⟨rfl, rfl, rfl, trivial⟩
      · replace h := h.2 c
        refine a_iload_n (pc := 25) hC dX9_dampest_25 rfl ?_
        exact a_iret (pc := 26) hC hE h (Nat.le_of_ble_eq_true rfl) (Nat.le_of_ble_eq_true rfl) dX9_dampest_26
set_option maxRecDepth 20000 in
theorem t_X9_dampest {l : Launch} {g : aG} (hX : isX g) (hl : l.stackTraces = false) (x1 : Int32) (q : aS) (P : Int32 → aS → Prop) (X : String → aS → Prop) (h : w_X9_dampest x1 q P X) : aMi l g yX9_dampest (aWs yX9_dampest cX9_dampest 3 (some .int)) 8 1 6 [.ref (gAd g 0), .int x1] q P X := by
  refine aMi_of RX9 ⟨by decide +kernel, rfl⟩ (cat_all rfl) (Nat.le_of_ble_eq_true rfl) hl hX.cl (fun f hR hC hE => ?_)
  show AW f g 0 [some (.ref (gAd g 0)), some (.int x1), none] [] q 0 0
  unfold w_X9_dampest at h
  refine a_iconst (pc := 0) hC dX9_dampest_0 (v := 0) rfl ?_
  refine a_istore_n (pc := 1) hC dX9_dampest_1 (Nat.le_of_ble_eq_true rfl) ?_
  obtain ⟨N, h⟩ := h
  refine (tLX9_dampest_2 hX P X hR hC hE _ (fun q5 h => ?_) N _ _ h).forget ⟨rfl, rfl, rfl, trivial⟩
  exact a_throwN (pc := 33) false hX hC hR hE.1 ex_204 mm_234 rfl ⟨(Nat.le_of_ble_eq_true rfl), (Nat.le_of_ble_eq_true rfl), (Nat.le_of_ble_eq_true rfl), (Nat.le_of_ble_eq_true rfl), (Nat.le_of_ble_eq_true rfl)⟩ (Nat.le_of_ble_eq_true rfl) dX9_dampest_33 dX9_dampest_36 dX9_dampest_37 dX9_dampest_39 dX9_dampest_42 h
set_option maxRecDepth 20000 in
theorem tJX9_ranked_9 {f : aF} {g : aG} (hX : isX g) (P : Int32 → aS → Prop) (X : String → aS → Prop) (hR : f_R f = aR 8 1 6) (hC : aOK f g cX9_ranked 4 RX9) (hE : aEi f g .int P X 1 6) (q : aS) (h : JX9_ranked_9 P X q) : AW f g 9 [none, none, none, none] [] q 0 0 := by
  unfold JX9_ranked_9 at h
  exact a_throw (pc := 9) hX hC hR hE.1 ex_127 mm_236 rfl ⟨(Nat.le_of_ble_eq_true rfl), (Nat.le_of_ble_eq_true rfl), (Nat.le_of_ble_eq_true rfl), (Nat.le_of_ble_eq_true rfl), (Nat.le_of_ble_eq_true rfl)⟩ (Nat.le_of_ble_eq_true rfl) dX9_ranked_9 dX9_ranked_12 dX9_ranked_13 dX9_ranked_15 dX9_ranked_18 h
set_option maxRecDepth 20000 in
theorem tLX9_ranked_21 {f : aF} {g : aG} (hX : isX g) (P : Int32 → aS → Prop) (X : String → aS → Prop) (hR : f_R f = aR 8 1 6) (hC : aOK f g cX9_ranked 4 RX9) (hE : aEi f g .int P X 1 6) (c1 : Int32) (c2 : Int32) {K : aS → Prop} (hK : ∀ (q : aS), K q → AW f g 53 [none, none, none, none] [] q 0 0) : ∀ (N : Nat) (v3 : Int32) (q : aS), LX9_ranked_21 c1 c2 P X K N v3 q → AW f g 21 [some (.ref (gAd g 0)), some (.int c1), some (.int c2), some (.int v3)] [] q 0 0 := by
  intro N
  induction N with
  | zero =>
    intro v3 q h
    exact h.elim
  | succ N ih =>
    intro v3 q h
    unfold LX9_ranked_21 at h
    refine a_iload_n (pc := 21) hC dX9_ranked_21 rfl ?_
    refine a_aload_n (pc := 22) hC dX9_ranked_22 rfl ?_
    refine a_get (pc := 23) hC cl_X9 (oX_0 hX) 0 (by decide) tw_303 rfl dX9_ranked_23 ?_
    refine a_get (pc := 26) hC cl_X8 (oX_1 hX) 2 (by decide) tw_155 rfl dX9_ranked_26 ?_
    refine a_get (pc := 29) hC cl_X7 (oX_12 hX) 0 (by decide) tw_121 rfl dX9_ranked_29 ?_
    refine a_icmp_ge (pc := 32) (tgt := 53) hC dX9_ranked_32 (by decide) (fun c => ?_) (fun c => ?_)
    · replace h := h.1 c
      exact (hK _ h).forget trivial
    · replace h := h.2 c
      refine a_aload_n (pc := 35) hC dX9_ranked_35 rfl ?_
      refine a_iload_n (pc := 36) hC dX9_ranked_36 rfl ?_
      refine a_iload_n (pc := 37) hC dX9_ranked_37 rfl ?_
      refine a_callV (pc := 38) hC hR vm_X9_countSingersAhead tw_632 cl_X9 (oX_0 hX) ⟨(Nat.le_of_ble_eq_true rfl), (Nat.le_of_ble_eq_true rfl), (Nat.le_of_ble_eq_true rfl), (Nat.le_of_ble_eq_true rfl)⟩ dX9_ranked_38 (t_X9_countSingersAhead hX hC.tr _ _ _ _ h) rfl rfl rfl (Nat.le_of_ble_eq_true rfl) (fun r3 q4 h => ?_)
      refine a_iload_n (pc := 41) hC dX9_ranked_41 rfl ?_
      refine a_icmp_ne (pc := 42) (tgt := 47) hC dX9_ranked_42 (by decide) (fun c => ?_) (fun c => ?_)
      · replace h := h.1 c
        refine a_iinc (pc := 47) hC dX9_ranked_47 rfl (c := 1) rfl ?_
        replace h := h _ rfl
        refine a_goto (pc := 50) (tgt := 21) hC dX9_ranked_50 (by decide) ?_
        exact (ih _ _ h).forget ⟨rfl, rfl, rfl, rfl, trivial⟩
      · replace h := h.2 c
        refine a_iload_n (pc := 45) hC dX9_ranked_45 rfl ?_
        exact a_iret (pc := 46) hC hE h (Nat.le_of_ble_eq_true rfl) (Nat.le_of_ble_eq_true rfl) dX9_ranked_46
set_option maxRecDepth 20000 in
theorem t_X9_ranked {l : Launch} {g : aG} (hX : isX g) (hl : l.stackTraces = false) (x1 : Int32) (x2 : Int32) (q : aS) (P : Int32 → aS → Prop) (X : String → aS → Prop) (h : w_X9_ranked x1 x2 q P X) : aMi l g yX9_ranked (aWs yX9_ranked cX9_ranked 4 (some .int)) 8 1 6 [.ref (gAd g 0), .int x1, .int x2] q P X := by
  refine aMi_of RX9 ⟨by decide +kernel, rfl⟩ (cat_all rfl) (Nat.le_of_ble_eq_true rfl) hl hX.cl (fun f hR hC hE => ?_)
  show AW f g 0 [some (.ref (gAd g 0)), some (.int x1), some (.int x2), none] [] q 0 0
  unfold w_X9_ranked at h
  refine a_iload_n (pc := 0) hC dX9_ranked_0 rfl ?_
  refine a_if_lt (pc := 1) (tgt := 9) hC dX9_ranked_1 (by decide) (fun c => ?_) (fun c => ?_)
  · replace h := h.1 c
    exact (tJX9_ranked_9 hX P X hR hC hE _ h).forget trivial
  · replace h := h.2 c
    refine a_iload_n (pc := 4) hC dX9_ranked_4 rfl ?_
    refine a_iconst (pc := 5) hC dX9_ranked_5 (v := 3) rfl ?_
    refine a_icmp_le (pc := 6) (tgt := 19) hC dX9_ranked_6 (by decide) (fun c => ?_) (fun c => ?_)
    · replace h := h.1 c
      refine a_iconst (pc := 19) hC dX9_ranked_19 (v := 0) rfl ?_
      refine a_istore_n (pc := 20) hC dX9_ranked_20 (Nat.le_of_ble_eq_true rfl) ?_
      obtain ⟨N, h⟩ := h
      refine (tLX9_ranked_21 hX P X hR hC hE _ _ (fun q6 h => ?_) N _ _ h).forget ⟨rfl, rfl, rfl, rfl, trivial⟩
      exact a_throwN (pc := 53) false hX hC hR hE.1 ex_204 mm_242 rfl ⟨(Nat.le_of_ble_eq_true rfl), (Nat.le_of_ble_eq_true rfl), (Nat.le_of_ble_eq_true rfl), (Nat.le_of_ble_eq_true rfl), (Nat.le_of_ble_eq_true rfl)⟩ (Nat.le_of_ble_eq_true rfl) dX9_ranked_53 dX9_ranked_56 dX9_ranked_57 dX9_ranked_59 dX9_ranked_62 h
    · replace h := h.2 c
      exact (tJX9_ranked_9 hX P X hR hC hE _ h).forget trivial
set_option maxRecDepth 20000 in
theorem tLX9_strongest_2 {f : aF} {g : aG} (hX : isX g) (P : Int32 → aS → Prop) (X : String → aS → Prop) (hR : f_R f = aR 8 1 6) (hC : aOK f g cX9_strongest 3 RX9) (hE : aEi f g .int P X 1 6) (c1 : Int32) {K : aS → Prop} (hK : ∀ (q : aS), K q → AW f g 33 [none, none, none] [] q 0 0) : ∀ (N : Nat) (v2 : Int32) (q : aS), LX9_strongest_2 c1 P X K N v2 q → AW f g 2 [some (.ref (gAd g 0)), some (.int c1), some (.int v2)] [] q 0 0 := by
  intro N
  induction N with
  | zero =>
    intro v2 q h
    exact h.elim
  | succ N ih =>
    intro v2 q h
    unfold LX9_strongest_2 at h
    refine a_iload_n (pc := 2) hC dX9_strongest_2 rfl ?_
    refine a_aload_n (pc := 3) hC dX9_strongest_3 rfl ?_
    refine a_get (pc := 4) hC cl_X9 (oX_0 hX) 0 (by decide) tw_303 rfl dX9_strongest_4 ?_
    refine a_get (pc := 7) hC cl_X8 (oX_1 hX) 1 (by decide) tw_153 rfl dX9_strongest_7 ?_
    refine a_get (pc := 10) hC cl_X1 (oX_6 hX) 0 (by decide) tw_84 rfl dX9_strongest_10 ?_
    refine a_icmp_ge (pc := 13) (tgt := 33) hC dX9_strongest_13 (by decide) (fun c => ?_) (fun c => ?_)
    · replace h := h.1 c
      exact (hK _ h).forget trivial
    · replace h := h.2 c
      refine a_aload_n (pc := 16) hC dX9_strongest_16 rfl ?_
      refine a_iload_n (pc := 17) hC dX9_strongest_17 rfl ?_
      refine a_callV (pc := 18) hC hR vm_X9_countEchoesAhead tw_645 cl_X9 (oX_0 hX) ⟨(Nat.le_of_ble_eq_true rfl), (Nat.le_of_ble_eq_true rfl), (Nat.le_of_ble_eq_true rfl), (Nat.le_of_ble_eq_true rfl)⟩ dX9_strongest_18 (t_X9_countEchoesAhead hX hC.tr _ _ _ h) rfl rfl rfl (Nat.le_of_ble_eq_true rfl) (fun r2 q3 h => ?_)
      refine a_iload_n (pc := 21) hC dX9_strongest_21 rfl ?_
      refine a_icmp_ne (pc := 22) (tgt := 27) hC dX9_strongest_22 (by decide) (fun c => ?_) (fun c => ?_)
      · replace h := h.1 c
        refine a_iinc (pc := 27) hC dX9_strongest_27 rfl (c := 1) rfl ?_
        replace h := h _ rfl
        refine a_goto (pc := 30) (tgt := 2) hC dX9_strongest_30 (by decide) ?_
        exact (ih _ _ h).forget ⟨rfl, rfl, rfl, trivial⟩
      · replace h := h.2 c
        refine a_iload_n (pc := 25) hC dX9_strongest_25 rfl ?_
        exact a_iret (pc := 26) hC hE h (Nat.le_of_ble_eq_true rfl) (Nat.le_of_ble_eq_true rfl) dX9_strongest_26
set_option maxRecDepth 20000 in
theorem t_X9_strongest {l : Launch} {g : aG} (hX : isX g) (hl : l.stackTraces = false) (x1 : Int32) (q : aS) (P : Int32 → aS → Prop) (X : String → aS → Prop) (h : w_X9_strongest x1 q P X) : aMi l g yX9_strongest (aWs yX9_strongest cX9_strongest 3 (some .int)) 8 1 6 [.ref (gAd g 0), .int x1] q P X := by
  refine aMi_of RX9 ⟨by decide +kernel, rfl⟩ (cat_all rfl) (Nat.le_of_ble_eq_true rfl) hl hX.cl (fun f hR hC hE => ?_)
  show AW f g 0 [some (.ref (gAd g 0)), some (.int x1), none] [] q 0 0
  unfold w_X9_strongest at h
  refine a_iconst (pc := 0) hC dX9_strongest_0 (v := 0) rfl ?_
  refine a_istore_n (pc := 1) hC dX9_strongest_1 (Nat.le_of_ble_eq_true rfl) ?_
  obtain ⟨N, h⟩ := h
  refine (tLX9_strongest_2 hX P X hR hC hE _ (fun q5 h => ?_) N _ _ h).forget ⟨rfl, rfl, rfl, trivial⟩
  exact a_throwN (pc := 33) false hX hC hR hE.1 ex_204 mm_248 rfl ⟨(Nat.le_of_ble_eq_true rfl), (Nat.le_of_ble_eq_true rfl), (Nat.le_of_ble_eq_true rfl), (Nat.le_of_ble_eq_true rfl), (Nat.le_of_ble_eq_true rfl)⟩ (Nat.le_of_ble_eq_true rfl) dX9_strongest_33 dX9_strongest_36 dX9_strongest_37 dX9_strongest_39 dX9_strongest_42 h
set_option maxRecDepth 20000 in
theorem t_X9_account {l : Launch} {g : aG} (hX : isX g) (hl : l.stackTraces = false) (x1 : Int32) (q : aS) (P : Int32 → aS → Prop) (X : String → aS → Prop) (h : w_X9_account x1 q P X) : aMi l g yX9_account (aWs yX9_account cX9_account 2 (some .int)) 8 1 6 [.ref (gAd g 0), .int x1] q P X := by
  refine aMi_of RX9 ⟨by decide +kernel, rfl⟩ (cat_all rfl) (Nat.le_of_ble_eq_true rfl) hl hX.cl (fun f hR hC hE => ?_)
  show AW f g 0 [some (.ref (gAd g 0)), some (.int x1)] [] q 0 0
  unfold w_X9_account at h
  refine a_iload_n (pc := 0) hC dX9_account_0 rfl ?_
  refine tab_or (fun c0 => ?_) (fun c0 => ?_) h
  · intro h
    refine a_tabIn (pc := 1) (tgt := 72) hC dX9_account_1 (by rw [c0]; decide) (by rw [c0]; decide) (by rw [c0]; rfl) (by decide) ?_
    refine a_aload_n (pc := 72) hC dX9_account_72 rfl ?_
    refine a_get (pc := 73) hC cl_X9 (oX_0 hX) 0 (by decide) tw_303 rfl dX9_account_73 ?_
    refine a_get (pc := 76) hC cl_X8 (oX_1 hX) 0 (by decide) tw_151 rfl dX9_account_76 ?_
    refine a_get (pc := 79) hC cl_X6 (oX_2 hX) 0 (by decide) tw_56 rfl dX9_account_79 ?_
    exact a_iret (pc := 82) hC hE h (Nat.le_of_ble_eq_true rfl) (Nat.le_of_ble_eq_true rfl) dX9_account_82
  intro h
  refine tab_or (fun c1 => ?_) (fun c1 => ?_) h
  · intro h
    refine a_tabIn (pc := 1) (tgt := 83) hC dX9_account_1 (by rw [c1]; decide) (by rw [c1]; decide) (by rw [c1]; rfl) (by decide) ?_
    refine a_aload_n (pc := 83) hC dX9_account_83 rfl ?_
    refine a_get (pc := 84) hC cl_X9 (oX_0 hX) 0 (by decide) tw_303 rfl dX9_account_84 ?_
    refine a_get (pc := 87) hC cl_X8 (oX_1 hX) 1 (by decide) tw_153 rfl dX9_account_87 ?_
    refine a_get (pc := 90) hC cl_X1 (oX_6 hX) 0 (by decide) tw_84 rfl dX9_account_90 ?_
    exact a_iret (pc := 93) hC hE h (Nat.le_of_ble_eq_true rfl) (Nat.le_of_ble_eq_true rfl) dX9_account_93
  intro h
  refine tab_or (fun c2 => ?_) (fun c2 => ?_) h
  · intro h
    refine a_tabIn (pc := 1) (tgt := 94) hC dX9_account_1 (by rw [c2]; decide) (by rw [c2]; decide) (by rw [c2]; rfl) (by decide) ?_
    refine a_aload_n (pc := 94) hC dX9_account_94 rfl ?_
    refine a_get (pc := 95) hC cl_X9 (oX_0 hX) 0 (by decide) tw_303 rfl dX9_account_95 ?_
    refine a_get (pc := 98) hC cl_X8 (oX_1 hX) 2 (by decide) tw_155 rfl dX9_account_98 ?_
    refine a_get (pc := 101) hC cl_X7 (oX_12 hX) 0 (by decide) tw_121 rfl dX9_account_101 ?_
    exact a_iret (pc := 104) hC hE h (Nat.le_of_ble_eq_true rfl) (Nat.le_of_ble_eq_true rfl) dX9_account_104
  intro h
  refine tab_or (fun c3 => ?_) (fun c3 => ?_) h
  · intro h
    refine a_tabIn (pc := 1) (tgt := 105) hC dX9_account_1 (by rw [c3]; decide) (by rw [c3]; decide) (by rw [c3]; rfl) (by decide) ?_
    refine a_aload_n (pc := 105) hC dX9_account_105 rfl ?_
    refine a_get (pc := 106) hC cl_X9 (oX_0 hX) 0 (by decide) tw_303 rfl dX9_account_106 ?_
    refine a_callV (pc := 109) hC hR vm_X8_countLet tw_331 cl_X8 (oX_1 hX) ⟨(Nat.le_of_ble_eq_true rfl), (Nat.le_of_ble_eq_true rfl), (Nat.le_of_ble_eq_true rfl), (Nat.le_of_ble_eq_true rfl)⟩ dX9_account_109 (t_X8_countLet hX hC.tr _ _ h) rfl rfl rfl (Nat.le_of_ble_eq_true rfl) (fun r2 q3 h => ?_)
    exact a_iret (pc := 112) hC hE h (Nat.le_of_ble_eq_true rfl) (Nat.le_of_ble_eq_true rfl) dX9_account_112
  intro h
  refine tab_or (fun c4 => ?_) (fun c4 => ?_) h
  · intro h
    refine a_tabIn (pc := 1) (tgt := 113) hC dX9_account_1 (by rw [c4]; decide) (by rw [c4]; decide) (by rw [c4]; rfl) (by decide) ?_
    refine a_aload_n (pc := 113) hC dX9_account_113 rfl ?_
    refine a_get (pc := 114) hC cl_X9 (oX_0 hX) 0 (by decide) tw_303 rfl dX9_account_114 ?_
    refine a_get (pc := 117) hC cl_X8 (oX_1 hX) 3 (by decide) tw_157 rfl dX9_account_117 ?_
    exact a_iret (pc := 120) hC hE h (Nat.le_of_ble_eq_true rfl) (Nat.le_of_ble_eq_true rfl) dX9_account_120
  intro h
  refine tab_or (fun c5 => ?_) (fun c5 => ?_) h
  · intro h
    refine a_tabIn (pc := 1) (tgt := 121) hC dX9_account_1 (by rw [c5]; decide) (by rw [c5]; decide) (by rw [c5]; rfl) (by decide) ?_
    refine a_aload_n (pc := 121) hC dX9_account_121 rfl ?_
    refine a_get (pc := 122) hC cl_X9 (oX_0 hX) 0 (by decide) tw_303 rfl dX9_account_122 ?_
    refine a_callV (pc := 125) hC hR vm_X8_dampOfAll tw_339 cl_X8 (oX_1 hX) ⟨(Nat.le_of_ble_eq_true rfl), (Nat.le_of_ble_eq_true rfl), (Nat.le_of_ble_eq_true rfl), (Nat.le_of_ble_eq_true rfl)⟩ dX9_account_125 (t_X8_dampOfAll hX hC.tr _ _ h) rfl rfl rfl (Nat.le_of_ble_eq_true rfl) (fun r4 q5 h => ?_)
    exact a_iret (pc := 128) hC hE h (Nat.le_of_ble_eq_true rfl) (Nat.le_of_ble_eq_true rfl) dX9_account_128
  intro h
  refine tab_or (fun c6 => ?_) (fun c6 => ?_) h
  · intro h
    refine a_tabIn (pc := 1) (tgt := 129) hC dX9_account_1 (by rw [c6]; decide) (by rw [c6]; decide) (by rw [c6]; rfl) (by decide) ?_
    refine a_aload_n (pc := 129) hC dX9_account_129 rfl ?_
    refine a_get (pc := 130) hC cl_X9 (oX_0 hX) 0 (by decide) tw_303 rfl dX9_account_130 ?_
    refine a_callV (pc := 133) hC hR vm_X8_versesOfAll tw_343 cl_X8 (oX_1 hX) ⟨(Nat.le_of_ble_eq_true rfl), (Nat.le_of_ble_eq_true rfl), (Nat.le_of_ble_eq_true rfl), (Nat.le_of_ble_eq_true rfl)⟩ dX9_account_133 (t_X8_versesOfAll hX hC.tr _ _ h) rfl rfl rfl (Nat.le_of_ble_eq_true rfl) (fun r6 q7 h => ?_)
    exact a_iret (pc := 136) hC hE h (Nat.le_of_ble_eq_true rfl) (Nat.le_of_ble_eq_true rfl) dX9_account_136
  intro h
  refine tab_or (fun c7 => ?_) (fun c7 => ?_) h
  · intro h
    refine a_tabIn (pc := 1) (tgt := 137) hC dX9_account_1 (by rw [c7]; decide) (by rw [c7]; decide) (by rw [c7]; rfl) (by decide) ?_
    refine a_aload_n (pc := 137) hC dX9_account_137 rfl ?_
    refine a_get (pc := 138) hC cl_X9 (oX_0 hX) 0 (by decide) tw_303 rfl dX9_account_138 ?_
    refine a_callV (pc := 141) hC hR vm_X8_tonesOfAll tw_347 cl_X8 (oX_1 hX) ⟨(Nat.le_of_ble_eq_true rfl), (Nat.le_of_ble_eq_true rfl), (Nat.le_of_ble_eq_true rfl), (Nat.le_of_ble_eq_true rfl)⟩ dX9_account_141 (t_X8_tonesOfAll hX hC.tr _ _ h) rfl rfl rfl (Nat.le_of_ble_eq_true rfl) (fun r8 q9 h => ?_)
    exact a_iret (pc := 144) hC hE h (Nat.le_of_ble_eq_true rfl) (Nat.le_of_ble_eq_true rfl) dX9_account_144
  intro h
  refine tab_or (fun c8 => ?_) (fun c8 => ?_) h
  · intro h
    refine a_tabIn (pc := 1) (tgt := 145) hC dX9_account_1 (by rw [c8]; decide) (by rw [c8]; decide) (by rw [c8]; rfl) (by decide) ?_
    refine a_aload_n (pc := 145) hC dX9_account_145 rfl ?_
    refine a_get (pc := 146) hC cl_X9 (oX_0 hX) 0 (by decide) tw_303 rfl dX9_account_146 ?_
    refine a_get (pc := 149) hC cl_X8 (oX_1 hX) 4 (by decide) tw_159 rfl dX9_account_149 ?_
    exact a_iret (pc := 152) hC hE h (Nat.le_of_ble_eq_true rfl) (Nat.le_of_ble_eq_true rfl) dX9_account_152
  intro h
  refine tab_or (fun c9 => ?_) (fun c9 => ?_) h
  · intro h
    refine a_tabIn (pc := 1) (tgt := 153) hC dX9_account_1 (by rw [c9]; decide) (by rw [c9]; decide) (by rw [c9]; rfl) (by decide) ?_
    refine a_aload_n (pc := 153) hC dX9_account_153 rfl ?_
    refine a_get (pc := 154) hC cl_X9 (oX_0 hX) 0 (by decide) tw_303 rfl dX9_account_154 ?_
    refine a_get (pc := 157) hC cl_X8 (oX_1 hX) 5 (by decide) tw_161 rfl dX9_account_157 ?_
    exact a_iret (pc := 160) hC hE h (Nat.le_of_ble_eq_true rfl) (Nat.le_of_ble_eq_true rfl) dX9_account_160
  intro h
  refine tab_or (fun c10 => ?_) (fun c10 => ?_) h
  · intro h
    refine a_tabIn (pc := 1) (tgt := 161) hC dX9_account_1 (by rw [c10]; decide) (by rw [c10]; decide) (by rw [c10]; rfl) (by decide) ?_
    refine a_aload_n (pc := 161) hC dX9_account_161 rfl ?_
    refine a_get (pc := 162) hC cl_X9 (oX_0 hX) 0 (by decide) tw_303 rfl dX9_account_162 ?_
    refine a_get (pc := 165) hC cl_X8 (oX_1 hX) 6 (by decide) tw_163 rfl dX9_account_165 ?_
    exact a_iret (pc := 168) hC hE h (Nat.le_of_ble_eq_true rfl) (Nat.le_of_ble_eq_true rfl) dX9_account_168
  intro h
  refine tab_or (fun c11 => ?_) (fun c11 => ?_) h
  · intro h
    refine a_tabIn (pc := 1) (tgt := 169) hC dX9_account_1 (by rw [c11]; decide) (by rw [c11]; decide) (by rw [c11]; rfl) (by decide) ?_
    refine a_aload_n (pc := 169) hC dX9_account_169 rfl ?_
    refine a_get (pc := 170) hC cl_X9 (oX_0 hX) 0 (by decide) tw_303 rfl dX9_account_170 ?_
    refine a_callV (pc := 173) hC hR vm_X8_heldOfAll tw_351 cl_X8 (oX_1 hX) ⟨(Nat.le_of_ble_eq_true rfl), (Nat.le_of_ble_eq_true rfl), (Nat.le_of_ble_eq_true rfl), (Nat.le_of_ble_eq_true rfl)⟩ dX9_account_173 (t_X8_heldOfAll hX hC.tr _ _ h) rfl rfl rfl (Nat.le_of_ble_eq_true rfl) (fun r10 q11 h => ?_)
    exact a_iret (pc := 176) hC hE h (Nat.le_of_ble_eq_true rfl) (Nat.le_of_ble_eq_true rfl) dX9_account_176
  intro h
  refine tab_or (fun c12 => ?_) (fun c12 => ?_) h
  · intro h
    refine a_tabIn (pc := 1) (tgt := 177) hC dX9_account_1 (by rw [c12]; decide) (by rw [c12]; decide) (by rw [c12]; rfl) (by decide) ?_
    refine a_aload_n (pc := 177) hC dX9_account_177 rfl ?_
    refine a_get (pc := 178) hC cl_X9 (oX_0 hX) 5 (by decide) tw_307 rfl dX9_account_178 ?_
    refine a_get (pc := 181) hC cl_X3 (oX_190 hX) 1 (by decide) tw_213 rfl dX9_account_181 ?_
    exact a_iret (pc := 184) hC hE h (Nat.le_of_ble_eq_true rfl) (Nat.le_of_ble_eq_true rfl) dX9_account_184
  intro h
  refine tab_or (fun c13 => ?_) (fun c13 => ?_) h
  · intro h
    refine a_tabIn (pc := 1) (tgt := 185) hC dX9_account_1 (by rw [c13]; decide) (by rw [c13]; decide) (by rw [c13]; rfl) (by decide) ?_
    refine a_aload_n (pc := 185) hC dX9_account_185 rfl ?_
    refine a_get (pc := 186) hC cl_X9 (oX_0 hX) 4 (by decide) tw_306 rfl dX9_account_186 ?_
    refine a_get (pc := 189) hC cl_X4 (oX_52 hX) 2 (by decide) tw_191 rfl dX9_account_189 ?_
    exact a_iret (pc := 192) hC hE h (Nat.le_of_ble_eq_true rfl) (Nat.le_of_ble_eq_true rfl) dX9_account_192
  intro h
  refine a_tabOut (pc := 1) (tgt := 193) hC dX9_account_1 (by have e0 := tab_ne (z := 0) rfl c0; have e1 := tab_ne (z := 1) rfl c1; have e2 := tab_ne (z := 2) rfl c2; have e3 := tab_ne (z := 3) rfl c3; have e4 := tab_ne (z := 4) rfl c4; have e5 := tab_ne (z := 5) rfl c5; have e6 := tab_ne (z := 6) rfl c6; have e7 := tab_ne (z := 7) rfl c7; have e8 := tab_ne (z := 8) rfl c8; have e9 := tab_ne (z := 9) rfl c9; have e10 := tab_ne (z := 10) rfl c10; have e11 := tab_ne (z := 11) rfl c11; have e12 := tab_ne (z := 12) rfl c12; have e13 := tab_ne (z := 13) rfl c13; omega) (by decide) ?_
  exact a_throwW (pc := 193) hX hC hR hE.1 ex_127 mm_370 rfl ⟨(Nat.le_of_ble_eq_true rfl), (Nat.le_of_ble_eq_true rfl), (Nat.le_of_ble_eq_true rfl), (Nat.le_of_ble_eq_true rfl), (Nat.le_of_ble_eq_true rfl)⟩ (Nat.le_of_ble_eq_true rfl) dX9_account_193 dX9_account_196 dX9_account_197 dX9_account_200 dX9_account_203 h
set_option maxRecDepth 20000 in
theorem t_X9_meanDamp {l : Launch} {g : aG} (hX : isX g) (hl : l.stackTraces = false) (q : aS) (P : UInt64 → aS → Prop) (X : String → aS → Prop) (h : w_X9_meanDamp q P X) : aMd l g yX9_meanDamp (aWs yX9_meanDamp cX9_meanDamp 1 (some .double)) 8 1 6 [.ref (gAd g 0)] q P X := by
  refine aMd_of RX9 ⟨by decide +kernel, rfl⟩ (cat_all rfl) (Nat.le_of_ble_eq_true rfl) hl hX.cl (fun f hR hC hE => ?_)
  show AW f g 0 [some (.ref (gAd g 0))] [] q 0 0
  unfold w_X9_meanDamp at h
  refine a_aload_n (pc := 0) hC dX9_meanDamp_0 rfl ?_
  refine a_get (pc := 1) hC cl_X9 (oX_0 hX) 0 (by decide) tw_303 rfl dX9_meanDamp_1 ?_
  refine a_get (pc := 4) hC cl_X8 (oX_1 hX) 0 (by decide) tw_151 rfl dX9_meanDamp_4 ?_
  refine a_get (pc := 7) hC cl_X6 (oX_2 hX) 0 (by decide) tw_56 rfl dX9_meanDamp_7 ?_
  refine a_if_ne (pc := 10) (tgt := 23) hC dX9_meanDamp_10 (by decide) (fun c => ?_) (fun c => ?_)
  · replace h := h.1 c
    refine a_aload_n (pc := 23) hC dX9_meanDamp_23 rfl ?_
    refine a_get (pc := 24) hC cl_X9 (oX_0 hX) 0 (by decide) tw_303 rfl dX9_meanDamp_24 ?_
    refine a_callV (pc := 27) hC hR vm_X8_dampOfAll tw_339 cl_X8 (oX_1 hX) ⟨(Nat.le_of_ble_eq_true rfl), (Nat.le_of_ble_eq_true rfl), (Nat.le_of_ble_eq_true rfl), (Nat.le_of_ble_eq_true rfl)⟩ dX9_meanDamp_27 (t_X8_dampOfAll hX hC.tr _ _ h) rfl rfl rfl (Nat.le_of_ble_eq_true rfl) (fun r1 q2 h => ?_)
    refine a_i2d (pc := 30) hC dX9_meanDamp_30 ?_
    refine a_aload_n (pc := 31) hC dX9_meanDamp_31 rfl ?_
    refine a_get (pc := 32) hC cl_X9 (oX_0 hX) 0 (by decide) tw_303 rfl dX9_meanDamp_32 ?_
    refine a_get (pc := 35) hC cl_X8 (oX_1 hX) 0 (by decide) tw_151 rfl dX9_meanDamp_35 ?_
    refine a_get (pc := 38) hC cl_X6 (oX_2 hX) 0 (by decide) tw_56 rfl dX9_meanDamp_38 ?_
    refine a_i2d (pc := 41) hC dX9_meanDamp_41 ?_
    refine a_ddiv (pc := 42) hC dX9_meanDamp_42 h.1 ?_
    replace h := h.2
    exact a_dret (pc := 43) hC hE h (Nat.le_of_ble_eq_true rfl) (Nat.le_of_ble_eq_true rfl) dX9_meanDamp_43
  · replace h := h.2 c
    exact a_throw (pc := 13) hX hC hR hE.1 ex_372 mm_206 rfl ⟨(Nat.le_of_ble_eq_true rfl), (Nat.le_of_ble_eq_true rfl), (Nat.le_of_ble_eq_true rfl), (Nat.le_of_ble_eq_true rfl), (Nat.le_of_ble_eq_true rfl)⟩ (Nat.le_of_ble_eq_true rfl) dX9_meanDamp_13 dX9_meanDamp_16 dX9_meanDamp_17 dX9_meanDamp_19 dX9_meanDamp_22 h
set_option maxRecDepth 20000 in
theorem t_X9_letShare {l : Launch} {g : aG} (hX : isX g) (hl : l.stackTraces = false) (q : aS) (P : UInt32 → aS → Prop) (X : String → aS → Prop) (h : w_X9_letShare q P X) : aMf l g yX9_letShare (aWs yX9_letShare cX9_letShare 1 (some .float)) 8 1 6 [.ref (gAd g 0)] q P X := by
  refine aMf_of RX9 ⟨by decide +kernel, rfl⟩ (cat_all rfl) (Nat.le_of_ble_eq_true rfl) hl hX.cl (fun f hR hC hE => ?_)
  show AW f g 0 [some (.ref (gAd g 0))] [] q 0 0
  unfold w_X9_letShare at h
  refine a_aload_n (pc := 0) hC dX9_letShare_0 rfl ?_
  refine a_get (pc := 1) hC cl_X9 (oX_0 hX) 0 (by decide) tw_303 rfl dX9_letShare_1 ?_
  refine a_get (pc := 4) hC cl_X8 (oX_1 hX) 1 (by decide) tw_153 rfl dX9_letShare_4 ?_
  refine a_get (pc := 7) hC cl_X1 (oX_6 hX) 0 (by decide) tw_84 rfl dX9_letShare_7 ?_
  refine a_if_ne (pc := 10) (tgt := 24) hC dX9_letShare_10 (by decide) (fun c => ?_) (fun c => ?_)
  · replace h := h.1 c
    refine a_aload_n (pc := 24) hC dX9_letShare_24 rfl ?_
    refine a_get (pc := 25) hC cl_X9 (oX_0 hX) 0 (by decide) tw_303 rfl dX9_letShare_25 ?_
    refine a_callV (pc := 28) hC hR vm_X8_countLet tw_331 cl_X8 (oX_1 hX) ⟨(Nat.le_of_ble_eq_true rfl), (Nat.le_of_ble_eq_true rfl), (Nat.le_of_ble_eq_true rfl), (Nat.le_of_ble_eq_true rfl)⟩ dX9_letShare_28 (t_X8_countLet hX hC.tr _ _ h) rfl rfl rfl (Nat.le_of_ble_eq_true rfl) (fun r1 q2 h => ?_)
    refine a_i2f (pc := 31) hC dX9_letShare_31 ?_
    refine a_aload_n (pc := 32) hC dX9_letShare_32 rfl ?_
    refine a_get (pc := 33) hC cl_X9 (oX_0 hX) 0 (by decide) tw_303 rfl dX9_letShare_33 ?_
    refine a_get (pc := 36) hC cl_X8 (oX_1 hX) 1 (by decide) tw_153 rfl dX9_letShare_36 ?_
    refine a_get (pc := 39) hC cl_X1 (oX_6 hX) 0 (by decide) tw_84 rfl dX9_letShare_39 ?_
    refine a_i2f (pc := 42) hC dX9_letShare_42 ?_
    refine a_fdiv (pc := 43) hC dX9_letShare_43 h.1 ?_
    replace h := h.2
    exact a_fret (pc := 44) hC hE h (Nat.le_of_ble_eq_true rfl) (Nat.le_of_ble_eq_true rfl) dX9_letShare_44
  · replace h := h.2 c
    exact a_throwW (pc := 13) hX hC hR hE.1 ex_372 mm_375 rfl ⟨(Nat.le_of_ble_eq_true rfl), (Nat.le_of_ble_eq_true rfl), (Nat.le_of_ble_eq_true rfl), (Nat.le_of_ble_eq_true rfl), (Nat.le_of_ble_eq_true rfl)⟩ (Nat.le_of_ble_eq_true rfl) dX9_letShare_13 dX9_letShare_16 dX9_letShare_17 dX9_letShare_20 dX9_letShare_23 h
