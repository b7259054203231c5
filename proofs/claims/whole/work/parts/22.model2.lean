theorem dX10_othersIn_0 : decode cX10_othersIn 0 = .ok (.aload_n 0, 1) := by decide +kernel
theorem dX10_othersIn_1 : decode cX10_othersIn 1 = .ok (.iload_n 1, 1) := by decide +kernel
theorem dX10_othersIn_2 : decode cX10_othersIn 2 = .ok (.invokevirtual 89, 3) := by decide +kernel
theorem dX10_othersIn_5 : decode cX10_othersIn 5 = .ok (.invokestatic 92, 3) := by decide +kernel
theorem dX10_othersIn_8 : decode cX10_othersIn 8 = .ok (.ireturn, 1) := by decide +kernel
theorem vm_X10_othersIn : aVm yX10_othersIn RX10 cX10_othersIn 2 (some .int) 1 := ⟨tw_1680, tw_1679, List.mem_append_left _ (List.mem_of_getElem? (i := 40) (by decide +kernel)), tw_15, rfl, by decide +kernel, by decide +kernel, by decide +kernel⟩
theorem dX10_worthOf_0 : decode cX10_worthOf 0 = .ok (.iconst 0, 1) := by decide +kernel
theorem dX10_worthOf_1 : decode cX10_worthOf 1 = .ok (.aload_n 0, 1) := by decide +kernel
theorem dX10_worthOf_2 : decode cX10_worthOf 2 = .ok (.getfield 9, 3) := by decide +kernel
theorem dX10_worthOf_5 : decode cX10_worthOf 5 = .ok (.iload_n 1, 1) := by decide +kernel
theorem dX10_worthOf_6 : decode cX10_worthOf 6 = .ok (.invokestatic 86, 3) := by decide +kernel
theorem dX10_worthOf_9 : decode cX10_worthOf 9 = .ok (.iconst 1, 1) := by decide +kernel
theorem dX10_worthOf_10 : decode cX10_worthOf 10 = .ok (.iadd, 1) := by decide +kernel
theorem dX10_worthOf_11 : decode cX10_worthOf 11 = .ok (.iaload, 1) := by decide +kernel
theorem dX10_worthOf_12 : decode cX10_worthOf 12 = .ok (.aload_n 0, 1) := by decide +kernel
theorem dX10_worthOf_13 : decode cX10_worthOf 13 = .ok (.getfield 9, 3) := by decide +kernel
theorem dX10_worthOf_16 : decode cX10_worthOf 16 = .ok (.aload_n 0, 1) := by decide +kernel
theorem dX10_worthOf_17 : decode cX10_worthOf 17 = .ok (.getfield 9, 3) := by decide +kernel
theorem dX10_worthOf_20 : decode cX10_worthOf 20 = .ok (.iload_n 1, 1) := by decide +kernel
theorem dX10_worthOf_21 : decode cX10_worthOf 21 = .ok (.invokestatic 86, 3) := by decide +kernel
theorem dX10_worthOf_24 : decode cX10_worthOf 24 = .ok (.iconst 0, 1) := by decide +kernel
theorem dX10_worthOf_25 : decode cX10_worthOf 25 = .ok (.iadd, 1) := by decide +kernel
theorem dX10_worthOf_26 : decode cX10_worthOf 26 = .ok (.iaload, 1) := by decide +kernel
theorem dX10_worthOf_27 : decode cX10_worthOf 27 = .ok (.invokestatic 97, 3) := by decide +kernel
theorem dX10_worthOf_30 : decode cX10_worthOf 30 = .ok (.iconst 1, 1) := by decide +kernel
theorem dX10_worthOf_31 : decode cX10_worthOf 31 = .ok (.iadd, 1) := by decide +kernel
theorem dX10_worthOf_32 : decode cX10_worthOf 32 = .ok (.iaload, 1) := by decide +kernel
theorem dX10_worthOf_33 : decode cX10_worthOf 33 = .ok (.isub, 1) := by decide +kernel
theorem dX10_worthOf_34 : decode cX10_worthOf 34 = .ok (.invokestatic 100, 3) := by decide +kernel
theorem dX10_worthOf_37 : decode cX10_worthOf 37 = .ok (.ireturn, 1) := by decide +kernel
theorem vm_X10_worthOf : aVm yX10_worthOf RX10 cX10_worthOf 2 (some .int) 1 := ⟨tw_1735, tw_1734, List.mem_append_left _ (List.mem_of_getElem? (i := 49) (by decide +kernel)), tw_15, rfl, by decide +kernel, by decide +kernel, by decide +kernel⟩
theorem dX10_opens_0 : decode cX10_opens 0 = .ok (.aload_n 0, 1) := by decide +kernel
theorem dX10_opens_1 : decode cX10_opens 1 = .ok (.iload_n 1, 1) := by decide +kernel
theorem dX10_opens_2 : decode cX10_opens 2 = .ok (.iconst 1, 1) := by decide +kernel
theorem dX10_opens_3 : decode cX10_opens 3 = .ok (.bipush 9, 2) := by decide +kernel
theorem dX10_opens_5 : decode cX10_opens 5 = .ok (.invokestatic 70, 3) := by decide +kernel
theorem dX10_opens_8 : decode cX10_opens 8 = .ok (.ifCond .ne 7, 3) := by decide +kernel
theorem dX10_opens_11 : decode cX10_opens 11 = .ok (.iconst 1, 1) := by decide +kernel
theorem dX10_opens_12 : decode cX10_opens 12 = .ok (.goto 4, 3) := by decide +kernel
theorem dX10_opens_15 : decode cX10_opens 15 = .ok (.iconst 0, 1) := by decide +kernel
theorem dX10_opens_16 : decode cX10_opens 16 = .ok (.iconst 3, 1) := by decide +kernel
theorem dX10_opens_17 : decode cX10_opens 17 = .ok (.iload_n 1, 1) := by decide +kernel
theorem dX10_opens_18 : decode cX10_opens 18 = .ok (.invokevirtual 106, 3) := by decide +kernel
theorem dX10_opens_21 : decode cX10_opens 21 = .ok (.aload_n 0, 1) := by decide +kernel
theorem dX10_opens_22 : decode cX10_opens 22 = .ok (.aload_n 0, 1) := by decide +kernel
theorem dX10_opens_23 : decode cX10_opens 23 = .ok (.getfield 9, 3) := by decide +kernel
theorem dX10_opens_26 : decode cX10_opens 26 = .ok (.iconst 0, 1) := by decide +kernel
theorem dX10_opens_27 : decode cX10_opens 27 = .ok (.iaload, 1) := by decide +kernel
theorem dX10_opens_28 : decode cX10_opens 28 = .ok (.bipush 6, 2) := by decide +kernel
theorem dX10_opens_30 : decode cX10_opens 30 = .ok (.if_icmp .ne 7, 3) := by decide +kernel
theorem dX10_opens_33 : decode cX10_opens 33 = .ok (.iconst 1, 1) := by decide +kernel
theorem dX10_opens_34 : decode cX10_opens 34 = .ok (.goto 4, 3) := by decide +kernel
theorem dX10_opens_37 : decode cX10_opens 37 = .ok (.iconst 0, 1) := by decide +kernel
theorem dX10_opens_38 : decode cX10_opens 38 = .ok (.iconst 1, 1) := by decide +kernel
theorem dX10_opens_39 : decode cX10_opens 39 = .ok (.bipush 6, 2) := by decide +kernel
theorem dX10_opens_41 : decode cX10_opens 41 = .ok (.invokevirtual 106, 3) := by decide +kernel
theorem dX10_opens_44 : decode cX10_opens 44 = .ok (.aload_n 0, 1) := by decide +kernel
theorem dX10_opens_45 : decode cX10_opens 45 = .ok (.getfield 38, 3) := by decide +kernel
theorem dX10_opens_48 : decode cX10_opens 48 = .ok (.ifCond .eq 5, 3) := by decide +kernel
theorem dX10_opens_51 : decode cX10_opens 51 = .ok (.iconst 0, 1) := by decide +kernel
theorem dX10_opens_52 : decode cX10_opens 52 = .ok (.ireturn, 1) := by decide +kernel
theorem dX10_opens_53 : decode cX10_opens 53 = .ok (.aload_n 0, 1) := by decide +kernel
theorem dX10_opens_54 : decode cX10_opens 54 = .ok (.getfield 9, 3) := by decide +kernel
theorem dX10_opens_57 : decode cX10_opens 57 = .ok (.aload_n 0, 1) := by decide +kernel
theorem dX10_opens_58 : decode cX10_opens 58 = .ok (.getfield 9, 3) := by decide +kernel
theorem dX10_opens_61 : decode cX10_opens 61 = .ok (.iconst 0, 1) := by decide +kernel
theorem dX10_opens_62 : decode cX10_opens 62 = .ok (.iaload, 1) := by decide +kernel
theorem dX10_opens_63 : decode cX10_opens 63 = .ok (.invokestatic 97, 3) := by decide +kernel
theorem dX10_opens_66 : decode cX10_opens 66 = .ok (.iconst 0, 1) := by decide +kernel
theorem dX10_opens_67 : decode cX10_opens 67 = .ok (.iadd, 1) := by decide +kernel
theorem dX10_opens_68 : decode cX10_opens 68 = .ok (.iload_n 1, 1) := by decide +kernel
theorem dX10_opens_69 : decode cX10_opens 69 = .ok (.iastore, 1) := by decide +kernel
theorem dX10_opens_70 : decode cX10_opens 70 = .ok (.aload_n 0, 1) := by decide +kernel
theorem dX10_opens_71 : decode cX10_opens 71 = .ok (.getfield 9, 3) := by decide +kernel
theorem dX10_opens_74 : decode cX10_opens 74 = .ok (.iconst 0, 1) := by decide +kernel
theorem dX10_opens_75 : decode cX10_opens 75 = .ok (.dup2, 1) := by decide +kernel
theorem dX10_opens_76 : decode cX10_opens 76 = .ok (.iaload, 1) := by decide +kernel
theorem dX10_opens_77 : decode cX10_opens 77 = .ok (.iconst 1, 1) := by decide +kernel
theorem dX10_opens_78 : decode cX10_opens 78 = .ok (.iadd, 1) := by decide +kernel
theorem dX10_opens_79 : decode cX10_opens 79 = .ok (.iastore, 1) := by decide +kernel
theorem dX10_opens_80 : decode cX10_opens 80 = .ok (.aload_n 0, 1) := by decide +kernel
theorem dX10_opens_81 : decode cX10_opens 81 = .ok (.getfield 9, 3) := by decide +kernel
theorem dX10_opens_84 : decode cX10_opens 84 = .ok (.iconst 0, 1) := by decide +kernel
theorem dX10_opens_85 : decode cX10_opens 85 = .ok (.iaload, 1) := by decide +kernel
theorem dX10_opens_86 : decode cX10_opens 86 = .ok (.iconst 1, 1) := by decide +kernel
theorem dX10_opens_87 : decode cX10_opens 87 = .ok (.isub, 1) := by decide +kernel
theorem dX10_opens_88 : decode cX10_opens 88 = .ok (.ireturn, 1) := by decide +kernel
theorem vm_X10_opens : aVm yX10_opens RX10 cX10_opens 2 (some .int) 1 := ⟨tw_1615, tw_1614, List.mem_append_left _ (List.mem_of_getElem? (i := 29) (by decide +kernel)), tw_15, rfl, by decide +kernel, by decide +kernel, by decide +kernel⟩
theorem dX10_room_0 : decode cX10_room 0 = .ok (.aload_n 0, 1) := by decide +kernel
theorem dX10_room_1 : decode cX10_room 1 = .ok (.invokevirtual 110, 3) := by decide +kernel
theorem dX10_room_4 : decode cX10_room 4 = .ok (.aload_n 0, 1) := by decide +kernel
theorem dX10_room_5 : decode cX10_room 5 = .ok (.aload_n 0, 1) := by decide +kernel
theorem dX10_room_6 : decode cX10_room 6 = .ok (.iload_n 1, 1) := by decide +kernel
theorem dX10_room_7 : decode cX10_room 7 = .ok (.invokevirtual 113, 3) := by decide +kernel
theorem dX10_room_10 : decode cX10_room 10 = .ok (.invokevirtual 116, 3) := by decide +kernel
theorem dX10_room_13 : decode cX10_room 13 = .ok (.ireturn, 1) := by decide +kernel
theorem vm_X10_room : aVm yX10_room RX10 cX10_room 2 (some .int) 1 := ⟨tw_1607, tw_1605, tw_1606, tw_15, rfl, by decide +kernel, by decide +kernel, by decide +kernel⟩
theorem dX10_sounds_0 : decode cX10_sounds 0 = .ok (.aload_n 0, 1) := by decide +kernel
theorem dX10_sounds_1 : decode cX10_sounds 1 = .ok (.aload_n 0, 1) := by decide +kernel
theorem dX10_sounds_2 : decode cX10_sounds 2 = .ok (.iload_n 1, 1) := by decide +kernel
theorem dX10_sounds_3 : decode cX10_sounds 3 = .ok (.invokevirtual 119, 3) := by decide +kernel
theorem dX10_sounds_6 : decode cX10_sounds 6 = .ok (.ifCond .ne 7, 3) := by decide +kernel
theorem dX10_sounds_9 : decode cX10_sounds 9 = .ok (.iconst 1, 1) := by decide +kernel
theorem dX10_sounds_10 : decode cX10_sounds 10 = .ok (.goto 4, 3) := by decide +kernel
theorem dX10_sounds_13 : decode cX10_sounds 13 = .ok (.iconst 0, 1) := by decide +kernel
theorem dX10_sounds_14 : decode cX10_sounds 14 = .ok (.iconst 2, 1) := by decide +kernel
theorem dX10_sounds_15 : decode cX10_sounds 15 = .ok (.iload_n 1, 1) := by decide +kernel
theorem dX10_sounds_16 : decode cX10_sounds 16 = .ok (.invokevirtual 106, 3) := by decide +kernel
theorem dX10_sounds_19 : decode cX10_sounds 19 = .ok (.aload_n 0, 1) := by decide +kernel
theorem dX10_sounds_20 : decode cX10_sounds 20 = .ok (.iload_n 2, 1) := by decide +kernel
theorem dX10_sounds_21 : decode cX10_sounds 21 = .ok (.iconst 1, 1) := by decide +kernel
theorem dX10_sounds_22 : decode cX10_sounds 22 = .ok (.bipush 9, 2) := by decide +kernel
theorem dX10_sounds_24 : decode cX10_sounds 24 = .ok (.invokestatic 70, 3) := by decide +kernel
theorem dX10_sounds_27 : decode cX10_sounds 27 = .ok (.ifCond .ne 7, 3) := by decide +kernel
theorem dX10_sounds_30 : decode cX10_sounds 30 = .ok (.iconst 1, 1) := by decide +kernel
theorem dX10_sounds_31 : decode cX10_sounds 31 = .ok (.goto 4, 3) := by decide +kernel
theorem dX10_sounds_34 : decode cX10_sounds 34 = .ok (.iconst 0, 1) := by decide +kernel
theorem dX10_sounds_35 : decode cX10_sounds 35 = .ok (.iconst 3, 1) := by decide +kernel
theorem dX10_sounds_36 : decode cX10_sounds 36 = .ok (.iload_n 2, 1) := by decide +kernel
theorem dX10_sounds_37 : decode cX10_sounds 37 = .ok (.invokevirtual 106, 3) := by decide +kernel
theorem dX10_sounds_40 : decode cX10_sounds 40 = .ok (.aload_n 0, 1) := by decide +kernel
theorem dX10_sounds_41 : decode cX10_sounds 41 = .ok (.aload_n 0, 1) := by decide +kernel
theorem dX10_sounds_42 : decode cX10_sounds 42 = .ok (.getfield 9, 3) := by decide +kernel
theorem dX10_sounds_45 : decode cX10_sounds 45 = .ok (.iconst 1, 1) := by decide +kernel
theorem dX10_sounds_46 : decode cX10_sounds 46 = .ok (.iaload, 1) := by decide +kernel
theorem dX10_sounds_47 : decode cX10_sounds 47 = .ok (.bipush 8, 2) := by decide +kernel
theorem dX10_sounds_49 : decode cX10_sounds 49 = .ok (.if_icmp .ne 7, 3) := by decide +kernel
theorem dX10_sounds_52 : decode cX10_sounds 52 = .ok (.iconst 1, 1) := by decide +kernel
theorem dX10_sounds_53 : decode cX10_sounds 53 = .ok (.goto 4, 3) := by decide +kernel
theorem dX10_sounds_56 : decode cX10_sounds 56 = .ok (.iconst 0, 1) := by decide +kernel
theorem dX10_sounds_57 : decode cX10_sounds 57 = .ok (.iconst 1, 1) := by decide +kernel
theorem dX10_sounds_58 : decode cX10_sounds 58 = .ok (.bipush 8, 2) := by decide +kernel
theorem dX10_sounds_60 : decode cX10_sounds 60 = .ok (.invokevirtual 106, 3) := by decide +kernel
theorem dX10_sounds_63 : decode cX10_sounds 63 = .ok (.aload_n 0, 1) := by decide +kernel
theorem dX10_sounds_64 : decode cX10_sounds 64 = .ok (.getfield 38, 3) := by decide +kernel
theorem dX10_sounds_67 : decode cX10_sounds 67 = .ok (.ifCond .eq 5, 3) := by decide +kernel
theorem dX10_sounds_70 : decode cX10_sounds 70 = .ok (.iconst 0, 1) := by decide +kernel
theorem dX10_sounds_71 : decode cX10_sounds 71 = .ok (.ireturn, 1) := by decide +kernel
theorem dX10_sounds_72 : decode cX10_sounds 72 = .ok (.aload_n 0, 1) := by decide +kernel
theorem dX10_sounds_73 : decode cX10_sounds 73 = .ok (.getfield 9, 3) := by decide +kernel
theorem dX10_sounds_76 : decode cX10_sounds 76 = .ok (.iconst 1, 1) := by decide +kernel
theorem dX10_sounds_77 : decode cX10_sounds 77 = .ok (.iaload, 1) := by decide +kernel
theorem dX10_sounds_78 : decode cX10_sounds 78 = .ok (.invokestatic 86, 3) := by decide +kernel
theorem dX10_sounds_81 : decode cX10_sounds 81 = .ok (.istore_n 3, 1) := by decide +kernel
theorem dX10_sounds_82 : decode cX10_sounds 82 = .ok (.aload_n 0, 1) := by decide +kernel
theorem dX10_sounds_83 : decode cX10_sounds 83 = .ok (.getfield 9, 3) := by decide +kernel
theorem dX10_sounds_86 : decode cX10_sounds 86 = .ok (.iload_n 3, 1) := by decide +kernel
theorem dX10_sounds_87 : decode cX10_sounds 87 = .ok (.iconst 0, 1) := by decide +kernel
theorem dX10_sounds_88 : decode cX10_sounds 88 = .ok (.iadd, 1) := by decide +kernel
theorem dX10_sounds_89 : decode cX10_sounds 89 = .ok (.iload_n 1, 1) := by decide +kernel
theorem dX10_sounds_90 : decode cX10_sounds 90 = .ok (.iastore, 1) := by decide +kernel
theorem dX10_sounds_91 : decode cX10_sounds 91 = .ok (.aload_n 0, 1) := by decide +kernel
theorem dX10_sounds_92 : decode cX10_sounds 92 = .ok (.getfield 9, 3) := by decide +kernel
theorem dX10_sounds_95 : decode cX10_sounds 95 = .ok (.iload_n 3, 1) := by decide +kernel
theorem dX10_sounds_96 : decode cX10_sounds 96 = .ok (.iconst 1, 1) := by decide +kernel
theorem dX10_sounds_97 : decode cX10_sounds 97 = .ok (.iadd, 1) := by decide +kernel
theorem dX10_sounds_98 : decode cX10_sounds 98 = .ok (.iload_n 2, 1) := by decide +kernel
theorem dX10_sounds_99 : decode cX10_sounds 99 = .ok (.iastore, 1) := by decide +kernel
theorem dX10_sounds_100 : decode cX10_sounds 100 = .ok (.aload_n 0, 1) := by decide +kernel
theorem dX10_sounds_101 : decode cX10_sounds 101 = .ok (.getfield 9, 3) := by decide +kernel
theorem dX10_sounds_104 : decode cX10_sounds 104 = .ok (.iload_n 3, 1) := by decide +kernel
theorem dX10_sounds_105 : decode cX10_sounds 105 = .ok (.iconst 2, 1) := by decide +kernel
theorem dX10_sounds_106 : decode cX10_sounds 106 = .ok (.iadd, 1) := by decide +kernel
theorem dX10_sounds_107 : decode cX10_sounds 107 = .ok (.iconst (-1), 1) := by decide +kernel
theorem dX10_sounds_108 : decode cX10_sounds 108 = .ok (.iastore, 1) := by decide +kernel
theorem dX10_sounds_109 : decode cX10_sounds 109 = .ok (.aload_n 0, 1) := by decide +kernel
theorem dX10_sounds_110 : decode cX10_sounds 110 = .ok (.getfield 9, 3) := by decide +kernel
theorem dX10_sounds_113 : decode cX10_sounds 113 = .ok (.iconst 1, 1) := by decide +kernel
theorem dX10_sounds_114 : decode cX10_sounds 114 = .ok (.dup2, 1) := by decide +kernel
theorem dX10_sounds_115 : decode cX10_sounds 115 = .ok (.iaload, 1) := by decide +kernel
theorem dX10_sounds_116 : decode cX10_sounds 116 = .ok (.iconst 1, 1) := by decide +kernel
theorem dX10_sounds_117 : decode cX10_sounds 117 = .ok (.iadd, 1) := by decide +kernel
theorem dX10_sounds_118 : decode cX10_sounds 118 = .ok (.iastore, 1) := by decide +kernel
theorem dX10_sounds_119 : decode cX10_sounds 119 = .ok (.aload_n 0, 1) := by decide +kernel
theorem dX10_sounds_120 : decode cX10_sounds 120 = .ok (.getfield 9, 3) := by decide +kernel
theorem dX10_sounds_123 : decode cX10_sounds 123 = .ok (.iconst 1, 1) := by decide +kernel
theorem dX10_sounds_124 : decode cX10_sounds 124 = .ok (.iaload, 1) := by decide +kernel
theorem dX10_sounds_125 : decode cX10_sounds 125 = .ok (.iconst 1, 1) := by decide +kernel
theorem dX10_sounds_126 : decode cX10_sounds 126 = .ok (.isub, 1) := by decide +kernel
theorem dX10_sounds_127 : decode cX10_sounds 127 = .ok (.ireturn, 1) := by decide +kernel
theorem vm_X10_sounds : aVm yX10_sounds RX10 cX10_sounds 4 (some .int) 2 := ⟨tw_1642, tw_1641, List.mem_append_left _ (List.mem_of_getElem? (i := 34) (by decide +kernel)), tw_15, rfl, by decide +kernel, by decide +kernel, by decide +kernel⟩
theorem dX10_echo_0 : decode cX10_echo 0 = .ok (.aload_n 0, 1) := by decide +kernel
theorem dX10_echo_1 : decode cX10_echo 1 = .ok (.invokevirtual 110, 3) := by decide +kernel
theorem dX10_echo_4 : decode cX10_echo 4 = .ok (.aload_n 0, 1) := by decide +kernel
theorem dX10_echo_5 : decode cX10_echo 5 = .ok (.aload_n 0, 1) := by decide +kernel
theorem dX10_echo_6 : decode cX10_echo 6 = .ok (.iload_n 1, 1) := by decide +kernel
theorem dX10_echo_7 : decode cX10_echo 7 = .ok (.iload_n 2, 1) := by decide +kernel
theorem dX10_echo_8 : decode cX10_echo 8 = .ok (.invokevirtual 123, 3) := by decide +kernel
theorem dX10_echo_11 : decode cX10_echo 11 = .ok (.invokevirtual 116, 3) := by decide +kernel
theorem dX10_echo_14 : decode cX10_echo 14 = .ok (.ireturn, 1) := by decide +kernel
theorem vm_X10_echo : aVm yX10_echo RX10 cX10_echo 3 (some .int) 2 := ⟨tw_1638, tw_1636, tw_1637, tw_15, rfl, by decide +kernel, by decide +kernel, by decide +kernel⟩
theorem dX10_arrives_0 : decode cX10_arrives 0 = .ok (.aload_n 0, 1) := by decide +kernel
theorem dX10_arrives_1 : decode cX10_arrives 1 = .ok (.iload_n 1, 1) := by decide +kernel
theorem dX10_arrives_2 : decode cX10_arrives 2 = .ok (.iconst 0, 1) := by decide +kernel
theorem dX10_arrives_3 : decode cX10_arrives 3 = .ok (.bipush 9, 2) := by decide +kernel
theorem dX10_arrives_5 : decode cX10_arrives 5 = .ok (.invokestatic 70, 3) := by decide +kernel
theorem dX10_arrives_8 : decode cX10_arrives 8 = .ok (.ifCond .ne 7, 3) := by decide +kernel
theorem dX10_arrives_11 : decode cX10_arrives 11 = .ok (.iconst 1, 1) := by decide +kernel
theorem dX10_arrives_12 : decode cX10_arrives 12 = .ok (.goto 4, 3) := by decide +kernel
theorem dX10_arrives_15 : decode cX10_arrives 15 = .ok (.iconst 0, 1) := by decide +kernel
theorem dX10_arrives_16 : decode cX10_arrives 16 = .ok (.iconst 3, 1) := by decide +kernel
theorem dX10_arrives_17 : decode cX10_arrives 17 = .ok (.iload_n 1, 1) := by decide +kernel
theorem dX10_arrives_18 : decode cX10_arrives 18 = .ok (.invokevirtual 106, 3) := by decide +kernel
theorem dX10_arrives_21 : decode cX10_arrives 21 = .ok (.aload_n 0, 1) := by decide +kernel
theorem dX10_arrives_22 : decode cX10_arrives 22 = .ok (.iload_n 2, 1) := by decide +kernel
theorem dX10_arrives_23 : decode cX10_arrives 23 = .ok (.iconst 0, 1) := by decide +kernel
theorem dX10_arrives_24 : decode cX10_arrives 24 = .ok (.bipush 99, 2) := by decide +kernel
theorem dX10_arrives_26 : decode cX10_arrives 26 = .ok (.invokestatic 70, 3) := by decide +kernel
theorem dX10_arrives_29 : decode cX10_arrives 29 = .ok (.ifCond .ne 7, 3) := by decide +kernel
theorem dX10_arrives_32 : decode cX10_arrives 32 = .ok (.iconst 1, 1) := by decide +kernel
theorem dX10_arrives_33 : decode cX10_arrives 33 = .ok (.goto 4, 3) := by decide +kernel
theorem dX10_arrives_36 : decode cX10_arrives 36 = .ok (.iconst 0, 1) := by decide +kernel
theorem dX10_arrives_37 : decode cX10_arrives 37 = .ok (.iconst 3, 1) := by decide +kernel
theorem dX10_arrives_38 : decode cX10_arrives 38 = .ok (.iload_n 2, 1) := by decide +kernel
theorem dX10_arrives_39 : decode cX10_arrives 39 = .ok (.invokevirtual 106, 3) := by decide +kernel
theorem dX10_arrives_42 : decode cX10_arrives 42 = .ok (.aload_n 0, 1) := by decide +kernel
theorem dX10_arrives_43 : decode cX10_arrives 43 = .ok (.aload_n 0, 1) := by decide +kernel
theorem dX10_arrives_44 : decode cX10_arrives 44 = .ok (.getfield 9, 3) := by decide +kernel
theorem dX10_arrives_47 : decode cX10_arrives 47 = .ok (.iconst 2, 1) := by decide +kernel
theorem dX10_arrives_48 : decode cX10_arrives 48 = .ok (.iaload, 1) := by decide +kernel
theorem dX10_arrives_49 : decode cX10_arrives 49 = .ok (.bipush 6, 2) := by decide +kernel
theorem dX10_arrives_51 : decode cX10_arrives 51 = .ok (.if_icmp .ne 7, 3) := by decide +kernel
theorem dX10_arrives_54 : decode cX10_arrives 54 = .ok (.iconst 1, 1) := by decide +kernel
theorem dX10_arrives_55 : decode cX10_arrives 55 = .ok (.goto 4, 3) := by decide +kernel
theorem dX10_arrives_58 : decode cX10_arrives 58 = .ok (.iconst 0, 1) := by decide +kernel
theorem dX10_arrives_59 : decode cX10_arrives 59 = .ok (.iconst 1, 1) := by decide +kernel
theorem dX10_arrives_60 : decode cX10_arrives 60 = .ok (.bipush 6, 2) := by decide +kernel
theorem dX10_arrives_62 : decode cX10_arrives 62 = .ok (.invokevirtual 106, 3) := by decide +kernel
theorem dX10_arrives_65 : decode cX10_arrives 65 = .ok (.aload_n 0, 1) := by decide +kernel
theorem dX10_arrives_66 : decode cX10_arrives 66 = .ok (.getfield 38, 3) := by decide +kernel
theorem dX10_arrives_69 : decode cX10_arrives 69 = .ok (.ifCond .eq 5, 3) := by decide +kernel
theorem dX10_arrives_72 : decode cX10_arrives 72 = .ok (.iconst 0, 1) := by decide +kernel
theorem dX10_arrives_73 : decode cX10_arrives 73 = .ok (.ireturn, 1) := by decide +kernel
theorem dX10_arrives_74 : decode cX10_arrives 74 = .ok (.aload_n 0, 1) := by decide +kernel
theorem dX10_arrives_75 : decode cX10_arrives 75 = .ok (.getfield 9, 3) := by decide +kernel
theorem dX10_arrives_78 : decode cX10_arrives 78 = .ok (.iconst 2, 1) := by decide +kernel
theorem dX10_arrives_79 : decode cX10_arrives 79 = .ok (.iaload, 1) := by decide +kernel
theorem dX10_arrives_80 : decode cX10_arrives 80 = .ok (.invokestatic 82, 3) := by decide +kernel
theorem dX10_arrives_83 : decode cX10_arrives 83 = .ok (.istore_n 3, 1) := by decide +kernel
theorem dX10_arrives_84 : decode cX10_arrives 84 = .ok (.aload_n 0, 1) := by decide +kernel
theorem dX10_arrives_85 : decode cX10_arrives 85 = .ok (.getfield 9, 3) := by decide +kernel
theorem dX10_arrives_88 : decode cX10_arrives 88 = .ok (.iload_n 3, 1) := by decide +kernel
theorem dX10_arrives_89 : decode cX10_arrives 89 = .ok (.iconst 0, 1) := by decide +kernel
theorem dX10_arrives_90 : decode cX10_arrives 90 = .ok (.iadd, 1) := by decide +kernel
theorem dX10_arrives_91 : decode cX10_arrives 91 = .ok (.iload_n 1, 1) := by decide +kernel
theorem dX10_arrives_92 : decode cX10_arrives 92 = .ok (.iastore, 1) := by decide +kernel
theorem dX10_arrives_93 : decode cX10_arrives 93 = .ok (.aload_n 0, 1) := by decide +kernel
theorem dX10_arrives_94 : decode cX10_arrives 94 = .ok (.getfield 9, 3) := by decide +kernel
theorem dX10_arrives_97 : decode cX10_arrives 97 = .ok (.iload_n 3, 1) := by decide +kernel
theorem dX10_arrives_98 : decode cX10_arrives 98 = .ok (.iconst 1, 1) := by decide +kernel
theorem dX10_arrives_99 : decode cX10_arrives 99 = .ok (.iadd, 1) := by decide +kernel
theorem dX10_arrives_100 : decode cX10_arrives 100 = .ok (.iload_n 2, 1) := by decide +kernel
theorem dX10_arrives_101 : decode cX10_arrives 101 = .ok (.iastore, 1) := by decide +kernel
theorem dX10_arrives_102 : decode cX10_arrives 102 = .ok (.aload_n 0, 1) := by decide +kernel
theorem dX10_arrives_103 : decode cX10_arrives 103 = .ok (.getfield 9, 3) := by decide +kernel
theorem dX10_arrives_106 : decode cX10_arrives 106 = .ok (.iload_n 3, 1) := by decide +kernel
theorem dX10_arrives_107 : decode cX10_arrives 107 = .ok (.iconst 2, 1) := by decide +kernel
theorem dX10_arrives_108 : decode cX10_arrives 108 = .ok (.iadd, 1) := by decide +kernel
theorem dX10_arrives_109 : decode cX10_arrives 109 = .ok (.iconst (-1), 1) := by decide +kernel
theorem dX10_arrives_110 : decode cX10_arrives 110 = .ok (.iastore, 1) := by decide +kernel
theorem dX10_arrives_111 : decode cX10_arrives 111 = .ok (.aload_n 0, 1) := by decide +kernel
theorem dX10_arrives_112 : decode cX10_arrives 112 = .ok (.getfield 9, 3) := by decide +kernel
theorem dX10_arrives_115 : decode cX10_arrives 115 = .ok (.iconst 2, 1) := by decide +kernel
theorem dX10_arrives_116 : decode cX10_arrives 116 = .ok (.dup2, 1) := by decide +kernel
theorem dX10_arrives_117 : decode cX10_arrives 117 = .ok (.iaload, 1) := by decide +kernel
theorem dX10_arrives_118 : decode cX10_arrives 118 = .ok (.iconst 1, 1) := by decide +kernel
theorem dX10_arrives_119 : decode cX10_arrives 119 = .ok (.iadd, 1) := by decide +kernel
theorem dX10_arrives_120 : decode cX10_arrives 120 = .ok (.iastore, 1) := by decide +kernel
theorem dX10_arrives_121 : decode cX10_arrives 121 = .ok (.aload_n 0, 1) := by decide +kernel
theorem dX10_arrives_122 : decode cX10_arrives 122 = .ok (.getfield 9, 3) := by decide +kernel
theorem dX10_arrives_125 : decode cX10_arrives 125 = .ok (.iconst 2, 1) := by decide +kernel
theorem dX10_arrives_126 : decode cX10_arrives 126 = .ok (.iaload, 1) := by decide +kernel
theorem dX10_arrives_127 : decode cX10_arrives 127 = .ok (.iconst 1, 1) := by decide +kernel
theorem dX10_arrives_128 : decode cX10_arrives 128 = .ok (.isub, 1) := by decide +kernel
theorem dX10_arrives_129 : decode cX10_arrives 129 = .ok (.ireturn, 1) := by decide +kernel
theorem vm_X10_arrives : aVm yX10_arrives RX10 cX10_arrives 4 (some .int) 2 := ⟨tw_1657, tw_1656, List.mem_append_left _ (List.mem_of_getElem? (i := 36) (by decide +kernel)), tw_15, rfl, by decide +kernel, by decide +kernel, by decide +kernel⟩
theorem dX10_singer_0 : decode cX10_singer 0 = .ok (.aload_n 0, 1) := by decide +kernel
theorem dX10_singer_1 : decode cX10_singer 1 = .ok (.invokevirtual 110, 3) := by decide +kernel
theorem dX10_singer_4 : decode cX10_singer 4 = .ok (.aload_n 0, 1) := by decide +kernel
theorem dX10_singer_5 : decode cX10_singer 5 = .ok (.aload_n 0, 1) := by decide +kernel
theorem dX10_singer_6 : decode cX10_singer 6 = .ok (.iload_n 1, 1) := by decide +kernel
theorem dX10_singer_7 : decode cX10_singer 7 = .ok (.iload_n 2, 1) := by decide +kernel
theorem dX10_singer_8 : decode cX10_singer 8 = .ok (.invokevirtual 126, 3) := by decide +kernel
theorem dX10_singer_11 : decode cX10_singer 11 = .ok (.invokevirtual 116, 3) := by decide +kernel
theorem dX10_singer_14 : decode cX10_singer 14 = .ok (.ireturn, 1) := by decide +kernel
theorem vm_X10_singer : aVm yX10_singer RX10 cX10_singer 3 (some .int) 2 := ⟨tw_1653, tw_1651, tw_1652, tw_15, rfl, by decide +kernel, by decide +kernel, by decide +kernel⟩
theorem dX10_asksRoom_0 : decode cX10_asksRoom 0 = .ok (.aload_n 0, 1) := by decide +kernel
theorem dX10_asksRoom_1 : decode cX10_asksRoom 1 = .ok (.iload_n 2, 1) := by decide +kernel
theorem dX10_asksRoom_2 : decode cX10_asksRoom 2 = .ok (.invokevirtual 129, 3) := by decide +kernel
theorem dX10_asksRoom_5 : decode cX10_asksRoom 5 = .ok (.istore_n 3, 1) := by decide +kernel
theorem dX10_asksRoom_6 : decode cX10_asksRoom 6 = .ok (.aload_n 0, 1) := by decide +kernel
theorem dX10_asksRoom_7 : decode cX10_asksRoom 7 = .ok (.aload_n 0, 1) := by decide +kernel
theorem dX10_asksRoom_8 : decode cX10_asksRoom 8 = .ok (.getfield 9, 3) := by decide +kernel
theorem dX10_asksRoom_11 : decode cX10_asksRoom 11 = .ok (.iload_n 1, 1) := by decide +kernel
theorem dX10_asksRoom_12 : decode cX10_asksRoom 12 = .ok (.invokestatic 82, 3) := by decide +kernel
theorem dX10_asksRoom_15 : decode cX10_asksRoom 15 = .ok (.iconst 2, 1) := by decide +kernel
theorem dX10_asksRoom_16 : decode cX10_asksRoom 16 = .ok (.iadd, 1) := by decide +kernel
theorem dX10_asksRoom_17 : decode cX10_asksRoom 17 = .ok (.iaload, 1) := by decide +kernel
theorem dX10_asksRoom_18 : decode cX10_asksRoom 18 = .ok (.iload_n 2, 1) := by decide +kernel
theorem dX10_asksRoom_19 : decode cX10_asksRoom 19 = .ok (.if_icmp .ne 7, 3) := by decide +kernel
theorem dX10_asksRoom_22 : decode cX10_asksRoom 22 = .ok (.iconst 1, 1) := by decide +kernel
theorem dX10_asksRoom_23 : decode cX10_asksRoom 23 = .ok (.goto 4, 3) := by decide +kernel
theorem dX10_asksRoom_26 : decode cX10_asksRoom 26 = .ok (.iconst 0, 1) := by decide +kernel
theorem dX10_asksRoom_27 : decode cX10_asksRoom 27 = .ok (.iconst 4, 1) := by decide +kernel
theorem dX10_asksRoom_28 : decode cX10_asksRoom 28 = .ok (.iload_n 2, 1) := by decide +kernel
theorem dX10_asksRoom_29 : decode cX10_asksRoom 29 = .ok (.invokevirtual 106, 3) := by decide +kernel
theorem dX10_asksRoom_32 : decode cX10_asksRoom 32 = .ok (.aload_n 0, 1) := by decide +kernel
theorem dX10_asksRoom_33 : decode cX10_asksRoom 33 = .ok (.iload_n 3, 1) := by decide +kernel
theorem dX10_asksRoom_34 : decode cX10_asksRoom 34 = .ok (.aload_n 0, 1) := by decide +kernel
theorem dX10_asksRoom_35 : decode cX10_asksRoom 35 = .ok (.getfield 9, 3) := by decide +kernel
theorem dX10_asksRoom_38 : decode cX10_asksRoom 38 = .ok (.iload_n 2, 1) := by decide +kernel
theorem dX10_asksRoom_39 : decode cX10_asksRoom 39 = .ok (.invokestatic 97, 3) := by decide +kernel
theorem dX10_asksRoom_42 : decode cX10_asksRoom 42 = .ok (.iconst 0, 1) := by decide +kernel
theorem dX10_asksRoom_43 : decode cX10_asksRoom 43 = .ok (.iadd, 1) := by decide +kernel
theorem dX10_asksRoom_44 : decode cX10_asksRoom 44 = .ok (.iaload, 1) := by decide +kernel
theorem dX10_asksRoom_45 : decode cX10_asksRoom 45 = .ok (.if_icmp .lt 7, 3) := by decide +kernel
theorem dX10_asksRoom_48 : decode cX10_asksRoom 48 = .ok (.iconst 1, 1) := by decide +kernel
theorem dX10_asksRoom_49 : decode cX10_asksRoom 49 = .ok (.goto 4, 3) := by decide +kernel
theorem dX10_asksRoom_52 : decode cX10_asksRoom 52 = .ok (.iconst 0, 1) := by decide +kernel
theorem dX10_asksRoom_53 : decode cX10_asksRoom 53 = .ok (.iconst 5, 1) := by decide +kernel
theorem dX10_asksRoom_54 : decode cX10_asksRoom 54 = .ok (.aload_n 0, 1) := by decide +kernel
theorem dX10_asksRoom_55 : decode cX10_asksRoom 55 = .ok (.getfield 9, 3) := by decide +kernel
theorem dX10_asksRoom_58 : decode cX10_asksRoom 58 = .ok (.iload_n 2, 1) := by decide +kernel
theorem dX10_asksRoom_59 : decode cX10_asksRoom 59 = .ok (.invokestatic 97, 3) := by decide +kernel
theorem dX10_asksRoom_62 : decode cX10_asksRoom 62 = .ok (.iconst 0, 1) := by decide +kernel
theorem dX10_asksRoom_63 : decode cX10_asksRoom 63 = .ok (.iadd, 1) := by decide +kernel
theorem dX10_asksRoom_64 : decode cX10_asksRoom 64 = .ok (.iaload, 1) := by decide +kernel
theorem dX10_asksRoom_65 : decode cX10_asksRoom 65 = .ok (.invokevirtual 106, 3) := by decide +kernel
theorem dX10_asksRoom_68 : decode cX10_asksRoom 68 = .ok (.aload_n 0, 1) := by decide +kernel
theorem dX10_asksRoom_69 : decode cX10_asksRoom 69 = .ok (.iload_n 3, 1) := by decide +kernel
theorem dX10_asksRoom_70 : decode cX10_asksRoom 70 = .ok (.bipush 9, 2) := by decide +kernel
theorem dX10_asksRoom_72 : decode cX10_asksRoom 72 = .ok (.aload_n 0, 1) := by decide +kernel
theorem dX10_asksRoom_73 : decode cX10_asksRoom 73 = .ok (.getfield 9, 3) := by decide +kernel
theorem dX10_asksRoom_76 : decode cX10_asksRoom 76 = .ok (.iload_n 1, 1) := by decide +kernel
theorem dX10_asksRoom_77 : decode cX10_asksRoom 77 = .ok (.invokestatic 82, 3) := by decide +kernel
theorem dX10_asksRoom_80 : decode cX10_asksRoom 80 = .ok (.iconst 0, 1) := by decide +kernel
theorem dX10_asksRoom_81 : decode cX10_asksRoom 81 = .ok (.iadd, 1) := by decide +kernel
theorem dX10_asksRoom_82 : decode cX10_asksRoom 82 = .ok (.iaload, 1) := by decide +kernel
theorem dX10_asksRoom_83 : decode cX10_asksRoom 83 = .ok (.isub, 1) := by decide +kernel
theorem dX10_asksRoom_84 : decode cX10_asksRoom 84 = .ok (.iconst 3, 1) := by decide +kernel
theorem dX10_asksRoom_85 : decode cX10_asksRoom 85 = .ok (.idiv, 1) := by decide +kernel
theorem dX10_asksRoom_86 : decode cX10_asksRoom 86 = .ok (.if_icmp .le 7, 3) := by decide +kernel
theorem dX10_asksRoom_89 : decode cX10_asksRoom 89 = .ok (.iconst 1, 1) := by decide +kernel
theorem dX10_asksRoom_90 : decode cX10_asksRoom 90 = .ok (.goto 4, 3) := by decide +kernel
theorem dX10_asksRoom_93 : decode cX10_asksRoom 93 = .ok (.iconst 0, 1) := by decide +kernel
theorem dX10_asksRoom_94 : decode cX10_asksRoom 94 = .ok (.bipush 6, 2) := by decide +kernel
theorem dX10_asksRoom_96 : decode cX10_asksRoom 96 = .ok (.iload_n 3, 1) := by decide +kernel
theorem dX10_asksRoom_97 : decode cX10_asksRoom 97 = .ok (.invokevirtual 106, 3) := by decide +kernel
theorem dX10_asksRoom_100 : decode cX10_asksRoom 100 = .ok (.return_, 1) := by decide +kernel
theorem vm_X10_asksRoom : aVm yX10_asksRoom RX10 cX10_asksRoom 4 none 2 := ⟨tw_1676, tw_1675, List.mem_append_left _ (List.mem_of_getElem? (i := 39) (by decide +kernel)), tw_15, rfl, by decide +kernel, by decide +kernel, by decide +kernel⟩
theorem dX10_comesIn_0 : decode cX10_comesIn 0 = .ok (.aload_n 0, 1) := by decide +kernel
theorem dX10_comesIn_1 : decode cX10_comesIn 1 = .ok (.aload_n 0, 1) := by decide +kernel
theorem dX10_comesIn_2 : decode cX10_comesIn 2 = .ok (.iload_n 1, 1) := by decide +kernel
theorem dX10_comesIn_3 : decode cX10_comesIn 3 = .ok (.invokevirtual 132, 3) := by decide +kernel
theorem dX10_comesIn_6 : decode cX10_comesIn 6 = .ok (.ifCond .ne 7, 3) := by decide +kernel
theorem dX10_comesIn_9 : decode cX10_comesIn 9 = .ok (.iconst 1, 1) := by decide +kernel
theorem dX10_comesIn_10 : decode cX10_comesIn 10 = .ok (.goto 4, 3) := by decide +kernel
theorem dX10_comesIn_13 : decode cX10_comesIn 13 = .ok (.iconst 0, 1) := by decide +kernel
theorem dX10_comesIn_14 : decode cX10_comesIn 14 = .ok (.iconst 2, 1) := by decide +kernel
theorem dX10_comesIn_15 : decode cX10_comesIn 15 = .ok (.iload_n 1, 1) := by decide +kernel
theorem dX10_comesIn_16 : decode cX10_comesIn 16 = .ok (.invokevirtual 106, 3) := by decide +kernel
theorem dX10_comesIn_19 : decode cX10_comesIn 19 = .ok (.aload_n 0, 1) := by decide +kernel
theorem dX10_comesIn_20 : decode cX10_comesIn 20 = .ok (.aload_n 0, 1) := by decide +kernel
theorem dX10_comesIn_21 : decode cX10_comesIn 21 = .ok (.iload_n 2, 1) := by decide +kernel
theorem dX10_comesIn_22 : decode cX10_comesIn 22 = .ok (.invokevirtual 119, 3) := by decide +kernel
theorem dX10_comesIn_25 : decode cX10_comesIn 25 = .ok (.ifCond .ne 7, 3) := by decide +kernel
theorem dX10_comesIn_28 : decode cX10_comesIn 28 = .ok (.iconst 1, 1) := by decide +kernel
theorem dX10_comesIn_29 : decode cX10_comesIn 29 = .ok (.goto 4, 3) := by decide +kernel
theorem dX10_comesIn_32 : decode cX10_comesIn 32 = .ok (.iconst 0, 1) := by decide +kernel
theorem dX10_comesIn_33 : decode cX10_comesIn 33 = .ok (.iconst 2, 1) := by decide +kernel
theorem dX10_comesIn_34 : decode cX10_comesIn 34 = .ok (.iload_n 2, 1) := by decide +kernel
theorem dX10_comesIn_35 : decode cX10_comesIn 35 = .ok (.invokevirtual 106, 3) := by decide +kernel
theorem dX10_comesIn_38 : decode cX10_comesIn 38 = .ok (.aload_n 0, 1) := by decide +kernel
theorem dX10_comesIn_39 : decode cX10_comesIn 39 = .ok (.getfield 38, 3) := by decide +kernel
theorem dX10_comesIn_42 : decode cX10_comesIn 42 = .ok (.ifCond .ne 9, 3) := by decide +kernel
theorem dX10_comesIn_45 : decode cX10_comesIn 45 = .ok (.aload_n 0, 1) := by decide +kernel
theorem dX10_comesIn_46 : decode cX10_comesIn 46 = .ok (.iload_n 1, 1) := by decide +kernel
theorem dX10_comesIn_47 : decode cX10_comesIn 47 = .ok (.iload_n 2, 1) := by decide +kernel
theorem dX10_comesIn_48 : decode cX10_comesIn 48 = .ok (.invokevirtual 135, 3) := by decide +kernel
theorem dX10_comesIn_51 : decode cX10_comesIn 51 = .ok (.aload_n 0, 1) := by decide +kernel
theorem dX10_comesIn_52 : decode cX10_comesIn 52 = .ok (.getfield 38, 3) := by decide +kernel
theorem dX10_comesIn_55 : decode cX10_comesIn 55 = .ok (.ifCond .eq 5, 3) := by decide +kernel
theorem dX10_comesIn_58 : decode cX10_comesIn 58 = .ok (.iconst 0, 1) := by decide +kernel
theorem dX10_comesIn_59 : decode cX10_comesIn 59 = .ok (.ireturn, 1) := by decide +kernel
theorem dX10_comesIn_60 : decode cX10_comesIn 60 = .ok (.aload_n 0, 1) := by decide +kernel
theorem dX10_comesIn_61 : decode cX10_comesIn 61 = .ok (.getfield 9, 3) := by decide +kernel
theorem dX10_comesIn_64 : decode cX10_comesIn 64 = .ok (.iload_n 1, 1) := by decide +kernel
theorem dX10_comesIn_65 : decode cX10_comesIn 65 = .ok (.invokestatic 82, 3) := by decide +kernel
theorem dX10_comesIn_68 : decode cX10_comesIn 68 = .ok (.iconst 2, 1) := by decide +kernel
theorem dX10_comesIn_69 : decode cX10_comesIn 69 = .ok (.iadd, 1) := by decide +kernel
theorem dX10_comesIn_70 : decode cX10_comesIn 70 = .ok (.iload_n 2, 1) := by decide +kernel
theorem dX10_comesIn_71 : decode cX10_comesIn 71 = .ok (.iastore, 1) := by decide +kernel
theorem dX10_comesIn_72 : decode cX10_comesIn 72 = .ok (.aload_n 0, 1) := by decide +kernel
theorem dX10_comesIn_73 : decode cX10_comesIn 73 = .ok (.iload_n 2, 1) := by decide +kernel
theorem dX10_comesIn_74 : decode cX10_comesIn 74 = .ok (.invokevirtual 129, 3) := by decide +kernel
theorem dX10_comesIn_77 : decode cX10_comesIn 77 = .ok (.ireturn, 1) := by decide +kernel
theorem vm_X10_comesIn : aVm yX10_comesIn RX10 cX10_comesIn 3 (some .int) 2 := ⟨tw_1668, tw_1667, List.mem_append_left _ (List.mem_of_getElem? (i := 37) (by decide +kernel)), tw_15, rfl, by decide +kernel, by decide +kernel, by decide +kernel⟩
theorem dX10_enter_0 : decode cX10_enter 0 = .ok (.aload_n 0, 1) := by decide +kernel
theorem dX10_enter_1 : decode cX10_enter 1 = .ok (.invokevirtual 110, 3) := by decide +kernel
theorem dX10_enter_4 : decode cX10_enter 4 = .ok (.aload_n 0, 1) := by decide +kernel
theorem dX10_enter_5 : decode cX10_enter 5 = .ok (.aload_n 0, 1) := by decide +kernel
theorem dX10_enter_6 : decode cX10_enter 6 = .ok (.iload_n 1, 1) := by decide +kernel
theorem dX10_enter_7 : decode cX10_enter 7 = .ok (.iload_n 2, 1) := by decide +kernel
theorem dX10_enter_8 : decode cX10_enter 8 = .ok (.invokevirtual 139, 3) := by decide +kernel
theorem dX10_enter_11 : decode cX10_enter 11 = .ok (.invokevirtual 116, 3) := by decide +kernel
theorem dX10_enter_14 : decode cX10_enter 14 = .ok (.ireturn, 1) := by decide +kernel
theorem vm_X10_enter : aVm yX10_enter RX10 cX10_enter 3 (some .int) 2 := ⟨tw_1664, tw_1662, tw_1663, tw_15, rfl, by decide +kernel, by decide +kernel, by decide +kernel⟩
theorem dX10_goesOut_0 : decode cX10_goesOut 0 = .ok (.aload_n 0, 1) := by decide +kernel
theorem dX10_goesOut_1 : decode cX10_goesOut 1 = .ok (.aload_n 0, 1) := by decide +kernel
theorem dX10_goesOut_2 : decode cX10_goesOut 2 = .ok (.iload_n 1, 1) := by decide +kernel
theorem dX10_goesOut_3 : decode cX10_goesOut 3 = .ok (.invokevirtual 132, 3) := by decide +kernel
theorem dX10_goesOut_6 : decode cX10_goesOut 6 = .ok (.ifCond .ne 7, 3) := by decide +kernel
theorem dX10_goesOut_9 : decode cX10_goesOut 9 = .ok (.iconst 1, 1) := by decide +kernel
theorem dX10_goesOut_10 : decode cX10_goesOut 10 = .ok (.goto 4, 3) := by decide +kernel
theorem dX10_goesOut_13 : decode cX10_goesOut 13 = .ok (.iconst 0, 1) := by decide +kernel
theorem dX10_goesOut_14 : decode cX10_goesOut 14 = .ok (.iconst 2, 1) := by decide +kernel
theorem dX10_goesOut_15 : decode cX10_goesOut 15 = .ok (.iload_n 1, 1) := by decide +kernel
theorem dX10_goesOut_16 : decode cX10_goesOut 16 = .ok (.invokevirtual 106, 3) := by decide +kernel
theorem dX10_goesOut_19 : decode cX10_goesOut 19 = .ok (.aload_n 0, 1) := by decide +kernel
theorem dX10_goesOut_20 : decode cX10_goesOut 20 = .ok (.getfield 38, 3) := by decide +kernel
theorem dX10_goesOut_23 : decode cX10_goesOut 23 = .ok (.ifCond .eq 5, 3) := by decide +kernel
theorem dX10_goesOut_26 : decode cX10_goesOut 26 = .ok (.iconst 0, 1) := by decide +kernel
theorem dX10_goesOut_27 : decode cX10_goesOut 27 = .ok (.ireturn, 1) := by decide +kernel
theorem dX10_goesOut_28 : decode cX10_goesOut 28 = .ok (.aload_n 0, 1) := by decide +kernel
theorem dX10_goesOut_29 : decode cX10_goesOut 29 = .ok (.getfield 9, 3) := by decide +kernel
theorem dX10_goesOut_32 : decode cX10_goesOut 32 = .ok (.iload_n 1, 1) := by decide +kernel
theorem dX10_goesOut_33 : decode cX10_goesOut 33 = .ok (.invokestatic 82, 3) := by decide +kernel
theorem dX10_goesOut_36 : decode cX10_goesOut 36 = .ok (.iconst 2, 1) := by decide +kernel
theorem dX10_goesOut_37 : decode cX10_goesOut 37 = .ok (.iadd, 1) := by decide +kernel
theorem dX10_goesOut_38 : decode cX10_goesOut 38 = .ok (.iaload, 1) := by decide +kernel
theorem dX10_goesOut_39 : decode cX10_goesOut 39 = .ok (.istore_n 2, 1) := by decide +kernel
theorem dX10_goesOut_40 : decode cX10_goesOut 40 = .ok (.aload_n 0, 1) := by decide +kernel
theorem dX10_goesOut_41 : decode cX10_goesOut 41 = .ok (.iload_n 2, 1) := by decide +kernel
theorem dX10_goesOut_42 : decode cX10_goesOut 42 = .ok (.iconst (-1), 1) := by decide +kernel
theorem dX10_goesOut_43 : decode cX10_goesOut 43 = .ok (.if_icmp .ne 7, 3) := by decide +kernel
theorem dX10_goesOut_46 : decode cX10_goesOut 46 = .ok (.iconst 1, 1) := by decide +kernel
theorem dX10_goesOut_47 : decode cX10_goesOut 47 = .ok (.goto 4, 3) := by decide +kernel
theorem dX10_goesOut_50 : decode cX10_goesOut 50 = .ok (.iconst 0, 1) := by decide +kernel
theorem dX10_goesOut_51 : decode cX10_goesOut 51 = .ok (.bipush 10, 2) := by decide +kernel
theorem dX10_goesOut_53 : decode cX10_goesOut 53 = .ok (.iload_n 1, 1) := by decide +kernel
theorem dX10_goesOut_54 : decode cX10_goesOut 54 = .ok (.invokevirtual 106, 3) := by decide +kernel
theorem dX10_goesOut_57 : decode cX10_goesOut 57 = .ok (.aload_n 0, 1) := by decide +kernel
theorem dX10_goesOut_58 : decode cX10_goesOut 58 = .ok (.getfield 9, 3) := by decide +kernel
theorem dX10_goesOut_61 : decode cX10_goesOut 61 = .ok (.iload_n 1, 1) := by decide +kernel
theorem dX10_goesOut_62 : decode cX10_goesOut 62 = .ok (.invokestatic 82, 3) := by decide +kernel
theorem dX10_goesOut_65 : decode cX10_goesOut 65 = .ok (.iconst 2, 1) := by decide +kernel
theorem dX10_goesOut_66 : decode cX10_goesOut 66 = .ok (.iadd, 1) := by decide +kernel
theorem dX10_goesOut_67 : decode cX10_goesOut 67 = .ok (.iconst (-1), 1) := by decide +kernel
theorem dX10_goesOut_68 : decode cX10_goesOut 68 = .ok (.iastore, 1) := by decide +kernel
theorem dX10_goesOut_69 : decode cX10_goesOut 69 = .ok (.iload_n 2, 1) := by decide +kernel
theorem dX10_goesOut_70 : decode cX10_goesOut 70 = .ok (.ireturn, 1) := by decide +kernel
theorem vm_X10_goesOut : aVm yX10_goesOut RX10 cX10_goesOut 3 (some .int) 1 := ⟨tw_1693, tw_1692, List.mem_append_left _ (List.mem_of_getElem? (i := 42) (by decide +kernel)), tw_15, rfl, by decide +kernel, by decide +kernel, by decide +kernel⟩
theorem dX10_out_0 : decode cX10_out 0 = .ok (.aload_n 0, 1) := by decide +kernel
theorem dX10_out_1 : decode cX10_out 1 = .ok (.invokevirtual 110, 3) := by decide +kernel
theorem dX10_out_4 : decode cX10_out 4 = .ok (.aload_n 0, 1) := by decide +kernel
theorem dX10_out_5 : decode cX10_out 5 = .ok (.aload_n 0, 1) := by decide +kernel
theorem dX10_out_6 : decode cX10_out 6 = .ok (.iload_n 1, 1) := by decide +kernel
theorem dX10_out_7 : decode cX10_out 7 = .ok (.invokevirtual 142, 3) := by decide +kernel
theorem dX10_out_10 : decode cX10_out 10 = .ok (.invokevirtual 116, 3) := by decide +kernel
theorem dX10_out_13 : decode cX10_out 13 = .ok (.ireturn, 1) := by decide +kernel
theorem vm_X10_out : aVm yX10_out RX10 cX10_out 2 (some .int) 1 := ⟨tw_1689, tw_1687, tw_1688, tw_15, rfl, by decide +kernel, by decide +kernel, by decide +kernel⟩
theorem dX10_carries_0 : decode cX10_carries 0 = .ok (.aload_n 0, 1) := by decide +kernel
theorem dX10_carries_1 : decode cX10_carries 1 = .ok (.aload_n 0, 1) := by decide +kernel
theorem dX10_carries_2 : decode cX10_carries 2 = .ok (.iload_n 1, 1) := by decide +kernel
theorem dX10_carries_3 : decode cX10_carries 3 = .ok (.invokevirtual 145, 3) := by decide +kernel
theorem dX10_carries_6 : decode cX10_carries 6 = .ok (.ifCond .ne 7, 3) := by decide +kernel
theorem dX10_carries_9 : decode cX10_carries 9 = .ok (.iconst 1, 1) := by decide +kernel
theorem dX10_carries_10 : decode cX10_carries 10 = .ok (.goto 4, 3) := by decide +kernel
theorem dX10_carries_13 : decode cX10_carries 13 = .ok (.iconst 0, 1) := by decide +kernel
theorem dX10_carries_14 : decode cX10_carries 14 = .ok (.iconst 2, 1) := by decide +kernel
theorem dX10_carries_15 : decode cX10_carries 15 = .ok (.iload_n 1, 1) := by decide +kernel
theorem dX10_carries_16 : decode cX10_carries 16 = .ok (.invokevirtual 106, 3) := by decide +kernel
theorem dX10_carries_19 : decode cX10_carries 19 = .ok (.aload_n 0, 1) := by decide +kernel
theorem dX10_carries_20 : decode cX10_carries 20 = .ok (.aload_n 0, 1) := by decide +kernel
theorem dX10_carries_21 : decode cX10_carries 21 = .ok (.iload_n 2, 1) := by decide +kernel
theorem dX10_carries_22 : decode cX10_carries 22 = .ok (.invokevirtual 119, 3) := by decide +kernel
theorem dX10_carries_25 : decode cX10_carries 25 = .ok (.ifCond .ne 7, 3) := by decide +kernel
theorem dX10_carries_28 : decode cX10_carries 28 = .ok (.iconst 1, 1) := by decide +kernel
theorem dX10_carries_29 : decode cX10_carries 29 = .ok (.goto 4, 3) := by decide +kernel
theorem dX10_carries_32 : decode cX10_carries 32 = .ok (.iconst 0, 1) := by decide +kernel
theorem dX10_carries_33 : decode cX10_carries 33 = .ok (.iconst 2, 1) := by decide +kernel
theorem dX10_carries_34 : decode cX10_carries 34 = .ok (.iload_n 2, 1) := by decide +kernel
theorem dX10_carries_35 : decode cX10_carries 35 = .ok (.invokevirtual 106, 3) := by decide +kernel
theorem dX10_carries_38 : decode cX10_carries 38 = .ok (.aload_n 0, 1) := by decide +kernel
theorem dX10_carries_39 : decode cX10_carries 39 = .ok (.getfield 38, 3) := by decide +kernel
theorem dX10_carries_42 : decode cX10_carries 42 = .ok (.ifCond .eq 5, 3) := by decide +kernel
theorem dX10_carries_45 : decode cX10_carries 45 = .ok (.iconst 0, 1) := by decide +kernel
theorem dX10_carries_46 : decode cX10_carries 46 = .ok (.ireturn, 1) := by decide +kernel
theorem dX10_carries_47 : decode cX10_carries 47 = .ok (.aload_n 0, 1) := by decide +kernel
theorem dX10_carries_48 : decode cX10_carries 48 = .ok (.getfield 9, 3) := by decide +kernel
theorem dX10_carries_51 : decode cX10_carries 51 = .ok (.iload_n 1, 1) := by decide +kernel
theorem dX10_carries_52 : decode cX10_carries 52 = .ok (.invokestatic 86, 3) := by decide +kernel
theorem dX10_carries_55 : decode cX10_carries 55 = .ok (.iconst 0, 1) := by decide +kernel
theorem dX10_carries_56 : decode cX10_carries 56 = .ok (.iadd, 1) := by decide +kernel
theorem dX10_carries_57 : decode cX10_carries 57 = .ok (.iaload, 1) := by decide +kernel
theorem dX10_carries_58 : decode cX10_carries 58 = .ok (.istore_n 3, 1) := by decide +kernel
theorem dX10_carries_59 : decode cX10_carries 59 = .ok (.aload_n 0, 1) := by decide +kernel
theorem dX10_carries_60 : decode cX10_carries 60 = .ok (.iload_n 3, 1) := by decide +kernel
theorem dX10_carries_61 : decode cX10_carries 61 = .ok (.iload_n 2, 1) := by decide +kernel
theorem dX10_carries_62 : decode cX10_carries 62 = .ok (.if_icmp .ne 7, 3) := by decide +kernel
theorem dX10_carries_65 : decode cX10_carries 65 = .ok (.iconst 1, 1) := by decide +kernel
theorem dX10_carries_66 : decode cX10_carries 66 = .ok (.goto 4, 3) := by decide +kernel
theorem dX10_carries_69 : decode cX10_carries 69 = .ok (.iconst 0, 1) := by decide +kernel
theorem dX10_carries_70 : decode cX10_carries 70 = .ok (.iconst 4, 1) := by decide +kernel
theorem dX10_carries_71 : decode cX10_carries 71 = .ok (.iload_n 2, 1) := by decide +kernel
theorem dX10_carries_72 : decode cX10_carries 72 = .ok (.invokevirtual 106, 3) := by decide +kernel
theorem dX10_carries_75 : decode cX10_carries 75 = .ok (.aload_n 0, 1) := by decide +kernel
theorem dX10_carries_76 : decode cX10_carries 76 = .ok (.aload_n 0, 1) := by decide +kernel
theorem dX10_carries_77 : decode cX10_carries 77 = .ok (.getfield 9, 3) := by decide +kernel
theorem dX10_carries_80 : decode cX10_carries 80 = .ok (.iload_n 1, 1) := by decide +kernel
theorem dX10_carries_81 : decode cX10_carries 81 = .ok (.invokestatic 86, 3) := by decide +kernel
theorem dX10_carries_84 : decode cX10_carries 84 = .ok (.iconst 2, 1) := by decide +kernel
theorem dX10_carries_85 : decode cX10_carries 85 = .ok (.iadd, 1) := by decide +kernel
theorem dX10_carries_86 : decode cX10_carries 86 = .ok (.iaload, 1) := by decide +kernel
theorem dX10_carries_87 : decode cX10_carries 87 = .ok (.iconst (-1), 1) := by decide +kernel
theorem dX10_carries_88 : decode cX10_carries 88 = .ok (.if_icmp .eq 7, 3) := by decide +kernel
theorem dX10_carries_91 : decode cX10_carries 91 = .ok (.iconst 1, 1) := by decide +kernel
theorem dX10_carries_92 : decode cX10_carries 92 = .ok (.goto 4, 3) := by decide +kernel
theorem dX10_carries_95 : decode cX10_carries 95 = .ok (.iconst 0, 1) := by decide +kernel
theorem dX10_carries_96 : decode cX10_carries 96 = .ok (.bipush 7, 2) := by decide +kernel
theorem dX10_carries_98 : decode cX10_carries 98 = .ok (.aload_n 0, 1) := by decide +kernel
theorem dX10_carries_99 : decode cX10_carries 99 = .ok (.getfield 9, 3) := by decide +kernel
theorem dX10_carries_102 : decode cX10_carries 102 = .ok (.iload_n 1, 1) := by decide +kernel
theorem dX10_carries_103 : decode cX10_carries 103 = .ok (.invokestatic 86, 3) := by decide +kernel
theorem dX10_carries_106 : decode cX10_carries 106 = .ok (.iconst 2, 1) := by decide +kernel
theorem dX10_carries_107 : decode cX10_carries 107 = .ok (.iadd, 1) := by decide +kernel
theorem dX10_carries_108 : decode cX10_carries 108 = .ok (.iaload, 1) := by decide +kernel
theorem dX10_carries_109 : decode cX10_carries 109 = .ok (.invokevirtual 106, 3) := by decide +kernel
theorem dX10_carries_112 : decode cX10_carries 112 = .ok (.aload_n 0, 1) := by decide +kernel
theorem dX10_carries_113 : decode cX10_carries 113 = .ok (.getfield 9, 3) := by decide +kernel
theorem dX10_carries_116 : decode cX10_carries 116 = .ok (.iload_n 1, 1) := by decide +kernel
theorem dX10_carries_117 : decode cX10_carries 117 = .ok (.invokestatic 86, 3) := by decide +kernel
theorem dX10_carries_120 : decode cX10_carries 120 = .ok (.iconst 0, 1) := by decide +kernel
theorem dX10_carries_121 : decode cX10_carries 121 = .ok (.iadd, 1) := by decide +kernel
theorem dX10_carries_122 : decode cX10_carries 122 = .ok (.iload_n 2, 1) := by decide +kernel
theorem dX10_carries_123 : decode cX10_carries 123 = .ok (.iastore, 1) := by decide +kernel
theorem dX10_carries_124 : decode cX10_carries 124 = .ok (.iload_n 3, 1) := by decide +kernel
theorem dX10_carries_125 : decode cX10_carries 125 = .ok (.ireturn, 1) := by decide +kernel
theorem vm_X10_carries : aVm yX10_carries RX10 cX10_carries 4 (some .int) 2 := ⟨tw_1701, tw_1700, List.mem_append_left _ (List.mem_of_getElem? (i := 43) (by decide +kernel)), tw_15, rfl, by decide +kernel, by decide +kernel, by decide +kernel⟩
theorem dX10_carry_0 : decode cX10_carry 0 = .ok (.aload_n 0, 1) := by decide +kernel
theorem dX10_carry_1 : decode cX10_carry 1 = .ok (.invokevirtual 110, 3) := by decide +kernel
theorem dX10_carry_4 : decode cX10_carry 4 = .ok (.aload_n 0, 1) := by decide +kernel
theorem dX10_carry_5 : decode cX10_carry 5 = .ok (.aload_n 0, 1) := by decide +kernel
theorem dX10_carry_6 : decode cX10_carry 6 = .ok (.iload_n 1, 1) := by decide +kernel
theorem dX10_carry_7 : decode cX10_carry 7 = .ok (.iload_n 2, 1) := by decide +kernel
theorem dX10_carry_8 : decode cX10_carry 8 = .ok (.invokevirtual 148, 3) := by decide +kernel
theorem dX10_carry_11 : decode cX10_carry 11 = .ok (.invokevirtual 116, 3) := by decide +kernel
theorem dX10_carry_14 : decode cX10_carry 14 = .ok (.ireturn, 1) := by decide +kernel
theorem vm_X10_carry : aVm yX10_carry RX10 cX10_carry 3 (some .int) 2 := ⟨tw_1697, tw_1695, tw_1696, tw_15, rfl, by decide +kernel, by decide +kernel, by decide +kernel⟩
theorem dX10_asksEcho_0 : decode cX10_asksEcho 0 = .ok (.aload_n 0, 1) := by decide +kernel
theorem dX10_asksEcho_1 : decode cX10_asksEcho 1 = .ok (.getfield 9, 3) := by decide +kernel
theorem dX10_asksEcho_4 : decode cX10_asksEcho 4 = .ok (.iload_n 2, 1) := by decide +kernel
theorem dX10_asksEcho_5 : decode cX10_asksEcho 5 = .ok (.invokestatic 86, 3) := by decide +kernel
theorem dX10_asksEcho_8 : decode cX10_asksEcho 8 = .ok (.iconst 2, 1) := by decide +kernel
theorem dX10_asksEcho_9 : decode cX10_asksEcho 9 = .ok (.iadd, 1) := by decide +kernel
theorem dX10_asksEcho_10 : decode cX10_asksEcho 10 = .ok (.iaload, 1) := by decide +kernel
theorem dX10_asksEcho_11 : decode cX10_asksEcho 11 = .ok (.istore_n 3, 1) := by decide +kernel
theorem dX10_asksEcho_12 : decode cX10_asksEcho 12 = .ok (.aload_n 0, 1) := by decide +kernel
theorem dX10_asksEcho_13 : decode cX10_asksEcho 13 = .ok (.getfield 9, 3) := by decide +kernel
theorem dX10_asksEcho_16 : decode cX10_asksEcho 16 = .ok (.iload_n 2, 1) := by decide +kernel
theorem dX10_asksEcho_17 : decode cX10_asksEcho 17 = .ok (.invokestatic 86, 3) := by decide +kernel
theorem dX10_asksEcho_20 : decode cX10_asksEcho 20 = .ok (.iconst 0, 1) := by decide +kernel
theorem dX10_asksEcho_21 : decode cX10_asksEcho 21 = .ok (.iadd, 1) := by decide +kernel
theorem dX10_asksEcho_22 : decode cX10_asksEcho 22 = .ok (.iaload, 1) := by decide +kernel
theorem dX10_asksEcho_23 : decode cX10_asksEcho 23 = .ok (.istore 4, 2) := by decide +kernel
theorem dX10_asksEcho_25 : decode cX10_asksEcho 25 = .ok (.aload_n 0, 1) := by decide +kernel
theorem dX10_asksEcho_26 : decode cX10_asksEcho 26 = .ok (.getfield 9, 3) := by decide +kernel
theorem dX10_asksEcho_29 : decode cX10_asksEcho 29 = .ok (.iload_n 1, 1) := by decide +kernel
theorem dX10_asksEcho_30 : decode cX10_asksEcho 30 = .ok (.invokestatic 82, 3) := by decide +kernel
theorem dX10_asksEcho_33 : decode cX10_asksEcho 33 = .ok (.iconst 1, 1) := by decide +kernel
theorem dX10_asksEcho_34 : decode cX10_asksEcho 34 = .ok (.iadd, 1) := by decide +kernel
theorem dX10_asksEcho_35 : decode cX10_asksEcho 35 = .ok (.iaload, 1) := by decide +kernel
theorem dX10_asksEcho_36 : decode cX10_asksEcho 36 = .ok (.istore 5, 2) := by decide +kernel
theorem dX10_asksEcho_38 : decode cX10_asksEcho 38 = .ok (.aload_n 0, 1) := by decide +kernel
theorem dX10_asksEcho_39 : decode cX10_asksEcho 39 = .ok (.iload_n 3, 1) := by decide +kernel
theorem dX10_asksEcho_40 : decode cX10_asksEcho 40 = .ok (.iconst (-1), 1) := by decide +kernel
theorem dX10_asksEcho_41 : decode cX10_asksEcho 41 = .ok (.if_icmp .eq 7, 3) := by decide +kernel
theorem dX10_asksEcho_44 : decode cX10_asksEcho 44 = .ok (.iconst 1, 1) := by decide +kernel
theorem dX10_asksEcho_45 : decode cX10_asksEcho 45 = .ok (.goto 4, 3) := by decide +kernel
theorem dX10_asksEcho_48 : decode cX10_asksEcho 48 = .ok (.iconst 0, 1) := by decide +kernel
theorem dX10_asksEcho_49 : decode cX10_asksEcho 49 = .ok (.bipush 7, 2) := by decide +kernel
theorem dX10_asksEcho_51 : decode cX10_asksEcho 51 = .ok (.iload_n 3, 1) := by decide +kernel
theorem dX10_asksEcho_52 : decode cX10_asksEcho 52 = .ok (.invokevirtual 106, 3) := by decide +kernel
theorem dX10_asksEcho_55 : decode cX10_asksEcho 55 = .ok (.aload_n 0, 1) := by decide +kernel
theorem dX10_asksEcho_56 : decode cX10_asksEcho 56 = .ok (.aload_n 0, 1) := by decide +kernel
theorem dX10_asksEcho_57 : decode cX10_asksEcho 57 = .ok (.getfield 9, 3) := by decide +kernel
theorem dX10_asksEcho_60 : decode cX10_asksEcho 60 = .ok (.iload_n 1, 1) := by decide +kernel
theorem dX10_asksEcho_61 : decode cX10_asksEcho 61 = .ok (.invokestatic 82, 3) := by decide +kernel
theorem dX10_asksEcho_64 : decode cX10_asksEcho 64 = .ok (.iconst 2, 1) := by decide +kernel
theorem dX10_asksEcho_65 : decode cX10_asksEcho 65 = .ok (.iadd, 1) := by decide +kernel
theorem dX10_asksEcho_66 : decode cX10_asksEcho 66 = .ok (.iaload, 1) := by decide +kernel
theorem dX10_asksEcho_67 : decode cX10_asksEcho 67 = .ok (.iload 4, 2) := by decide +kernel
theorem dX10_asksEcho_69 : decode cX10_asksEcho 69 = .ok (.if_icmp .eq 7, 3) := by decide +kernel
theorem dX10_asksEcho_72 : decode cX10_asksEcho 72 = .ok (.iconst 1, 1) := by decide +kernel
theorem dX10_asksEcho_73 : decode cX10_asksEcho 73 = .ok (.goto 4, 3) := by decide +kernel
theorem dX10_asksEcho_76 : decode cX10_asksEcho 76 = .ok (.iconst 0, 1) := by decide +kernel
theorem dX10_asksEcho_77 : decode cX10_asksEcho 77 = .ok (.bipush 8, 2) := by decide +kernel
theorem dX10_asksEcho_79 : decode cX10_asksEcho 79 = .ok (.iload 4, 2) := by decide +kernel
theorem dX10_asksEcho_81 : decode cX10_asksEcho 81 = .ok (.invokevirtual 106, 3) := by decide +kernel
theorem dX10_asksEcho_84 : decode cX10_asksEcho 84 = .ok (.aload_n 0, 1) := by decide +kernel
theorem dX10_asksEcho_85 : decode cX10_asksEcho 85 = .ok (.iload 5, 2) := by decide +kernel
theorem dX10_asksEcho_87 : decode cX10_asksEcho 87 = .ok (.aload_n 0, 1) := by decide +kernel
theorem dX10_asksEcho_88 : decode cX10_asksEcho 88 = .ok (.getfield 9, 3) := by decide +kernel
theorem dX10_asksEcho_91 : decode cX10_asksEcho 91 = .ok (.iload_n 2, 1) := by decide +kernel
theorem dX10_asksEcho_92 : decode cX10_asksEcho 92 = .ok (.invokestatic 86, 3) := by decide +kernel
theorem dX10_asksEcho_95 : decode cX10_asksEcho 95 = .ok (.iconst 1, 1) := by decide +kernel
theorem dX10_asksEcho_96 : decode cX10_asksEcho 96 = .ok (.iadd, 1) := by decide +kernel
theorem dX10_asksEcho_97 : decode cX10_asksEcho 97 = .ok (.iaload, 1) := by decide +kernel
theorem dX10_asksEcho_98 : decode cX10_asksEcho 98 = .ok (.if_icmp .ge 7, 3) := by decide +kernel
theorem dX10_asksEcho_101 : decode cX10_asksEcho 101 = .ok (.iconst 1, 1) := by decide +kernel
theorem dX10_asksEcho_102 : decode cX10_asksEcho 102 = .ok (.goto 4, 3) := by decide +kernel
theorem dX10_asksEcho_105 : decode cX10_asksEcho 105 = .ok (.iconst 0, 1) := by decide +kernel
theorem dX10_asksEcho_106 : decode cX10_asksEcho 106 = .ok (.bipush 9, 2) := by decide +kernel
theorem dX10_asksEcho_108 : decode cX10_asksEcho 108 = .ok (.iload 5, 2) := by decide +kernel
theorem dX10_asksEcho_110 : decode cX10_asksEcho 110 = .ok (.invokevirtual 106, 3) := by decide +kernel
theorem dX10_asksEcho_113 : decode cX10_asksEcho 113 = .ok (.return_, 1) := by decide +kernel
theorem vm_X10_asksEcho : aVm yX10_asksEcho RX10 cX10_asksEcho 6 none 2 := ⟨tw_1717, tw_1716, List.mem_append_left _ (List.mem_of_getElem? (i := 46) (by decide +kernel)), tw_15, rfl, by decide +kernel, by decide +kernel, by decide +kernel⟩
theorem dX10_rents_0 : decode cX10_rents 0 = .ok (.aload_n 0, 1) := by decide +kernel
theorem dX10_rents_1 : decode cX10_rents 1 = .ok (.aload_n 0, 1) := by decide +kernel
theorem dX10_rents_2 : decode cX10_rents 2 = .ok (.iload_n 1, 1) := by decide +kernel
theorem dX10_rents_3 : decode cX10_rents 3 = .ok (.invokevirtual 132, 3) := by decide +kernel
theorem dX10_rents_6 : decode cX10_rents 6 = .ok (.ifCond .ne 7, 3) := by decide +kernel
theorem dX10_rents_9 : decode cX10_rents 9 = .ok (.iconst 1, 1) := by decide +kernel
theorem dX10_rents_10 : decode cX10_rents 10 = .ok (.goto 4, 3) := by decide +kernel
theorem dX10_rents_13 : decode cX10_rents 13 = .ok (.iconst 0, 1) := by decide +kernel
theorem dX10_rents_14 : decode cX10_rents 14 = .ok (.iconst 2, 1) := by decide +kernel
theorem dX10_rents_15 : decode cX10_rents 15 = .ok (.iload_n 1, 1) := by decide +kernel
theorem dX10_rents_16 : decode cX10_rents 16 = .ok (.invokevirtual 106, 3) := by decide +kernel
theorem dX10_rents_19 : decode cX10_rents 19 = .ok (.aload_n 0, 1) := by decide +kernel
theorem dX10_rents_20 : decode cX10_rents 20 = .ok (.aload_n 0, 1) := by decide +kernel
theorem dX10_rents_21 : decode cX10_rents 21 = .ok (.iload_n 2, 1) := by decide +kernel
theorem dX10_rents_22 : decode cX10_rents 22 = .ok (.invokevirtual 145, 3) := by decide +kernel
theorem dX10_rents_25 : decode cX10_rents 25 = .ok (.ifCond .ne 7, 3) := by decide +kernel
theorem dX10_rents_28 : decode cX10_rents 28 = .ok (.iconst 1, 1) := by decide +kernel
theorem dX10_rents_29 : decode cX10_rents 29 = .ok (.goto 4, 3) := by decide +kernel
theorem dX10_rents_32 : decode cX10_rents 32 = .ok (.iconst 0, 1) := by decide +kernel
theorem dX10_rents_33 : decode cX10_rents 33 = .ok (.iconst 2, 1) := by decide +kernel
theorem dX10_rents_34 : decode cX10_rents 34 = .ok (.iload_n 2, 1) := by decide +kernel
theorem dX10_rents_35 : decode cX10_rents 35 = .ok (.invokevirtual 106, 3) := by decide +kernel
theorem dX10_rents_38 : decode cX10_rents 38 = .ok (.aload_n 0, 1) := by decide +kernel
theorem dX10_rents_39 : decode cX10_rents 39 = .ok (.iload_n 3, 1) := by decide +kernel
theorem dX10_rents_40 : decode cX10_rents 40 = .ok (.iconst 1, 1) := by decide +kernel
theorem dX10_rents_41 : decode cX10_rents 41 = .ok (.bipush 9, 2) := by decide +kernel
theorem dX10_rents_43 : decode cX10_rents 43 = .ok (.invokestatic 70, 3) := by decide +kernel
theorem dX10_rents_46 : decode cX10_rents 46 = .ok (.ifCond .ne 7, 3) := by decide +kernel
theorem dX10_rents_49 : decode cX10_rents 49 = .ok (.iconst 1, 1) := by decide +kernel
theorem dX10_rents_50 : decode cX10_rents 50 = .ok (.goto 4, 3) := by decide +kernel
theorem dX10_rents_53 : decode cX10_rents 53 = .ok (.iconst 0, 1) := by decide +kernel
theorem dX10_rents_54 : decode cX10_rents 54 = .ok (.iconst 3, 1) := by decide +kernel
theorem dX10_rents_55 : decode cX10_rents 55 = .ok (.iload_n 3, 1) := by decide +kernel
theorem dX10_rents_56 : decode cX10_rents 56 = .ok (.invokevirtual 106, 3) := by decide +kernel
theorem dX10_rents_59 : decode cX10_rents 59 = .ok (.aload_n 0, 1) := by decide +kernel
theorem dX10_rents_60 : decode cX10_rents 60 = .ok (.getfield 38, 3) := by decide +kernel
theorem dX10_rents_63 : decode cX10_rents 63 = .ok (.ifCond .ne 9, 3) := by decide +kernel
theorem dX10_rents_66 : decode cX10_rents 66 = .ok (.aload_n 0, 1) := by decide +kernel
theorem dX10_rents_67 : decode cX10_rents 67 = .ok (.iload_n 1, 1) := by decide +kernel
theorem dX10_rents_68 : decode cX10_rents 68 = .ok (.iload_n 2, 1) := by decide +kernel
theorem dX10_rents_69 : decode cX10_rents 69 = .ok (.invokevirtual 151, 3) := by decide +kernel
theorem dX10_rents_72 : decode cX10_rents 72 = .ok (.aload_n 0, 1) := by decide +kernel
theorem dX10_rents_73 : decode cX10_rents 73 = .ok (.getfield 38, 3) := by decide +kernel
theorem dX10_rents_76 : decode cX10_rents 76 = .ok (.ifCond .eq 5, 3) := by decide +kernel
theorem dX10_rents_79 : decode cX10_rents 79 = .ok (.iconst 0, 1) := by decide +kernel
theorem dX10_rents_80 : decode cX10_rents 80 = .ok (.ireturn, 1) := by decide +kernel
theorem dX10_rents_81 : decode cX10_rents 81 = .ok (.aload_n 0, 1) := by decide +kernel
theorem dX10_rents_82 : decode cX10_rents 82 = .ok (.getfield 9, 3) := by decide +kernel
theorem dX10_rents_85 : decode cX10_rents 85 = .ok (.iload_n 2, 1) := by decide +kernel
theorem dX10_rents_86 : decode cX10_rents 86 = .ok (.invokestatic 86, 3) := by decide +kernel
theorem dX10_rents_89 : decode cX10_rents 89 = .ok (.iconst 1, 1) := by decide +kernel
theorem dX10_rents_90 : decode cX10_rents 90 = .ok (.iadd, 1) := by decide +kernel
theorem dX10_rents_91 : decode cX10_rents 91 = .ok (.iaload, 1) := by decide +kernel
theorem dX10_rents_92 : decode cX10_rents 92 = .ok (.istore 4, 2) := by decide +kernel
theorem dX10_rents_94 : decode cX10_rents 94 = .ok (.aload_n 0, 1) := by decide +kernel
theorem dX10_rents_95 : decode cX10_rents 95 = .ok (.getfield 9, 3) := by decide +kernel
theorem dX10_rents_98 : decode cX10_rents 98 = .ok (.iload_n 2, 1) := by decide +kernel
theorem dX10_rents_99 : decode cX10_rents 99 = .ok (.invokestatic 86, 3) := by decide +kernel
theorem dX10_rents_102 : decode cX10_rents 102 = .ok (.iconst 2, 1) := by decide +kernel
theorem dX10_rents_103 : decode cX10_rents 103 = .ok (.iadd, 1) := by decide +kernel
theorem dX10_rents_104 : decode cX10_rents 104 = .ok (.iload_n 1, 1) := by decide +kernel
theorem dX10_rents_105 : decode cX10_rents 105 = .ok (.iastore, 1) := by decide +kernel
theorem dX10_rents_106 : decode cX10_rents 106 = .ok (.aload_n 0, 1) := by decide +kernel
theorem dX10_rents_107 : decode cX10_rents 107 = .ok (.getfield 9, 3) := by decide +kernel
theorem dX10_rents_110 : decode cX10_rents 110 = .ok (.iload_n 2, 1) := by decide +kernel
theorem dX10_rents_111 : decode cX10_rents 111 = .ok (.invokestatic 86, 3) := by decide +kernel
theorem dX10_rents_114 : decode cX10_rents 114 = .ok (.iconst 3, 1) := by decide +kernel
theorem dX10_rents_115 : decode cX10_rents 115 = .ok (.iadd, 1) := by decide +kernel
theorem dX10_rents_116 : decode cX10_rents 116 = .ok (.iload_n 3, 1) := by decide +kernel
theorem dX10_rents_117 : decode cX10_rents 117 = .ok (.iastore, 1) := by decide +kernel
theorem dX10_rents_118 : decode cX10_rents 118 = .ok (.aload_n 0, 1) := by decide +kernel
theorem dX10_rents_119 : decode cX10_rents 119 = .ok (.getfield 9, 3) := by decide +kernel
theorem dX10_rents_122 : decode cX10_rents 122 = .ok (.iload_n 1, 1) := by decide +kernel
theorem dX10_rents_123 : decode cX10_rents 123 = .ok (.invokestatic 82, 3) := by decide +kernel
theorem dX10_rents_126 : decode cX10_rents 126 = .ok (.iconst 1, 1) := by decide +kernel
theorem dX10_rents_127 : decode cX10_rents 127 = .ok (.iadd, 1) := by decide +kernel
theorem dX10_rents_128 : decode cX10_rents 128 = .ok (.dup2, 1) := by decide +kernel
theorem dX10_rents_129 : decode cX10_rents 129 = .ok (.iaload, 1) := by decide +kernel
theorem dX10_rents_130 : decode cX10_rents 130 = .ok (.iload 4, 2) := by decide +kernel
theorem dX10_rents_132 : decode cX10_rents 132 = .ok (.isub, 1) := by decide +kernel
theorem dX10_rents_133 : decode cX10_rents 133 = .ok (.iastore, 1) := by decide +kernel
theorem dX10_rents_134 : decode cX10_rents 134 = .ok (.aload_n 0, 1) := by decide +kernel
theorem dX10_rents_135 : decode cX10_rents 135 = .ok (.getfield 9, 3) := by decide +kernel
theorem dX10_rents_138 : decode cX10_rents 138 = .ok (.bipush 6, 2) := by decide +kernel
theorem dX10_rents_140 : decode cX10_rents 140 = .ok (.dup2, 1) := by decide +kernel
theorem dX10_rents_141 : decode cX10_rents 141 = .ok (.iaload, 1) := by decide +kernel
theorem dX10_rents_142 : decode cX10_rents 142 = .ok (.iload 4, 2) := by decide +kernel
theorem dX10_rents_144 : decode cX10_rents 144 = .ok (.iadd, 1) := by decide +kernel
theorem dX10_rents_145 : decode cX10_rents 145 = .ok (.iastore, 1) := by decide +kernel
theorem dX10_rents_146 : decode cX10_rents 146 = .ok (.iload 4, 2) := by decide +kernel
theorem dX10_rents_148 : decode cX10_rents 148 = .ok (.ireturn, 1) := by decide +kernel
theorem vm_X10_rents : aVm yX10_rents RX10 cX10_rents 5 (some .int) 3 := ⟨tw_1713, tw_1712, List.mem_append_left _ (List.mem_of_getElem? (i := 45) (by decide +kernel)), tw_15, rfl, by decide +kernel, by decide +kernel, by decide +kernel⟩
theorem dX10_rent_0 : decode cX10_rent 0 = .ok (.aload_n 0, 1) := by decide +kernel
theorem dX10_rent_1 : decode cX10_rent 1 = .ok (.invokevirtual 110, 3) := by decide +kernel
theorem dX10_rent_4 : decode cX10_rent 4 = .ok (.aload_n 0, 1) := by decide +kernel
theorem dX10_rent_5 : decode cX10_rent 5 = .ok (.aload_n 0, 1) := by decide +kernel
theorem dX10_rent_6 : decode cX10_rent 6 = .ok (.iload_n 1, 1) := by decide +kernel
theorem dX10_rent_7 : decode cX10_rent 7 = .ok (.iload_n 2, 1) := by decide +kernel
theorem dX10_rent_8 : decode cX10_rent 8 = .ok (.iload_n 3, 1) := by decide +kernel
theorem dX10_rent_9 : decode cX10_rent 9 = .ok (.invokevirtual 154, 3) := by decide +kernel
theorem dX10_rent_12 : decode cX10_rent 12 = .ok (.invokevirtual 116, 3) := by decide +kernel
theorem dX10_rent_15 : decode cX10_rent 15 = .ok (.ireturn, 1) := by decide +kernel
theorem vm_X10_rent : aVm yX10_rent RX10 cX10_rent 4 (some .int) 3 := ⟨tw_1709, tw_1707, tw_1708, tw_15, rfl, by decide +kernel, by decide +kernel, by decide +kernel⟩
theorem dX10_stops_0 : decode cX10_stops 0 = .ok (.aload_n 0, 1) := by decide +kernel
theorem dX10_stops_1 : decode cX10_stops 1 = .ok (.getfield 9, 3) := by decide +kernel
theorem dX10_stops_4 : decode cX10_stops 4 = .ok (.iload_n 1, 1) := by decide +kernel
theorem dX10_stops_5 : decode cX10_stops 5 = .ok (.invokestatic 86, 3) := by decide +kernel
theorem dX10_stops_8 : decode cX10_stops 8 = .ok (.iconst 2, 1) := by decide +kernel
theorem dX10_stops_9 : decode cX10_stops 9 = .ok (.iadd, 1) := by decide +kernel
theorem dX10_stops_10 : decode cX10_stops 10 = .ok (.iaload, 1) := by decide +kernel
theorem dX10_stops_11 : decode cX10_stops 11 = .ok (.istore_n 2, 1) := by decide +kernel
theorem dX10_stops_12 : decode cX10_stops 12 = .ok (.aload_n 0, 1) := by decide +kernel
theorem dX10_stops_13 : decode cX10_stops 13 = .ok (.iload_n 1, 1) := by decide +kernel
theorem dX10_stops_14 : decode cX10_stops 14 = .ok (.invokevirtual 158, 3) := by decide +kernel
theorem dX10_stops_17 : decode cX10_stops 17 = .ok (.istore_n 3, 1) := by decide +kernel
theorem dX10_stops_18 : decode cX10_stops 18 = .ok (.aload_n 0, 1) := by decide +kernel
theorem dX10_stops_19 : decode cX10_stops 19 = .ok (.getfield 9, 3) := by decide +kernel
theorem dX10_stops_22 : decode cX10_stops 22 = .ok (.iload_n 2, 1) := by decide +kernel
theorem dX10_stops_23 : decode cX10_stops 23 = .ok (.invokestatic 82, 3) := by decide +kernel
theorem dX10_stops_26 : decode cX10_stops 26 = .ok (.iconst 1, 1) := by decide +kernel
theorem dX10_stops_27 : decode cX10_stops 27 = .ok (.iadd, 1) := by decide +kernel
theorem dX10_stops_28 : decode cX10_stops 28 = .ok (.bipush 99, 2) := by decide +kernel
theorem dX10_stops_30 : decode cX10_stops 30 = .ok (.aload_n 0, 1) := by decide +kernel
theorem dX10_stops_31 : decode cX10_stops 31 = .ok (.getfield 9, 3) := by decide +kernel
theorem dX10_stops_34 : decode cX10_stops 34 = .ok (.iload_n 2, 1) := by decide +kernel
theorem dX10_stops_35 : decode cX10_stops 35 = .ok (.invokestatic 82, 3) := by decide +kernel
theorem dX10_stops_38 : decode cX10_stops 38 = .ok (.iconst 1, 1) := by decide +kernel
theorem dX10_stops_39 : decode cX10_stops 39 = .ok (.iadd, 1) := by decide +kernel
theorem dX10_stops_40 : decode cX10_stops 40 = .ok (.iaload, 1) := by decide +kernel
theorem dX10_stops_41 : decode cX10_stops 41 = .ok (.iload_n 3, 1) := by decide +kernel
theorem dX10_stops_42 : decode cX10_stops 42 = .ok (.iadd, 1) := by decide +kernel
theorem dX10_stops_43 : decode cX10_stops 43 = .ok (.invokestatic 161, 3) := by decide +kernel
theorem dX10_stops_46 : decode cX10_stops 46 = .ok (.iastore, 1) := by decide +kernel
theorem dX10_stops_47 : decode cX10_stops 47 = .ok (.aload_n 0, 1) := by decide +kernel
theorem dX10_stops_48 : decode cX10_stops 48 = .ok (.getfield 9, 3) := by decide +kernel
theorem dX10_stops_51 : decode cX10_stops 51 = .ok (.bipush 7, 2) := by decide +kernel
theorem dX10_stops_53 : decode cX10_stops 53 = .ok (.dup2, 1) := by decide +kernel
theorem dX10_stops_54 : decode cX10_stops 54 = .ok (.iaload, 1) := by decide +kernel
theorem dX10_stops_55 : decode cX10_stops 55 = .ok (.iload_n 3, 1) := by decide +kernel
theorem dX10_stops_56 : decode cX10_stops 56 = .ok (.iadd, 1) := by decide +kernel
theorem dX10_stops_57 : decode cX10_stops 57 = .ok (.iastore, 1) := by decide +kernel
theorem dX10_stops_58 : decode cX10_stops 58 = .ok (.aload_n 0, 1) := by decide +kernel
theorem dX10_stops_59 : decode cX10_stops 59 = .ok (.getfield 9, 3) := by decide +kernel
theorem dX10_stops_62 : decode cX10_stops 62 = .ok (.bipush 8, 2) := by decide +kernel
theorem dX10_stops_64 : decode cX10_stops 64 = .ok (.dup2, 1) := by decide +kernel
theorem dX10_stops_65 : decode cX10_stops 65 = .ok (.iaload, 1) := by decide +kernel
theorem dX10_stops_66 : decode cX10_stops 66 = .ok (.aload_n 0, 1) := by decide +kernel
theorem dX10_stops_67 : decode cX10_stops 67 = .ok (.getfield 9, 3) := by decide +kernel
theorem dX10_stops_70 : decode cX10_stops 70 = .ok (.iload_n 1, 1) := by decide +kernel
theorem dX10_stops_71 : decode cX10_stops 71 = .ok (.invokestatic 86, 3) := by decide +kernel
theorem dX10_stops_74 : decode cX10_stops 74 = .ok (.iconst 1, 1) := by decide +kernel
theorem dX10_stops_75 : decode cX10_stops 75 = .ok (.iadd, 1) := by decide +kernel
theorem dX10_stops_76 : decode cX10_stops 76 = .ok (.iaload, 1) := by decide +kernel
theorem dX10_stops_77 : decode cX10_stops 77 = .ok (.iload_n 3, 1) := by decide +kernel
theorem dX10_stops_78 : decode cX10_stops 78 = .ok (.isub, 1) := by decide +kernel
theorem dX10_stops_79 : decode cX10_stops 79 = .ok (.iadd, 1) := by decide +kernel
theorem dX10_stops_80 : decode cX10_stops 80 = .ok (.iastore, 1) := by decide +kernel
theorem dX10_stops_81 : decode cX10_stops 81 = .ok (.aload_n 0, 1) := by decide +kernel
theorem dX10_stops_82 : decode cX10_stops 82 = .ok (.getfield 9, 3) := by decide +kernel
theorem dX10_stops_85 : decode cX10_stops 85 = .ok (.iload_n 1, 1) := by decide +kernel
theorem dX10_stops_86 : decode cX10_stops 86 = .ok (.invokestatic 86, 3) := by decide +kernel
theorem dX10_stops_89 : decode cX10_stops 89 = .ok (.iconst 2, 1) := by decide +kernel
theorem dX10_stops_90 : decode cX10_stops 90 = .ok (.iadd, 1) := by decide +kernel
theorem dX10_stops_91 : decode cX10_stops 91 = .ok (.iconst (-1), 1) := by decide +kernel
theorem dX10_stops_92 : decode cX10_stops 92 = .ok (.iastore, 1) := by decide +kernel
theorem dX10_stops_93 : decode cX10_stops 93 = .ok (.aload_n 0, 1) := by decide +kernel
theorem dX10_stops_94 : decode cX10_stops 94 = .ok (.getfield 9, 3) := by decide +kernel
theorem dX10_stops_97 : decode cX10_stops 97 = .ok (.iload_n 1, 1) := by decide +kernel
theorem dX10_stops_98 : decode cX10_stops 98 = .ok (.invokestatic 86, 3) := by decide +kernel
theorem dX10_stops_101 : decode cX10_stops 101 = .ok (.iconst 3, 1) := by decide +kernel
theorem dX10_stops_102 : decode cX10_stops 102 = .ok (.iadd, 1) := by decide +kernel
theorem dX10_stops_103 : decode cX10_stops 103 = .ok (.iconst 0, 1) := by decide +kernel
theorem dX10_stops_104 : decode cX10_stops 104 = .ok (.iastore, 1) := by decide +kernel
theorem dX10_stops_105 : decode cX10_stops 105 = .ok (.iload_n 3, 1) := by decide +kernel
theorem dX10_stops_106 : decode cX10_stops 106 = .ok (.ireturn, 1) := by decide +kernel
theorem vm_X10_stops : aVm yX10_stops RX10 cX10_stops 4 (some .int) 1 := ⟨tw_1731, tw_1730, List.mem_append_left _ (List.mem_of_getElem? (i := 48) (by decide +kernel)), tw_15, rfl, by decide +kernel, by decide +kernel, by decide +kernel⟩
theorem dX10_gives_0 : decode cX10_gives 0 = .ok (.aload_n 0, 1) := by decide +kernel
theorem dX10_gives_1 : decode cX10_gives 1 = .ok (.aload_n 0, 1) := by decide +kernel
theorem dX10_gives_2 : decode cX10_gives 2 = .ok (.iload_n 1, 1) := by decide +kernel
theorem dX10_gives_3 : decode cX10_gives 3 = .ok (.invokevirtual 132, 3) := by decide +kernel
theorem dX10_gives_6 : decode cX10_gives 6 = .ok (.ifCond .ne 7, 3) := by decide +kernel
theorem dX10_gives_9 : decode cX10_gives 9 = .ok (.iconst 1, 1) := by decide +kernel
theorem dX10_gives_10 : decode cX10_gives 10 = .ok (.goto 4, 3) := by decide +kernel
theorem dX10_gives_13 : decode cX10_gives 13 = .ok (.iconst 0, 1) := by decide +kernel
theorem dX10_gives_14 : decode cX10_gives 14 = .ok (.iconst 2, 1) := by decide +kernel
theorem dX10_gives_15 : decode cX10_gives 15 = .ok (.iload_n 1, 1) := by decide +kernel
theorem dX10_gives_16 : decode cX10_gives 16 = .ok (.invokevirtual 106, 3) := by decide +kernel
theorem dX10_gives_19 : decode cX10_gives 19 = .ok (.aload_n 0, 1) := by decide +kernel
theorem dX10_gives_20 : decode cX10_gives 20 = .ok (.aload_n 0, 1) := by decide +kernel
theorem dX10_gives_21 : decode cX10_gives 21 = .ok (.iload_n 2, 1) := by decide +kernel
theorem dX10_gives_22 : decode cX10_gives 22 = .ok (.invokevirtual 145, 3) := by decide +kernel
theorem dX10_gives_25 : decode cX10_gives 25 = .ok (.ifCond .ne 7, 3) := by decide +kernel
theorem dX10_gives_28 : decode cX10_gives 28 = .ok (.iconst 1, 1) := by decide +kernel
theorem dX10_gives_29 : decode cX10_gives 29 = .ok (.goto 4, 3) := by decide +kernel
theorem dX10_gives_32 : decode cX10_gives 32 = .ok (.iconst 0, 1) := by decide +kernel
theorem dX10_gives_33 : decode cX10_gives 33 = .ok (.iconst 2, 1) := by decide +kernel
theorem dX10_gives_34 : decode cX10_gives 34 = .ok (.iload_n 2, 1) := by decide +kernel
theorem dX10_gives_35 : decode cX10_gives 35 = .ok (.invokevirtual 106, 3) := by decide +kernel
theorem dX10_gives_38 : decode cX10_gives 38 = .ok (.aload_n 0, 1) := by decide +kernel
theorem dX10_gives_39 : decode cX10_gives 39 = .ok (.aload_n 0, 1) := by decide +kernel
theorem dX10_gives_40 : decode cX10_gives 40 = .ok (.getfield 38, 3) := by decide +kernel
theorem dX10_gives_43 : decode cX10_gives 43 = .ok (.ifCond .ne 31, 3) := by decide +kernel
theorem dX10_gives_46 : decode cX10_gives 46 = .ok (.aload_n 0, 1) := by decide +kernel
theorem dX10_gives_47 : decode cX10_gives 47 = .ok (.getfield 9, 3) := by decide +kernel
theorem dX10_gives_50 : decode cX10_gives 50 = .ok (.iconst 0, 1) := by decide +kernel
theorem dX10_gives_51 : decode cX10_gives 51 = .ok (.bipush 7, 2) := by decide +kernel
theorem dX10_gives_53 : decode cX10_gives 53 = .ok (.iload_n 2, 1) := by decide +kernel
theorem dX10_gives_54 : decode cX10_gives 54 = .ok (.invokestatic 161, 3) := by decide +kernel
theorem dX10_gives_57 : decode cX10_gives 57 = .ok (.invokestatic 100, 3) := by decide +kernel
theorem dX10_gives_60 : decode cX10_gives 60 = .ok (.invokestatic 86, 3) := by decide +kernel
theorem dX10_gives_63 : decode cX10_gives 63 = .ok (.iconst 2, 1) := by decide +kernel
theorem dX10_gives_64 : decode cX10_gives 64 = .ok (.iadd, 1) := by decide +kernel
theorem dX10_gives_65 : decode cX10_gives 65 = .ok (.iaload, 1) := by decide +kernel
theorem dX10_gives_66 : decode cX10_gives 66 = .ok (.iload_n 1, 1) := by decide +kernel
theorem dX10_gives_67 : decode cX10_gives 67 = .ok (.if_icmp .eq 7, 3) := by decide +kernel
theorem dX10_gives_70 : decode cX10_gives 70 = .ok (.iconst 1, 1) := by decide +kernel
theorem dX10_gives_71 : decode cX10_gives 71 = .ok (.goto 4, 3) := by decide +kernel
theorem dX10_gives_74 : decode cX10_gives 74 = .ok (.iconst 0, 1) := by decide +kernel
theorem dX10_gives_75 : decode cX10_gives 75 = .ok (.bipush 11, 2) := by decide +kernel
theorem dX10_gives_77 : decode cX10_gives 77 = .ok (.aload_n 0, 1) := by decide +kernel
theorem dX10_gives_78 : decode cX10_gives 78 = .ok (.getfield 9, 3) := by decide +kernel
theorem dX10_gives_81 : decode cX10_gives 81 = .ok (.iconst 0, 1) := by decide +kernel
theorem dX10_gives_82 : decode cX10_gives 82 = .ok (.bipush 7, 2) := by decide +kernel
theorem dX10_gives_84 : decode cX10_gives 84 = .ok (.iload_n 2, 1) := by decide +kernel
theorem dX10_gives_85 : decode cX10_gives 85 = .ok (.invokestatic 161, 3) := by decide +kernel
theorem dX10_gives_88 : decode cX10_gives 88 = .ok (.invokestatic 100, 3) := by decide +kernel
theorem dX10_gives_91 : decode cX10_gives 91 = .ok (.invokestatic 86, 3) := by decide +kernel
theorem dX10_gives_94 : decode cX10_gives 94 = .ok (.iconst 2, 1) := by decide +kernel
theorem dX10_gives_95 : decode cX10_gives 95 = .ok (.iadd, 1) := by decide +kernel
theorem dX10_gives_96 : decode cX10_gives 96 = .ok (.iaload, 1) := by decide +kernel
theorem dX10_gives_97 : decode cX10_gives 97 = .ok (.invokevirtual 106, 3) := by decide +kernel
theorem dX10_gives_100 : decode cX10_gives 100 = .ok (.aload_n 0, 1) := by decide +kernel
theorem dX10_gives_101 : decode cX10_gives 101 = .ok (.getfield 38, 3) := by decide +kernel
theorem dX10_gives_104 : decode cX10_gives 104 = .ok (.ifCond .eq 7, 3) := by decide +kernel
theorem dX10_gives_107 : decode cX10_gives 107 = .ok (.iconst 0, 1) := by decide +kernel
theorem dX10_gives_108 : decode cX10_gives 108 = .ok (.goto 8, 3) := by decide +kernel
theorem dX10_gives_111 : decode cX10_gives 111 = .ok (.aload_n 0, 1) := by decide +kernel
theorem dX10_gives_112 : decode cX10_gives 112 = .ok (.iload_n 2, 1) := by decide +kernel
theorem dX10_gives_113 : decode cX10_gives 113 = .ok (.invokevirtual 164, 3) := by decide +kernel
theorem dX10_gives_116 : decode cX10_gives 116 = .ok (.ireturn, 1) := by decide +kernel
theorem vm_X10_gives : aVm yX10_gives RX10 cX10_gives 3 (some .int) 2 := ⟨tw_1725, tw_1724, List.mem_append_left _ (List.mem_of_getElem? (i := 47) (by decide +kernel)), tw_15, rfl, by decide +kernel, by decide +kernel, by decide +kernel⟩
theorem dX10_back_0 : decode cX10_back 0 = .ok (.aload_n 0, 1) := by decide +kernel
theorem dX10_back_1 : decode cX10_back 1 = .ok (.invokevirtual 110, 3) := by decide +kernel
theorem dX10_back_4 : decode cX10_back 4 = .ok (.aload_n 0, 1) := by decide +kernel
theorem dX10_back_5 : decode cX10_back 5 = .ok (.aload_n 0, 1) := by decide +kernel
theorem dX10_back_6 : decode cX10_back 6 = .ok (.iload_n 1, 1) := by decide +kernel
theorem dX10_back_7 : decode cX10_back 7 = .ok (.iload_n 2, 1) := by decide +kernel
theorem dX10_back_8 : decode cX10_back 8 = .ok (.invokevirtual 167, 3) := by decide +kernel
theorem dX10_back_11 : decode cX10_back 11 = .ok (.invokevirtual 116, 3) := by decide +kernel
theorem dX10_back_14 : decode cX10_back 14 = .ok (.ireturn, 1) := by decide +kernel
theorem vm_X10_back : aVm yX10_back RX10 cX10_back 3 (some .int) 2 := ⟨tw_1721, tw_1719, tw_1720, tw_15, rfl, by decide +kernel, by decide +kernel, by decide +kernel⟩
theorem dX10_sings_0 : decode cX10_sings 0 = .ok (.aload_n 0, 1) := by decide +kernel
theorem dX10_sings_1 : decode cX10_sings 1 = .ok (.aload_n 0, 1) := by decide +kernel
theorem dX10_sings_2 : decode cX10_sings 2 = .ok (.iload_n 1, 1) := by decide +kernel
theorem dX10_sings_3 : decode cX10_sings 3 = .ok (.invokevirtual 132, 3) := by decide +kernel
theorem dX10_sings_6 : decode cX10_sings 6 = .ok (.ifCond .ne 7, 3) := by decide +kernel
theorem dX10_sings_9 : decode cX10_sings 9 = .ok (.iconst 1, 1) := by decide +kernel
theorem dX10_sings_10 : decode cX10_sings 10 = .ok (.goto 4, 3) := by decide +kernel
theorem dX10_sings_13 : decode cX10_sings 13 = .ok (.iconst 0, 1) := by decide +kernel
theorem dX10_sings_14 : decode cX10_sings 14 = .ok (.iconst 2, 1) := by decide +kernel
theorem dX10_sings_15 : decode cX10_sings 15 = .ok (.iload_n 1, 1) := by decide +kernel
theorem dX10_sings_16 : decode cX10_sings 16 = .ok (.invokevirtual 106, 3) := by decide +kernel
theorem dX10_sings_19 : decode cX10_sings 19 = .ok (.aload_n 0, 1) := by decide +kernel
theorem dX10_sings_20 : decode cX10_sings 20 = .ok (.getfield 38, 3) := by decide +kernel
theorem dX10_sings_23 : decode cX10_sings 23 = .ok (.ifCond .eq 5, 3) := by decide +kernel
theorem dX10_sings_26 : decode cX10_sings 26 = .ok (.iconst 0, 1) := by decide +kernel
theorem dX10_sings_27 : decode cX10_sings 27 = .ok (.ireturn, 1) := by decide +kernel
theorem dX10_sings_28 : decode cX10_sings 28 = .ok (.aload_n 0, 1) := by decide +kernel
theorem dX10_sings_29 : decode cX10_sings 29 = .ok (.getfield 9, 3) := by decide +kernel
theorem dX10_sings_32 : decode cX10_sings 32 = .ok (.iload_n 1, 1) := by decide +kernel
theorem dX10_sings_33 : decode cX10_sings 33 = .ok (.invokestatic 82, 3) := by decide +kernel
theorem dX10_sings_36 : decode cX10_sings 36 = .ok (.iconst 2, 1) := by decide +kernel
theorem dX10_sings_37 : decode cX10_sings 37 = .ok (.iadd, 1) := by decide +kernel
theorem dX10_sings_38 : decode cX10_sings 38 = .ok (.iaload, 1) := by decide +kernel
theorem dX10_sings_39 : decode cX10_sings 39 = .ok (.istore_n 2, 1) := by decide +kernel
theorem dX10_sings_40 : decode cX10_sings 40 = .ok (.aload_n 0, 1) := by decide +kernel
theorem dX10_sings_41 : decode cX10_sings 41 = .ok (.getfield 9, 3) := by decide +kernel
theorem dX10_sings_44 : decode cX10_sings 44 = .ok (.iload_n 1, 1) := by decide +kernel
theorem dX10_sings_45 : decode cX10_sings 45 = .ok (.invokestatic 82, 3) := by decide +kernel
theorem dX10_sings_48 : decode cX10_sings 48 = .ok (.iconst 1, 1) := by decide +kernel
theorem dX10_sings_49 : decode cX10_sings 49 = .ok (.iadd, 1) := by decide +kernel
theorem dX10_sings_50 : decode cX10_sings 50 = .ok (.iaload, 1) := by decide +kernel
theorem dX10_sings_51 : decode cX10_sings 51 = .ok (.istore_n 3, 1) := by decide +kernel
theorem dX10_sings_52 : decode cX10_sings 52 = .ok (.aload_n 0, 1) := by decide +kernel
theorem dX10_sings_53 : decode cX10_sings 53 = .ok (.iload_n 2, 1) := by decide +kernel
theorem dX10_sings_54 : decode cX10_sings 54 = .ok (.iconst (-1), 1) := by decide +kernel
theorem dX10_sings_55 : decode cX10_sings 55 = .ok (.if_icmp .ne 7, 3) := by decide +kernel
theorem dX10_sings_58 : decode cX10_sings 58 = .ok (.iconst 1, 1) := by decide +kernel
theorem dX10_sings_59 : decode cX10_sings 59 = .ok (.goto 4, 3) := by decide +kernel
theorem dX10_sings_62 : decode cX10_sings 62 = .ok (.iconst 0, 1) := by decide +kernel
theorem dX10_sings_63 : decode cX10_sings 63 = .ok (.bipush 10, 2) := by decide +kernel
theorem dX10_sings_65 : decode cX10_sings 65 = .ok (.iload_n 1, 1) := by decide +kernel
theorem dX10_sings_66 : decode cX10_sings 66 = .ok (.invokevirtual 106, 3) := by decide +kernel
theorem dX10_sings_69 : decode cX10_sings 69 = .ok (.aload_n 0, 1) := by decide +kernel
theorem dX10_sings_70 : decode cX10_sings 70 = .ok (.iload_n 3, 1) := by decide +kernel
theorem dX10_sings_71 : decode cX10_sings 71 = .ok (.iconst 1, 1) := by decide +kernel
theorem dX10_sings_72 : decode cX10_sings 72 = .ok (.if_icmp .ge 7, 3) := by decide +kernel
theorem dX10_sings_75 : decode cX10_sings 75 = .ok (.iconst 1, 1) := by decide +kernel
theorem dX10_sings_76 : decode cX10_sings 76 = .ok (.goto 4, 3) := by decide +kernel
theorem dX10_sings_79 : decode cX10_sings 79 = .ok (.iconst 0, 1) := by decide +kernel
theorem dX10_sings_80 : decode cX10_sings 80 = .ok (.bipush 9, 2) := by decide +kernel
theorem dX10_sings_82 : decode cX10_sings 82 = .ok (.iload_n 3, 1) := by decide +kernel
theorem dX10_sings_83 : decode cX10_sings 83 = .ok (.invokevirtual 106, 3) := by decide +kernel
theorem dX10_sings_86 : decode cX10_sings 86 = .ok (.aload_n 0, 1) := by decide +kernel
theorem dX10_sings_87 : decode cX10_sings 87 = .ok (.getfield 38, 3) := by decide +kernel
theorem dX10_sings_90 : decode cX10_sings 90 = .ok (.ifCond .eq 5, 3) := by decide +kernel
theorem dX10_sings_93 : decode cX10_sings 93 = .ok (.iconst 0, 1) := by decide +kernel
theorem dX10_sings_94 : decode cX10_sings 94 = .ok (.ireturn, 1) := by decide +kernel
theorem dX10_sings_95 : decode cX10_sings 95 = .ok (.aload_n 0, 1) := by decide +kernel
theorem dX10_sings_96 : decode cX10_sings 96 = .ok (.getfield 9, 3) := by decide +kernel
theorem dX10_sings_99 : decode cX10_sings 99 = .ok (.iload_n 1, 1) := by decide +kernel
theorem dX10_sings_100 : decode cX10_sings 100 = .ok (.invokestatic 82, 3) := by decide +kernel
theorem dX10_sings_103 : decode cX10_sings 103 = .ok (.iconst 1, 1) := by decide +kernel
theorem dX10_sings_104 : decode cX10_sings 104 = .ok (.iadd, 1) := by decide +kernel
theorem dX10_sings_105 : decode cX10_sings 105 = .ok (.dup2, 1) := by decide +kernel
theorem dX10_sings_106 : decode cX10_sings 106 = .ok (.iaload, 1) := by decide +kernel
theorem dX10_sings_107 : decode cX10_sings 107 = .ok (.iconst 1, 1) := by decide +kernel
theorem dX10_sings_108 : decode cX10_sings 108 = .ok (.isub, 1) := by decide +kernel
theorem dX10_sings_109 : decode cX10_sings 109 = .ok (.iastore, 1) := by decide +kernel
theorem dX10_sings_110 : decode cX10_sings 110 = .ok (.iconst 0, 1) := by decide +kernel
theorem dX10_sings_111 : decode cX10_sings 111 = .ok (.istore 4, 2) := by decide +kernel
theorem dX10_sings_113 : decode cX10_sings 113 = .ok (.iconst 0, 1) := by decide +kernel
theorem dX10_sings_114 : decode cX10_sings 114 = .ok (.istore 5, 2) := by decide +kernel
theorem dX10_sings_116 : decode cX10_sings 116 = .ok (.iload 5, 2) := by decide +kernel
theorem dX10_sings_118 : decode cX10_sings 118 = .ok (.aload_n 0, 1) := by decide +kernel
theorem dX10_sings_119 : decode cX10_sings 119 = .ok (.getfield 9, 3) := by decide +kernel
theorem dX10_sings_122 : decode cX10_sings 122 = .ok (.iconst 1, 1) := by decide +kernel
theorem dX10_sings_123 : decode cX10_sings 123 = .ok (.iaload, 1) := by decide +kernel
theorem dX10_sings_124 : decode cX10_sings 124 = .ok (.if_icmp .ge 108, 3) := by decide +kernel
theorem dX10_sings_127 : decode cX10_sings 127 = .ok (.iload 5, 2) := by decide +kernel
theorem dX10_sings_129 : decode cX10_sings 129 = .ok (.invokestatic 86, 3) := by decide +kernel
theorem dX10_sings_132 : decode cX10_sings 132 = .ok (.istore 6, 2) := by decide +kernel
theorem dX10_sings_134 : decode cX10_sings 134 = .ok (.aload_n 0, 1) := by decide +kernel
theorem dX10_sings_135 : decode cX10_sings 135 = .ok (.getfield 9, 3) := by decide +kernel
theorem dX10_sings_138 : decode cX10_sings 138 = .ok (.iload 6, 2) := by decide +kernel
theorem dX10_sings_140 : decode cX10_sings 140 = .ok (.iconst 0, 1) := by decide +kernel
theorem dX10_sings_141 : decode cX10_sings 141 = .ok (.iadd, 1) := by decide +kernel
theorem dX10_sings_142 : decode cX10_sings 142 = .ok (.iaload, 1) := by decide +kernel
theorem dX10_sings_143 : decode cX10_sings 143 = .ok (.iload_n 2, 1) := by decide +kernel
theorem dX10_sings_144 : decode cX10_sings 144 = .ok (.if_icmp .ne 82, 3) := by decide +kernel
theorem dX10_sings_147 : decode cX10_sings 147 = .ok (.aload_n 0, 1) := by decide +kernel
theorem dX10_sings_148 : decode cX10_sings 148 = .ok (.getfield 9, 3) := by decide +kernel
theorem dX10_sings_151 : decode cX10_sings 151 = .ok (.iload 6, 2) := by decide +kernel
theorem dX10_sings_153 : decode cX10_sings 153 = .ok (.iconst 2, 1) := by decide +kernel
theorem dX10_sings_154 : decode cX10_sings 154 = .ok (.iadd, 1) := by decide +kernel
theorem dX10_sings_155 : decode cX10_sings 155 = .ok (.iaload, 1) := by decide +kernel
theorem dX10_sings_156 : decode cX10_sings 156 = .ok (.iload_n 1, 1) := by decide +kernel
theorem dX10_sings_157 : decode cX10_sings 157 = .ok (.if_icmp .ne 69, 3) := by decide +kernel
theorem dX10_sings_160 : decode cX10_sings 160 = .ok (.aload_n 0, 1) := by decide +kernel
theorem dX10_sings_161 : decode cX10_sings 161 = .ok (.iload 5, 2) := by decide +kernel
theorem dX10_sings_163 : decode cX10_sings 163 = .ok (.invokevirtual 158, 3) := by decide +kernel
theorem dX10_sings_166 : decode cX10_sings 166 = .ok (.istore 7, 2) := by decide +kernel
theorem dX10_sings_168 : decode cX10_sings 168 = .ok (.iload 4, 2) := by decide +kernel
theorem dX10_sings_170 : decode cX10_sings 170 = .ok (.iload 7, 2) := by decide +kernel
theorem dX10_sings_172 : decode cX10_sings 172 = .ok (.iadd, 1) := by decide +kernel
theorem dX10_sings_173 : decode cX10_sings 173 = .ok (.istore 4, 2) := by decide +kernel
theorem dX10_sings_175 : decode cX10_sings 175 = .ok (.aload_n 0, 1) := by decide +kernel
theorem dX10_sings_176 : decode cX10_sings 176 = .ok (.getfield 9, 3) := by decide +kernel
theorem dX10_sings_179 : decode cX10_sings 179 = .ok (.iload 6, 2) := by decide +kernel
theorem dX10_sings_181 : decode cX10_sings 181 = .ok (.iconst 4, 1) := by decide +kernel
theorem dX10_sings_182 : decode cX10_sings 182 = .ok (.iadd, 1) := by decide +kernel
theorem dX10_sings_183 : decode cX10_sings 183 = .ok (.dup2, 1) := by decide +kernel
theorem dX10_sings_184 : decode cX10_sings 184 = .ok (.iaload, 1) := by decide +kernel
theorem dX10_sings_185 : decode cX10_sings 185 = .ok (.iload 7, 2) := by decide +kernel
theorem dX10_sings_187 : decode cX10_sings 187 = .ok (.iadd, 1) := by decide +kernel
theorem dX10_sings_188 : decode cX10_sings 188 = .ok (.iastore, 1) := by decide +kernel
theorem dX10_sings_189 : decode cX10_sings 189 = .ok (.aload_n 0, 1) := by decide +kernel
theorem dX10_sings_190 : decode cX10_sings 190 = .ok (.getfield 9, 3) := by decide +kernel
theorem dX10_sings_193 : decode cX10_sings 193 = .ok (.iload 6, 2) := by decide +kernel
theorem dX10_sings_195 : decode cX10_sings 195 = .ok (.iconst 3, 1) := by decide +kernel
theorem dX10_sings_196 : decode cX10_sings 196 = .ok (.iadd, 1) := by decide +kernel
theorem dX10_sings_197 : decode cX10_sings 197 = .ok (.dup2, 1) := by decide +kernel
theorem dX10_sings_198 : decode cX10_sings 198 = .ok (.iaload, 1) := by decide +kernel
theorem dX10_sings_199 : decode cX10_sings 199 = .ok (.iconst 1, 1) := by decide +kernel
theorem dX10_sings_200 : decode cX10_sings 200 = .ok (.isub, 1) := by decide +kernel
theorem dX10_sings_201 : decode cX10_sings 201 = .ok (.iastore, 1) := by decide +kernel
theorem dX10_sings_202 : decode cX10_sings 202 = .ok (.aload_n 0, 1) := by decide +kernel
theorem dX10_sings_203 : decode cX10_sings 203 = .ok (.getfield 9, 3) := by decide +kernel
theorem dX10_sings_206 : decode cX10_sings 206 = .ok (.iload 6, 2) := by decide +kernel
theorem dX10_sings_208 : decode cX10_sings 208 = .ok (.iconst 3, 1) := by decide +kernel
theorem dX10_sings_209 : decode cX10_sings 209 = .ok (.iadd, 1) := by decide +kernel
theorem dX10_sings_210 : decode cX10_sings 210 = .ok (.iaload, 1) := by decide +kernel
theorem dX10_sings_211 : decode cX10_sings 211 = .ok (.ifCond .ne 12, 3) := by decide +kernel
theorem dX10_sings_214 : decode cX10_sings 214 = .ok (.aload_n 0, 1) := by decide +kernel
theorem dX10_sings_215 : decode cX10_sings 215 = .ok (.iload 5, 2) := by decide +kernel
theorem dX10_sings_217 : decode cX10_sings 217 = .ok (.invokevirtual 164, 3) := by decide +kernel
theorem dX10_sings_220 : decode cX10_sings 220 = .ok (.goto 4, 3) := by decide +kernel
theorem dX10_sings_223 : decode cX10_sings 223 = .ok (.iconst 0, 1) := by decide +kernel
theorem dX10_sings_224 : decode cX10_sings 224 = .ok (.istore 8, 2) := by decide +kernel
theorem dX10_sings_226 : decode cX10_sings 226 = .ok (.iinc 5 1, 3) := by decide +kernel
theorem dX10_sings_229 : decode cX10_sings 229 = .ok (.goto (-113), 3) := by decide +kernel
theorem dX10_sings_232 : decode cX10_sings 232 = .ok (.aload_n 0, 1) := by decide +kernel
theorem dX10_sings_233 : decode cX10_sings 233 = .ok (.getfield 9, 3) := by decide +kernel
theorem dX10_sings_236 : decode cX10_sings 236 = .ok (.iload_n 1, 1) := by decide +kernel
theorem dX10_sings_237 : decode cX10_sings 237 = .ok (.invokestatic 82, 3) := by decide +kernel
theorem dX10_sings_240 : decode cX10_sings 240 = .ok (.iconst 3, 1) := by decide +kernel
theorem dX10_sings_241 : decode cX10_sings 241 = .ok (.iadd, 1) := by decide +kernel
theorem dX10_sings_242 : decode cX10_sings 242 = .ok (.dup2, 1) := by decide +kernel
theorem dX10_sings_243 : decode cX10_sings 243 = .ok (.iaload, 1) := by decide +kernel
theorem dX10_sings_244 : decode cX10_sings 244 = .ok (.iconst 1, 1) := by decide +kernel
theorem dX10_sings_245 : decode cX10_sings 245 = .ok (.iadd, 1) := by decide +kernel
theorem dX10_sings_246 : decode cX10_sings 246 = .ok (.iastore, 1) := by decide +kernel
theorem dX10_sings_247 : decode cX10_sings 247 = .ok (.aload_n 0, 1) := by decide +kernel
theorem dX10_sings_248 : decode cX10_sings 248 = .ok (.getfield 9, 3) := by decide +kernel
theorem dX10_sings_251 : decode cX10_sings 251 = .ok (.iload_n 1, 1) := by decide +kernel
theorem dX10_sings_252 : decode cX10_sings 252 = .ok (.invokestatic 82, 3) := by decide +kernel
theorem dX10_sings_255 : decode cX10_sings 255 = .ok (.iconst 4, 1) := by decide +kernel
theorem dX10_sings_256 : decode cX10_sings 256 = .ok (.iadd, 1) := by decide +kernel
theorem dX10_sings_257 : decode cX10_sings 257 = .ok (.dup2, 1) := by decide +kernel
theorem dX10_sings_258 : decode cX10_sings 258 = .ok (.iaload, 1) := by decide +kernel
theorem dX10_sings_259 : decode cX10_sings 259 = .ok (.iload 4, 2) := by decide +kernel
theorem dX10_sings_261 : decode cX10_sings 261 = .ok (.iadd, 1) := by decide +kernel
theorem dX10_sings_262 : decode cX10_sings 262 = .ok (.iastore, 1) := by decide +kernel
theorem dX10_sings_263 : decode cX10_sings 263 = .ok (.aload_n 0, 1) := by decide +kernel
theorem dX10_sings_264 : decode cX10_sings 264 = .ok (.getfield 9, 3) := by decide +kernel
theorem dX10_sings_267 : decode cX10_sings 267 = .ok (.iload_n 2, 1) := by decide +kernel
theorem dX10_sings_268 : decode cX10_sings 268 = .ok (.invokestatic 97, 3) := by decide +kernel
theorem dX10_sings_271 : decode cX10_sings 271 = .ok (.iconst 2, 1) := by decide +kernel
theorem dX10_sings_272 : decode cX10_sings 272 = .ok (.iadd, 1) := by decide +kernel
theorem dX10_sings_273 : decode cX10_sings 273 = .ok (.dup2, 1) := by decide +kernel
theorem dX10_sings_274 : decode cX10_sings 274 = .ok (.iaload, 1) := by decide +kernel
theorem dX10_sings_275 : decode cX10_sings 275 = .ok (.iconst 1, 1) := by decide +kernel
theorem dX10_sings_276 : decode cX10_sings 276 = .ok (.iadd, 1) := by decide +kernel
theorem dX10_sings_277 : decode cX10_sings 277 = .ok (.iastore, 1) := by decide +kernel
theorem dX10_sings_278 : decode cX10_sings 278 = .ok (.aload_n 0, 1) := by decide +kernel
theorem dX10_sings_279 : decode cX10_sings 279 = .ok (.getfield 9, 3) := by decide +kernel
theorem dX10_sings_282 : decode cX10_sings 282 = .ok (.iload_n 2, 1) := by decide +kernel
theorem dX10_sings_283 : decode cX10_sings 283 = .ok (.invokestatic 97, 3) := by decide +kernel
theorem dX10_sings_286 : decode cX10_sings 286 = .ok (.iconst 1, 1) := by decide +kernel
theorem dX10_sings_287 : decode cX10_sings 287 = .ok (.iadd, 1) := by decide +kernel
theorem dX10_sings_288 : decode cX10_sings 288 = .ok (.bipush 9, 2) := by decide +kernel
theorem dX10_sings_290 : decode cX10_sings 290 = .ok (.aload_n 0, 1) := by decide +kernel
theorem dX10_sings_291 : decode cX10_sings 291 = .ok (.getfield 9, 3) := by decide +kernel
theorem dX10_sings_294 : decode cX10_sings 294 = .ok (.iload_n 2, 1) := by decide +kernel
theorem dX10_sings_295 : decode cX10_sings 295 = .ok (.invokestatic 97, 3) := by decide +kernel
theorem dX10_sings_298 : decode cX10_sings 298 = .ok (.iconst 1, 1) := by decide +kernel
theorem dX10_sings_299 : decode cX10_sings 299 = .ok (.iadd, 1) := by decide +kernel
theorem dX10_sings_300 : decode cX10_sings 300 = .ok (.iaload, 1) := by decide +kernel
theorem dX10_sings_301 : decode cX10_sings 301 = .ok (.iconst 1, 1) := by decide +kernel
theorem dX10_sings_302 : decode cX10_sings 302 = .ok (.iadd, 1) := by decide +kernel
theorem dX10_sings_303 : decode cX10_sings 303 = .ok (.invokestatic 161, 3) := by decide +kernel
theorem dX10_sings_306 : decode cX10_sings 306 = .ok (.iastore, 1) := by decide +kernel
theorem dX10_sings_307 : decode cX10_sings 307 = .ok (.aload_n 0, 1) := by decide +kernel
theorem dX10_sings_308 : decode cX10_sings 308 = .ok (.getfield 9, 3) := by decide +kernel
theorem dX10_sings_311 : decode cX10_sings 311 = .ok (.iconst 4, 1) := by decide +kernel
theorem dX10_sings_312 : decode cX10_sings 312 = .ok (.dup2, 1) := by decide +kernel
theorem dX10_sings_313 : decode cX10_sings 313 = .ok (.iaload, 1) := by decide +kernel
theorem dX10_sings_314 : decode cX10_sings 314 = .ok (.iconst 1, 1) := by decide +kernel
theorem dX10_sings_315 : decode cX10_sings 315 = .ok (.iadd, 1) := by decide +kernel
theorem dX10_sings_316 : decode cX10_sings 316 = .ok (.iastore, 1) := by decide +kernel
theorem dX10_sings_317 : decode cX10_sings 317 = .ok (.aload_n 0, 1) := by decide +kernel
theorem dX10_sings_318 : decode cX10_sings 318 = .ok (.getfield 9, 3) := by decide +kernel
theorem dX10_sings_321 : decode cX10_sings 321 = .ok (.iconst 5, 1) := by decide +kernel
theorem dX10_sings_322 : decode cX10_sings 322 = .ok (.dup2, 1) := by decide +kernel
theorem dX10_sings_323 : decode cX10_sings 323 = .ok (.iaload, 1) := by decide +kernel
theorem dX10_sings_324 : decode cX10_sings 324 = .ok (.iload 4, 2) := by decide +kernel
theorem dX10_sings_326 : decode cX10_sings 326 = .ok (.iadd, 1) := by decide +kernel
theorem dX10_sings_327 : decode cX10_sings 327 = .ok (.iastore, 1) := by decide +kernel
theorem dX10_sings_328 : decode cX10_sings 328 = .ok (.iload 4, 2) := by decide +kernel
theorem dX10_sings_330 : decode cX10_sings 330 = .ok (.ireturn, 1) := by decide +kernel
theorem vm_X10_sings : aVm yX10_sings RX10 cX10_sings 9 (some .int) 1 := ⟨tw_1743, tw_1742, List.mem_append_left _ (List.mem_of_getElem? (i := 50) (by decide +kernel)), tw_15, rfl, by decide +kernel, by decide +kernel, by decide +kernel⟩
theorem dX10_sing_0 : decode cX10_sing 0 = .ok (.aload_n 0, 1) := by decide +kernel
theorem dX10_sing_1 : decode cX10_sing 1 = .ok (.invokevirtual 110, 3) := by decide +kernel
theorem dX10_sing_4 : decode cX10_sing 4 = .ok (.aload_n 0, 1) := by decide +kernel
theorem dX10_sing_5 : decode cX10_sing 5 = .ok (.aload_n 0, 1) := by decide +kernel
theorem dX10_sing_6 : decode cX10_sing 6 = .ok (.iload_n 1, 1) := by decide +kernel
theorem dX10_sing_7 : decode cX10_sing 7 = .ok (.invokevirtual 170, 3) := by decide +kernel
theorem dX10_sing_10 : decode cX10_sing 10 = .ok (.invokevirtual 116, 3) := by decide +kernel
theorem dX10_sing_13 : decode cX10_sing 13 = .ok (.ireturn, 1) := by decide +kernel
theorem vm_X10_sing : aVm yX10_sing RX10 cX10_sing 2 (some .int) 1 := ⟨tw_1739, tw_1737, tw_1738, tw_15, rfl, by decide +kernel, by decide +kernel, by decide +kernel⟩
theorem dX10_passes_0 : decode cX10_passes 0 = .ok (.iconst 0, 1) := by decide +kernel
theorem dX10_passes_1 : decode cX10_passes 1 = .ok (.istore_n 1, 1) := by decide +kernel
theorem dX10_passes_2 : decode cX10_passes 2 = .ok (.iconst 0, 1) := by decide +kernel
theorem dX10_passes_3 : decode cX10_passes 3 = .ok (.istore_n 2, 1) := by decide +kernel
theorem dX10_passes_4 : decode cX10_passes 4 = .ok (.iload_n 2, 1) := by decide +kernel
theorem dX10_passes_5 : decode cX10_passes 5 = .ok (.aload_n 0, 1) := by decide +kernel
theorem dX10_passes_6 : decode cX10_passes 6 = .ok (.getfield 9, 3) := by decide +kernel
theorem dX10_passes_9 : decode cX10_passes 9 = .ok (.iconst 0, 1) := by decide +kernel
theorem dX10_passes_10 : decode cX10_passes 10 = .ok (.iaload, 1) := by decide +kernel
theorem dX10_passes_11 : decode cX10_passes 11 = .ok (.if_icmp .ge 37, 3) := by decide +kernel
theorem dX10_passes_14 : decode cX10_passes 14 = .ok (.aload_n 0, 1) := by decide +kernel
theorem dX10_passes_15 : decode cX10_passes 15 = .ok (.getfield 9, 3) := by decide +kernel
theorem dX10_passes_18 : decode cX10_passes 18 = .ok (.iload_n 2, 1) := by decide +kernel
theorem dX10_passes_19 : decode cX10_passes 19 = .ok (.invokestatic 97, 3) := by decide +kernel
theorem dX10_passes_22 : decode cX10_passes 22 = .ok (.iconst 1, 1) := by decide +kernel
theorem dX10_passes_23 : decode cX10_passes 23 = .ok (.iadd, 1) := by decide +kernel
theorem dX10_passes_24 : decode cX10_passes 24 = .ok (.iconst 0, 1) := by decide +kernel
theorem dX10_passes_25 : decode cX10_passes 25 = .ok (.aload_n 0, 1) := by decide +kernel
theorem dX10_passes_26 : decode cX10_passes 26 = .ok (.getfield 9, 3) := by decide +kernel
theorem dX10_passes_29 : decode cX10_passes 29 = .ok (.iload_n 2, 1) := by decide +kernel
theorem dX10_passes_30 : decode cX10_passes 30 = .ok (.invokestatic 97, 3) := by decide +kernel
theorem dX10_passes_33 : decode cX10_passes 33 = .ok (.iconst 1, 1) := by decide +kernel
theorem dX10_passes_34 : decode cX10_passes 34 = .ok (.iadd, 1) := by decide +kernel
theorem dX10_passes_35 : decode cX10_passes 35 = .ok (.iaload, 1) := by decide +kernel
theorem dX10_passes_36 : decode cX10_passes 36 = .ok (.iconst 2, 1) := by decide +kernel
theorem dX10_passes_37 : decode cX10_passes 37 = .ok (.isub, 1) := by decide +kernel
theorem dX10_passes_38 : decode cX10_passes 38 = .ok (.invokestatic 100, 3) := by decide +kernel
theorem dX10_passes_41 : decode cX10_passes 41 = .ok (.iastore, 1) := by decide +kernel
theorem dX10_passes_42 : decode cX10_passes 42 = .ok (.iinc 2 1, 3) := by decide +kernel
theorem dX10_passes_45 : decode cX10_passes 45 = .ok (.goto (-41), 3) := by decide +kernel
theorem dX10_passes_48 : decode cX10_passes 48 = .ok (.iconst 0, 1) := by decide +kernel
theorem dX10_passes_49 : decode cX10_passes 49 = .ok (.istore_n 2, 1) := by decide +kernel
theorem dX10_passes_50 : decode cX10_passes 50 = .ok (.iload_n 2, 1) := by decide +kernel
theorem dX10_passes_51 : decode cX10_passes 51 = .ok (.aload_n 0, 1) := by decide +kernel
theorem dX10_passes_52 : decode cX10_passes 52 = .ok (.getfield 9, 3) := by decide +kernel
theorem dX10_passes_55 : decode cX10_passes 55 = .ok (.iconst 2, 1) := by decide +kernel
theorem dX10_passes_56 : decode cX10_passes 56 = .ok (.iaload, 1) := by decide +kernel
theorem dX10_passes_57 : decode cX10_passes 57 = .ok (.if_icmp .ge 56, 3) := by decide +kernel
theorem dX10_passes_60 : decode cX10_passes 60 = .ok (.aload_n 0, 1) := by decide +kernel
theorem dX10_passes_61 : decode cX10_passes 61 = .ok (.getfield 9, 3) := by decide +kernel
theorem dX10_passes_64 : decode cX10_passes 64 = .ok (.iload_n 2, 1) := by decide +kernel
theorem dX10_passes_65 : decode cX10_passes 65 = .ok (.invokestatic 82, 3) := by decide +kernel
theorem dX10_passes_68 : decode cX10_passes 68 = .ok (.iconst 1, 1) := by decide +kernel
theorem dX10_passes_69 : decode cX10_passes 69 = .ok (.iadd, 1) := by decide +kernel
theorem dX10_passes_70 : decode cX10_passes 70 = .ok (.iaload, 1) := by decide +kernel
theorem dX10_passes_71 : decode cX10_passes 71 = .ok (.istore_n 3, 1) := by decide +kernel
theorem dX10_passes_72 : decode cX10_passes 72 = .ok (.aload_n 0, 1) := by decide +kernel
theorem dX10_passes_73 : decode cX10_passes 73 = .ok (.getfield 9, 3) := by decide +kernel
theorem dX10_passes_76 : decode cX10_passes 76 = .ok (.iload_n 2, 1) := by decide +kernel
theorem dX10_passes_77 : decode cX10_passes 77 = .ok (.invokestatic 82, 3) := by decide +kernel
theorem dX10_passes_80 : decode cX10_passes 80 = .ok (.iconst 1, 1) := by decide +kernel
theorem dX10_passes_81 : decode cX10_passes 81 = .ok (.iadd, 1) := by decide +kernel
theorem dX10_passes_82 : decode cX10_passes 82 = .ok (.bipush 99, 2) := by decide +kernel
theorem dX10_passes_84 : decode cX10_passes 84 = .ok (.iload_n 3, 1) := by decide +kernel
theorem dX10_passes_85 : decode cX10_passes 85 = .ok (.iconst 3, 1) := by decide +kernel
theorem dX10_passes_86 : decode cX10_passes 86 = .ok (.iadd, 1) := by decide +kernel
theorem dX10_passes_87 : decode cX10_passes 87 = .ok (.invokestatic 161, 3) := by decide +kernel
theorem dX10_passes_90 : decode cX10_passes 90 = .ok (.iastore, 1) := by decide +kernel
theorem dX10_passes_91 : decode cX10_passes 91 = .ok (.iload_n 1, 1) := by decide +kernel
theorem dX10_passes_92 : decode cX10_passes 92 = .ok (.aload_n 0, 1) := by decide +kernel
theorem dX10_passes_93 : decode cX10_passes 93 = .ok (.getfield 9, 3) := by decide +kernel
theorem dX10_passes_96 : decode cX10_passes 96 = .ok (.iload_n 2, 1) := by decide +kernel
theorem dX10_passes_97 : decode cX10_passes 97 = .ok (.invokestatic 82, 3) := by decide +kernel
theorem dX10_passes_100 : decode cX10_passes 100 = .ok (.iconst 1, 1) := by decide +kernel
theorem dX10_passes_101 : decode cX10_passes 101 = .ok (.iadd, 1) := by decide +kernel
theorem dX10_passes_102 : decode cX10_passes 102 = .ok (.iaload, 1) := by decide +kernel
theorem dX10_passes_103 : decode cX10_passes 103 = .ok (.iload_n 3, 1) := by decide +kernel
theorem dX10_passes_104 : decode cX10_passes 104 = .ok (.isub, 1) := by decide +kernel
theorem dX10_passes_105 : decode cX10_passes 105 = .ok (.iadd, 1) := by decide +kernel
theorem dX10_passes_106 : decode cX10_passes 106 = .ok (.istore_n 1, 1) := by decide +kernel
theorem dX10_passes_107 : decode cX10_passes 107 = .ok (.iinc 2 1, 3) := by decide +kernel
theorem dX10_passes_110 : decode cX10_passes 110 = .ok (.goto (-60), 3) := by decide +kernel
theorem dX10_passes_113 : decode cX10_passes 113 = .ok (.aload_n 0, 1) := by decide +kernel
theorem dX10_passes_114 : decode cX10_passes 114 = .ok (.getfield 9, 3) := by decide +kernel
theorem dX10_passes_117 : decode cX10_passes 117 = .ok (.iconst 3, 1) := by decide +kernel
theorem dX10_passes_118 : decode cX10_passes 118 = .ok (.dup2, 1) := by decide +kernel
theorem dX10_passes_119 : decode cX10_passes 119 = .ok (.iaload, 1) := by decide +kernel
theorem dX10_passes_120 : decode cX10_passes 120 = .ok (.iconst 1, 1) := by decide +kernel
theorem dX10_passes_121 : decode cX10_passes 121 = .ok (.iadd, 1) := by decide +kernel
theorem dX10_passes_122 : decode cX10_passes 122 = .ok (.iastore, 1) := by decide +kernel
theorem dX10_passes_123 : decode cX10_passes 123 = .ok (.iload_n 1, 1) := by decide +kernel
theorem dX10_passes_124 : decode cX10_passes 124 = .ok (.ireturn, 1) := by decide +kernel
theorem vm_X10_passes : aVm yX10_passes RX10 cX10_passes 4 (some .int) 0 := ⟨tw_1751, tw_1750, List.mem_append_left _ (List.mem_of_getElem? (i := 51) (by decide +kernel)), tw_15, rfl, by decide +kernel, by decide +kernel, by decide +kernel⟩
theorem dX10_night_0 : decode cX10_night 0 = .ok (.aload_n 0, 1) := by decide +kernel
theorem dX10_night_1 : decode cX10_night 1 = .ok (.invokevirtual 110, 3) := by decide +kernel
theorem dX10_night_4 : decode cX10_night 4 = .ok (.aload_n 0, 1) := by decide +kernel
theorem dX10_night_5 : decode cX10_night 5 = .ok (.aload_n 0, 1) := by decide +kernel
theorem dX10_night_6 : decode cX10_night 6 = .ok (.invokevirtual 173, 3) := by decide +kernel
theorem dX10_night_9 : decode cX10_night 9 = .ok (.invokevirtual 116, 3) := by decide +kernel
theorem dX10_night_12 : decode cX10_night 12 = .ok (.ireturn, 1) := by decide +kernel
theorem vm_X10_night : aVm yX10_night RX10 cX10_night 1 (some .int) 0 := ⟨tw_1747, tw_1745, tw_1746, tw_15, rfl, by decide +kernel, by decide +kernel, by decide +kernel⟩
def w_X10_othersIn (x1 : Int32) (q : aS) (P : Int32 → aS → Prop) : Prop := w_X10_singersIn x1 q (fun r2 q3 => w_J6_bitCount_0f7a4 r2 q3 (fun r4 q5 => P r4 q5))
def w_X10_worthOf (x1 : Int32) (q : aS) (P : Int32 → aS → Prop) : Prop := w_X10_echoAt x1 q (fun r2 q3 => (vp_in (r2 + 1) 97 ∧ w_X10_echoAt x1 q3 (fun r4 q5 => (vp_in (r4 + 0) 97 ∧ w_X10_roomAt (q5.1 1 (Int32.toNatClampNeg (r4 + 0))) q5 (fun r6 q7 => (vp_in (r6 + 1) 97 ∧ P (if 0 < ((q3.1 1 (Int32.toNatClampNeg (r2 + 1))) - (q7.1 1 (Int32.toNatClampNeg (r6 + 1)))) then ((q3.1 1 (Int32.toNatClampNeg (r2 + 1))) - (q7.1 1 (Int32.toNatClampNeg (r6 + 1)))) else 0) q7))))))
def JX10_opens_38 (j1 : Int32) (s0 : Int32) (P : Int32 → aS → Prop) (q : aS) : Prop := w_X10_hinders s0 1 6 q (fun _ q7 => (((q7.1 0 16) = 0 → (vp_in 0 97 ∧ w_X10_roomAt (q7.1 1 (Int32.toNatClampNeg 0)) q7 (fun r8 q9 => (vp_in (r8 + 0) 97 ∧ ∀ q10 : aS, q10 = (up2 q9.1 1 (Int32.toNatClampNeg (r8 + 0)) j1, q9.2) → (vp_in 0 97 ∧ (vp_in 0 97 ∧ ∀ q11 : aS, q11 = (up2 q10.1 1 (Int32.toNatClampNeg 0) ((q10.1 1 (Int32.toNatClampNeg 0)) + 1), q10.2) → (vp_in 0 97 ∧ P ((q11.1 1 (Int32.toNatClampNeg 0)) - 1) q11))))))) ∧ (¬ (q7.1 0 16) = 0 → P 0 q7)))
def JX10_opens_16 (j1 : Int32) (s0 : Int32) (P : Int32 → aS → Prop) (q : aS) : Prop := w_X10_hinders s0 3 j1 q (fun _ q5 => (vp_in 0 97 ∧ ((¬ (q5.1 1 (Int32.toNatClampNeg 0)) = 6 → JX10_opens_38 j1 0 P q5) ∧ ((q5.1 1 (Int32.toNatClampNeg 0)) = 6 → JX10_opens_38 j1 1 P q5))))
def w_X10_opens (x1 : Int32) (q : aS) (P : Int32 → aS → Prop) : Prop := w_X10_isIn x1 1 9 q (fun r2 q3 => ((¬ r2 = 0 → JX10_opens_16 x1 0 P q3) ∧ (r2 = 0 → JX10_opens_16 x1 1 P q3)))
def w_X10_room (x1 : Int32) (q : aS) (P : Int32 → aS → Prop) : Prop := w_X10_begins q (fun _ q3 => w_X10_opens x1 q3 (fun r4 q5 => w_X10_ends r4 q5 (fun r6 q7 => P r6 q7)))
def JX10_sounds_57 (j1 : Int32) (j2 : Int32) (s0 : Int32) (P : Int32 → aS → Prop) (q : aS) : Prop := w_X10_hinders s0 1 8 q (fun _ q12 => (((q12.1 0 16) = 0 → (vp_in 1 97 ∧ w_X10_echoAt (q12.1 1 (Int32.toNatClampNeg 1)) q12 (fun r13 q14 => (vp_in (r13 + 0) 97 ∧ ∀ q15 : aS, q15 = (up2 q14.1 1 (Int32.toNatClampNeg (r13 + 0)) j1, q14.2) → (vp_in (r13 + 1) 97 ∧ ∀ q16 : aS, q16 = (up2 q15.1 1 (Int32.toNatClampNeg (r13 + 1)) j2, q15.2) → (vp_in (r13 + 2) 97 ∧ ∀ q17 : aS, q17 = (up2 q16.1 1 (Int32.toNatClampNeg (r13 + 2)) (-1), q16.2) → (vp_in 1 97 ∧ (vp_in 1 97 ∧ ∀ q18 : aS, q18 = (up2 q17.1 1 (Int32.toNatClampNeg 1) ((q17.1 1 (Int32.toNatClampNeg 1)) + 1), q17.2) → (vp_in 1 97 ∧ P ((q18.1 1 (Int32.toNatClampNeg 1)) - 1) q18))))))))) ∧ (¬ (q12.1 0 16) = 0 → P 0 q12)))
def JX10_sounds_35 (j1 : Int32) (j2 : Int32) (s0 : Int32) (P : Int32 → aS → Prop) (q : aS) : Prop := w_X10_hinders s0 3 j2 q (fun _ q10 => (vp_in 1 97 ∧ ((¬ (q10.1 1 (Int32.toNatClampNeg 1)) = 8 → JX10_sounds_57 j1 j2 0 P q10) ∧ ((q10.1 1 (Int32.toNatClampNeg 1)) = 8 → JX10_sounds_57 j1 j2 1 P q10))))
def JX10_sounds_14 (j1 : Int32) (j2 : Int32) (s0 : Int32) (P : Int32 → aS → Prop) (q : aS) : Prop := w_X10_hinders s0 2 j1 q (fun _ q6 => w_X10_isIn j2 1 9 q6 (fun r7 q8 => ((¬ r7 = 0 → JX10_sounds_35 j1 j2 0 P q8) ∧ (r7 = 0 → JX10_sounds_35 j1 j2 1 P q8))))
def w_X10_sounds (x1 : Int32) (x2 : Int32) (q : aS) (P : Int32 → aS → Prop) : Prop := w_X10_isRoom x1 q (fun r3 q4 => ((¬ r3 = 0 → JX10_sounds_14 x1 x2 0 P q4) ∧ (r3 = 0 → JX10_sounds_14 x1 x2 1 P q4)))
def w_X10_echo (x1 : Int32) (x2 : Int32) (q : aS) (P : Int32 → aS → Prop) : Prop := w_X10_begins q (fun _ q4 => w_X10_sounds x1 x2 q4 (fun r5 q6 => w_X10_ends r5 q6 (fun r7 q8 => P r7 q8)))
def JX10_arrives_59 (j1 : Int32) (j2 : Int32) (s0 : Int32) (P : Int32 → aS → Prop) (q : aS) : Prop := w_X10_hinders s0 1 6 q (fun _ q12 => (((q12.1 0 16) = 0 → (vp_in 2 97 ∧ w_X10_singerAt (q12.1 1 (Int32.toNatClampNeg 2)) q12 (fun r13 q14 => (vp_in (r13 + 0) 97 ∧ ∀ q15 : aS, q15 = (up2 q14.1 1 (Int32.toNatClampNeg (r13 + 0)) j1, q14.2) → (vp_in (r13 + 1) 97 ∧ ∀ q16 : aS, q16 = (up2 q15.1 1 (Int32.toNatClampNeg (r13 + 1)) j2, q15.2) → (vp_in (r13 + 2) 97 ∧ ∀ q17 : aS, q17 = (up2 q16.1 1 (Int32.toNatClampNeg (r13 + 2)) (-1), q16.2) → (vp_in 2 97 ∧ (vp_in 2 97 ∧ ∀ q18 : aS, q18 = (up2 q17.1 1 (Int32.toNatClampNeg 2) ((q17.1 1 (Int32.toNatClampNeg 2)) + 1), q17.2) → (vp_in 2 97 ∧ P ((q18.1 1 (Int32.toNatClampNeg 2)) - 1) q18))))))))) ∧ (¬ (q12.1 0 16) = 0 → P 0 q12)))
def JX10_arrives_37 (j1 : Int32) (j2 : Int32) (s0 : Int32) (P : Int32 → aS → Prop) (q : aS) : Prop := w_X10_hinders s0 3 j2 q (fun _ q10 => (vp_in 2 97 ∧ ((¬ (q10.1 1 (Int32.toNatClampNeg 2)) = 6 → JX10_arrives_59 j1 j2 0 P q10) ∧ ((q10.1 1 (Int32.toNatClampNeg 2)) = 6 → JX10_arrives_59 j1 j2 1 P q10))))
def JX10_arrives_16 (j1 : Int32) (j2 : Int32) (s0 : Int32) (P : Int32 → aS → Prop) (q : aS) : Prop := w_X10_hinders s0 3 j1 q (fun _ q6 => w_X10_isIn j2 0 99 q6 (fun r7 q8 => ((¬ r7 = 0 → JX10_arrives_37 j1 j2 0 P q8) ∧ (r7 = 0 → JX10_arrives_37 j1 j2 1 P q8))))
def w_X10_arrives (x1 : Int32) (x2 : Int32) (q : aS) (P : Int32 → aS → Prop) : Prop := w_X10_isIn x1 0 9 q (fun r3 q4 => ((¬ r3 = 0 → JX10_arrives_16 x1 x2 0 P q4) ∧ (r3 = 0 → JX10_arrives_16 x1 x2 1 P q4)))
def w_X10_singer (x1 : Int32) (x2 : Int32) (q : aS) (P : Int32 → aS → Prop) : Prop := w_X10_begins q (fun _ q4 => w_X10_arrives x1 x2 q4 (fun r5 q6 => w_X10_ends r5 q6 (fun r7 q8 => P r7 q8)))
def JX10_asksRoom_53 (j1 : Int32) (j2 : Int32) (j3 : Int32) (s0 : Int32) (P : Int32 → aS → Prop) (q : aS) : Prop := w_X10_roomAt j2 q (fun r11 q12 => (vp_in (r11 + 0) 97 ∧ w_X10_hinders s0 5 (q12.1 1 (Int32.toNatClampNeg (r11 + 0))) q12 (fun _ q14 => w_X10_singerAt j1 q14 (fun r15 q16 => (vp_in (r15 + 0) 97 ∧ ((j3 ≤ ((9 - (q16.1 1 (Int32.toNatClampNeg (r15 + 0)))) / 3) → w_X10_hinders 0 6 j3 q16 (fun _ q18 => P 0 q18)) ∧ (¬ j3 ≤ ((9 - (q16.1 1 (Int32.toNatClampNeg (r15 + 0)))) / 3) → w_X10_hinders 1 6 j3 q16 (fun _ q20 => P 0 q20))))))))
def JX10_asksRoom_27 (j1 : Int32) (j2 : Int32) (j3 : Int32) (s0 : Int32) (P : Int32 → aS → Prop) (q : aS) : Prop := w_X10_hinders s0 4 j2 q (fun _ q8 => w_X10_roomAt j2 q8 (fun r9 q10 => (vp_in (r9 + 0) 97 ∧ ((j3 < (q10.1 1 (Int32.toNatClampNeg (r9 + 0))) → JX10_asksRoom_53 j1 j2 j3 0 P q10) ∧ (¬ j3 < (q10.1 1 (Int32.toNatClampNeg (r9 + 0))) → JX10_asksRoom_53 j1 j2 j3 1 P q10)))))
def w_X10_asksRoom (x1 : Int32) (x2 : Int32) (q : aS) (P : Int32 → aS → Prop) : Prop := w_X10_othersIn x2 q (fun r3 q4 => w_X10_singerAt x1 q4 (fun r5 q6 => (vp_in (r5 + 2) 97 ∧ ((¬ (q6.1 1 (Int32.toNatClampNeg (r5 + 2))) = x2 → JX10_asksRoom_27 x1 x2 r3 0 P q6) ∧ ((q6.1 1 (Int32.toNatClampNeg (r5 + 2))) = x2 → JX10_asksRoom_27 x1 x2 r3 1 P q6)))))
def JX10_comesIn_51 (j1 : Int32) (j2 : Int32) (P : Int32 → aS → Prop) (q : aS) : Prop := (((q.1 0 16) = 0 → w_X10_singerAt j1 q (fun r11 q12 => (vp_in (r11 + 2) 97 ∧ ∀ q13 : aS, q13 = (up2 q12.1 1 (Int32.toNatClampNeg (r11 + 2)) j2, q12.2) → w_X10_othersIn j2 q13 (fun r14 q15 => P r14 q15)))) ∧ (¬ (q.1 0 16) = 0 → P 0 q))
def JX10_comesIn_33 (j1 : Int32) (j2 : Int32) (s0 : Int32) (P : Int32 → aS → Prop) (q : aS) : Prop := w_X10_hinders s0 2 j2 q (fun _ q10 => ((¬ (q10.1 0 16) = 0 → JX10_comesIn_51 j1 j2 P q10) ∧ ((q10.1 0 16) = 0 → w_X10_asksRoom j1 j2 q10 (fun _ q17 => JX10_comesIn_51 j1 j2 P q17))))
def JX10_comesIn_14 (j1 : Int32) (j2 : Int32) (s0 : Int32) (P : Int32 → aS → Prop) (q : aS) : Prop := w_X10_hinders s0 2 j1 q (fun _ q6 => w_X10_isRoom j2 q6 (fun r7 q8 => ((¬ r7 = 0 → JX10_comesIn_33 j1 j2 0 P q8) ∧ (r7 = 0 → JX10_comesIn_33 j1 j2 1 P q8))))
def w_X10_comesIn (x1 : Int32) (x2 : Int32) (q : aS) (P : Int32 → aS → Prop) : Prop := w_X10_isSinger x1 q (fun r3 q4 => ((¬ r3 = 0 → JX10_comesIn_14 x1 x2 0 P q4) ∧ (r3 = 0 → JX10_comesIn_14 x1 x2 1 P q4)))
def w_X10_enter (x1 : Int32) (x2 : Int32) (q : aS) (P : Int32 → aS → Prop) : Prop := w_X10_begins q (fun _ q4 => w_X10_comesIn x1 x2 q4 (fun r5 q6 => w_X10_ends r5 q6 (fun r7 q8 => P r7 q8)))
def JX10_goesOut_51 (j1 : Int32) (j2 : Int32) (s0 : Int32) (P : Int32 → aS → Prop) (q : aS) : Prop := w_X10_hinders s0 10 j1 q (fun _ q10 => w_X10_singerAt j1 q10 (fun r11 q12 => (vp_in (r11 + 2) 97 ∧ ∀ q13 : aS, q13 = (up2 q12.1 1 (Int32.toNatClampNeg (r11 + 2)) (-1), q12.2) → P j2 q13)))
def JX10_goesOut_14 (j1 : Int32) (s0 : Int32) (P : Int32 → aS → Prop) (q : aS) : Prop := w_X10_hinders s0 2 j1 q (fun _ q5 => (((q5.1 0 16) = 0 → w_X10_singerAt j1 q5 (fun r6 q7 => (vp_in (r6 + 2) 97 ∧ ∀ x8 : Int32, x8 = (q7.1 1 (Int32.toNatClampNeg (r6 + 2))) → ((¬ x8 = (-1) → JX10_goesOut_51 j1 x8 0 P q7) ∧ (x8 = (-1) → JX10_goesOut_51 j1 x8 1 P q7))))) ∧ (¬ (q5.1 0 16) = 0 → P 0 q5)))
def w_X10_goesOut (x1 : Int32) (q : aS) (P : Int32 → aS → Prop) : Prop := w_X10_isSinger x1 q (fun r2 q3 => ((¬ r2 = 0 → JX10_goesOut_14 x1 0 P q3) ∧ (r2 = 0 → JX10_goesOut_14 x1 1 P q3)))
def w_X10_out (x1 : Int32) (q : aS) (P : Int32 → aS → Prop) : Prop := w_X10_begins q (fun _ q3 => w_X10_goesOut x1 q3 (fun r4 q5 => w_X10_ends r4 q5 (fun r6 q7 => P r6 q7)))
def JX10_carries_96 (j1 : Int32) (j2 : Int32) (j3 : Int32) (s0 : Int32) (P : Int32 → aS → Prop) (q : aS) : Prop := w_X10_echoAt j1 q (fun r18 q19 => (vp_in (r18 + 2) 97 ∧ w_X10_hinders s0 7 (q19.1 1 (Int32.toNatClampNeg (r18 + 2))) q19 (fun _ q21 => w_X10_echoAt j1 q21 (fun r22 q23 => (vp_in (r22 + 0) 97 ∧ ∀ q24 : aS, q24 = (up2 q23.1 1 (Int32.toNatClampNeg (r22 + 0)) j2, q23.2) → P j3 q24)))))
def JX10_carries_70 (j1 : Int32) (j2 : Int32) (j3 : Int32) (s0 : Int32) (P : Int32 → aS → Prop) (q : aS) : Prop := w_X10_hinders s0 4 j2 q (fun _ q15 => w_X10_echoAt j1 q15 (fun r16 q17 => (vp_in (r16 + 2) 97 ∧ (((q17.1 1 (Int32.toNatClampNeg (r16 + 2))) = (-1) → JX10_carries_96 j1 j2 j3 0 P q17) ∧ (¬ (q17.1 1 (Int32.toNatClampNeg (r16 + 2))) = (-1) → JX10_carries_96 j1 j2 j3 1 P q17)))))
def JX10_carries_33 (j1 : Int32) (j2 : Int32) (s0 : Int32) (P : Int32 → aS → Prop) (q : aS) : Prop := w_X10_hinders s0 2 j2 q (fun _ q10 => (((q10.1 0 16) = 0 → w_X10_echoAt j1 q10 (fun r11 q12 => (vp_in (r11 + 0) 97 ∧ ∀ x13 : Int32, x13 = (q12.1 1 (Int32.toNatClampNeg (r11 + 0))) → ((¬ x13 = j2 → JX10_carries_70 j1 j2 x13 0 P q12) ∧ (x13 = j2 → JX10_carries_70 j1 j2 x13 1 P q12))))) ∧ (¬ (q10.1 0 16) = 0 → P 0 q10)))
def JX10_carries_14 (j1 : Int32) (j2 : Int32) (s0 : Int32) (P : Int32 → aS → Prop) (q : aS) : Prop := w_X10_hinders s0 2 j1 q (fun _ q6 => w_X10_isRoom j2 q6 (fun r7 q8 => ((¬ r7 = 0 → JX10_carries_33 j1 j2 0 P q8) ∧ (r7 = 0 → JX10_carries_33 j1 j2 1 P q8))))
def w_X10_carries (x1 : Int32) (x2 : Int32) (q : aS) (P : Int32 → aS → Prop) : Prop := w_X10_isEcho x1 q (fun r3 q4 => ((¬ r3 = 0 → JX10_carries_14 x1 x2 0 P q4) ∧ (r3 = 0 → JX10_carries_14 x1 x2 1 P q4)))
def w_X10_carry (x1 : Int32) (x2 : Int32) (q : aS) (P : Int32 → aS → Prop) : Prop := w_X10_begins q (fun _ q4 => w_X10_carries x1 x2 q4 (fun r5 q6 => w_X10_ends r5 q6 (fun r7 q8 => P r7 q8)))
def JX10_asksEcho_77 (j2 : Int32) (j4 : Int32) (j5 : Int32) (s0 : Int32) (P : Int32 → aS → Prop) (q : aS) : Prop := w_X10_hinders s0 8 j4 q (fun _ q17 => w_X10_echoAt j2 q17 (fun r18 q19 => (vp_in (r18 + 1) 97 ∧ (((q19.1 1 (Int32.toNatClampNeg (r18 + 1))) ≤ j5 → w_X10_hinders 0 9 j5 q19 (fun _ q21 => P 0 q21)) ∧ (¬ (q19.1 1 (Int32.toNatClampNeg (r18 + 1))) ≤ j5 → w_X10_hinders 1 9 j5 q19 (fun _ q23 => P 0 q23))))))
def JX10_asksEcho_49 (j1 : Int32) (j2 : Int32) (j3 : Int32) (j4 : Int32) (j5 : Int32) (s0 : Int32) (P : Int32 → aS → Prop) (q : aS) : Prop := w_X10_hinders s0 7 j3 q (fun _ q13 => w_X10_singerAt j1 q13 (fun r14 q15 => (vp_in (r14 + 2) 97 ∧ (((q15.1 1 (Int32.toNatClampNeg (r14 + 2))) = j4 → JX10_asksEcho_77 j2 j4 j5 0 P q15) ∧ (¬ (q15.1 1 (Int32.toNatClampNeg (r14 + 2))) = j4 → JX10_asksEcho_77 j2 j4 j5 1 P q15)))))
def w_X10_asksEcho (x1 : Int32) (x2 : Int32) (q : aS) (P : Int32 → aS → Prop) : Prop := w_X10_echoAt x2 q (fun r3 q4 => (vp_in (r3 + 2) 97 ∧ ∀ x5 : Int32, x5 = (q4.1 1 (Int32.toNatClampNeg (r3 + 2))) → w_X10_echoAt x2 q4 (fun r6 q7 => (vp_in (r6 + 0) 97 ∧ ∀ x8 : Int32, x8 = (q7.1 1 (Int32.toNatClampNeg (r6 + 0))) → w_X10_singerAt x1 q7 (fun r9 q10 => (vp_in (r9 + 1) 97 ∧ ∀ x11 : Int32, x11 = (q10.1 1 (Int32.toNatClampNeg (r9 + 1))) → ((x5 = (-1) → JX10_asksEcho_49 x1 x2 x5 x8 x11 0 P q10) ∧ (¬ x5 = (-1) → JX10_asksEcho_49 x1 x2 x5 x8 x11 1 P q10))))))))
def JX10_rents_72 (j1 : Int32) (j2 : Int32) (j3 : Int32) (P : Int32 → aS → Prop) (q : aS) : Prop := (((q.1 0 16) = 0 → w_X10_echoAt j2 q (fun r16 q17 => (vp_in (r16 + 1) 97 ∧ ∀ x18 : Int32, x18 = (q17.1 1 (Int32.toNatClampNeg (r16 + 1))) → w_X10_echoAt j2 q17 (fun r19 q20 => (vp_in (r19 + 2) 97 ∧ ∀ q21 : aS, q21 = (up2 q20.1 1 (Int32.toNatClampNeg (r19 + 2)) j1, q20.2) → w_X10_echoAt j2 q21 (fun r22 q23 => (vp_in (r22 + 3) 97 ∧ ∀ q24 : aS, q24 = (up2 q23.1 1 (Int32.toNatClampNeg (r22 + 3)) j3, q23.2) → w_X10_singerAt j1 q24 (fun r25 q26 => (vp_in (r25 + 1) 97 ∧ (vp_in (r25 + 1) 97 ∧ ∀ q27 : aS, q27 = (up2 q26.1 1 (Int32.toNatClampNeg (r25 + 1)) ((q26.1 1 (Int32.toNatClampNeg (r25 + 1))) - x18), q26.2) → (vp_in 6 97 ∧ (vp_in 6 97 ∧ ∀ q28 : aS, q28 = (up2 q27.1 1 (Int32.toNatClampNeg 6) ((q27.1 1 (Int32.toNatClampNeg 6)) + x18), q27.2) → P x18 q28)))))))))))) ∧ (¬ (q.1 0 16) = 0 → P 0 q))
def JX10_rents_54 (j1 : Int32) (j2 : Int32) (j3 : Int32) (s0 : Int32) (P : Int32 → aS → Prop) (q : aS) : Prop := w_X10_hinders s0 3 j3 q (fun _ q15 => ((¬ (q15.1 0 16) = 0 → JX10_rents_72 j1 j2 j3 P q15) ∧ ((q15.1 0 16) = 0 → w_X10_asksEcho j1 j2 q15 (fun _ q30 => JX10_rents_72 j1 j2 j3 P q30))))
def JX10_rents_33 (j1 : Int32) (j2 : Int32) (j3 : Int32) (s0 : Int32) (P : Int32 → aS → Prop) (q : aS) : Prop := w_X10_hinders s0 2 j2 q (fun _ q11 => w_X10_isIn j3 1 9 q11 (fun r12 q13 => ((¬ r12 = 0 → JX10_rents_54 j1 j2 j3 0 P q13) ∧ (r12 = 0 → JX10_rents_54 j1 j2 j3 1 P q13))))
def JX10_rents_14 (j1 : Int32) (j2 : Int32) (j3 : Int32) (s0 : Int32) (P : Int32 → aS → Prop) (q : aS) : Prop := w_X10_hinders s0 2 j1 q (fun _ q7 => w_X10_isEcho j2 q7 (fun r8 q9 => ((¬ r8 = 0 → JX10_rents_33 j1 j2 j3 0 P q9) ∧ (r8 = 0 → JX10_rents_33 j1 j2 j3 1 P q9))))
def w_X10_rents (x1 : Int32) (x2 : Int32) (x3 : Int32) (q : aS) (P : Int32 → aS → Prop) : Prop := w_X10_isSinger x1 q (fun r4 q5 => ((¬ r4 = 0 → JX10_rents_14 x1 x2 x3 0 P q5) ∧ (r4 = 0 → JX10_rents_14 x1 x2 x3 1 P q5)))
def w_X10_rent (x1 : Int32) (x2 : Int32) (x3 : Int32) (q : aS) (P : Int32 → aS → Prop) : Prop := w_X10_begins q (fun _ q5 => w_X10_rents x1 x2 x3 q5 (fun r6 q7 => w_X10_ends r6 q7 (fun r8 q9 => P r8 q9)))
def w_X10_stops (x1 : Int32) (q : aS) (P : Int32 → aS → Prop) : Prop := w_X10_echoAt x1 q (fun r2 q3 => (vp_in (r2 + 2) 97 ∧ ∀ x4 : Int32, x4 = (q3.1 1 (Int32.toNatClampNeg (r2 + 2))) → w_X10_worthOf x1 q3 (fun r5 q6 => w_X10_singerAt x4 q6 (fun r7 q8 => w_X10_singerAt x4 q8 (fun r9 q10 => (vp_in (r9 + 1) 97 ∧ (vp_in (r7 + 1) 97 ∧ ∀ q11 : aS, q11 = (up2 q10.1 1 (Int32.toNatClampNeg (r7 + 1)) (if ((q10.1 1 (Int32.toNatClampNeg (r9 + 1))) + r5) < 99 then ((q10.1 1 (Int32.toNatClampNeg (r9 + 1))) + r5) else 99), q10.2) → (vp_in 7 97 ∧ (vp_in 7 97 ∧ ∀ q12 : aS, q12 = (up2 q11.1 1 (Int32.toNatClampNeg 7) ((q11.1 1 (Int32.toNatClampNeg 7)) + r5), q11.2) → (vp_in 8 97 ∧ w_X10_echoAt x1 q12 (fun r13 q14 => (vp_in (r13 + 1) 97 ∧ (vp_in 8 97 ∧ ∀ q15 : aS, q15 = (up2 q14.1 1 (Int32.toNatClampNeg 8) ((q12.1 1 (Int32.toNatClampNeg 8)) + ((q14.1 1 (Int32.toNatClampNeg (r13 + 1))) - r5)), q14.2) → w_X10_echoAt x1 q15 (fun r16 q17 => (vp_in (r16 + 2) 97 ∧ ∀ q18 : aS, q18 = (up2 q17.1 1 (Int32.toNatClampNeg (r16 + 2)) (-1), q17.2) → w_X10_echoAt x1 q18 (fun r19 q20 => (vp_in (r19 + 3) 97 ∧ ∀ q21 : aS, q21 = (up2 q20.1 1 (Int32.toNatClampNeg (r19 + 3)) 0, q20.2) → P r5 q21)))))))))))))))))
def JX10_gives_75 (j2 : Int32) (s0 : Int32) (P : Int32 → aS → Prop) (q : aS) : Prop := w_X10_echoAt (if 0 < (if j2 < 7 then j2 else 7) then (if j2 < 7 then j2 else 7) else 0) q (fun r11 q12 => (vp_in (r11 + 2) 97 ∧ w_X10_hinders s0 11 (q12.1 1 (Int32.toNatClampNeg (r11 + 2))) q12 (fun _ q14 => (((q14.1 0 16) = 0 → w_X10_stops j2 q14 (fun r15 q16 => P r15 q16)) ∧ (¬ (q14.1 0 16) = 0 → P 0 q14)))))
def JX10_gives_74 (j2 : Int32) (P : Int32 → aS → Prop) (q : aS) : Prop := JX10_gives_75 j2 0 P q
def JX10_gives_33 (j1 : Int32) (j2 : Int32) (s0 : Int32) (P : Int32 → aS → Prop) (q : aS) : Prop := w_X10_hinders s0 2 j2 q (fun _ q10 => ((¬ (q10.1 0 16) = 0 → JX10_gives_74 j2 P q10) ∧ ((q10.1 0 16) = 0 → w_X10_echoAt (if 0 < (if j2 < 7 then j2 else 7) then (if j2 < 7 then j2 else 7) else 0) q10 (fun r17 q18 => (vp_in (r17 + 2) 97 ∧ (((q18.1 1 (Int32.toNatClampNeg (r17 + 2))) = j1 → JX10_gives_74 j2 P q18) ∧ (¬ (q18.1 1 (Int32.toNatClampNeg (r17 + 2))) = j1 → JX10_gives_75 j2 1 P q18)))))))
def JX10_gives_14 (j1 : Int32) (j2 : Int32) (s0 : Int32) (P : Int32 → aS → Prop) (q : aS) : Prop := w_X10_hinders s0 2 j1 q (fun _ q6 => w_X10_isEcho j2 q6 (fun r7 q8 => ((¬ r7 = 0 → JX10_gives_33 j1 j2 0 P q8) ∧ (r7 = 0 → JX10_gives_33 j1 j2 1 P q8))))
def w_X10_gives (x1 : Int32) (x2 : Int32) (q : aS) (P : Int32 → aS → Prop) : Prop := w_X10_isSinger x1 q (fun r3 q4 => ((¬ r3 = 0 → JX10_gives_14 x1 x2 0 P q4) ∧ (r3 = 0 → JX10_gives_14 x1 x2 1 P q4)))
def w_X10_back (x1 : Int32) (x2 : Int32) (q : aS) (P : Int32 → aS → Prop) : Prop := w_X10_begins q (fun _ q4 => w_X10_gives x1 x2 q4 (fun r5 q6 => w_X10_ends r5 q6 (fun r7 q8 => P r7 q8)))
def LX10_sings_116 (c1 : Int32) (c2 : Int32) (P : Int32 → aS → Prop) (K : Int32 → aS → Prop) : Nat → Int32 → Int32 → aS → Prop
  | 0, _, _, _ => False
  | N + 1, v4, v5, q => (vp_in 1 97 ∧ (((q.1 1 (Int32.toNatClampNeg 1)) ≤ v5 → K v4 q) ∧ (¬ (q.1 1 (Int32.toNatClampNeg 1)) ≤ v5 → w_X10_echoAt v5 q (fun r19 q20 => (vp_in (r19 + 0) 97 ∧ ((¬ (q20.1 1 (Int32.toNatClampNeg (r19 + 0))) = c2 → ∀ x21 : Int32, x21 = v5 + 1 → (LX10_sings_116 c1 c2 P K N) v4 x21 q20) ∧ ((q20.1 1 (Int32.toNatClampNeg (r19 + 0))) = c2 → (vp_in (r19 + 2) 97 ∧ ((¬ (q20.1 1 (Int32.toNatClampNeg (r19 + 2))) = c1 → ∀ x22 : Int32, x22 = v5 + 1 → (LX10_sings_116 c1 c2 P K N) v4 x22 q20) ∧ ((q20.1 1 (Int32.toNatClampNeg (r19 + 2))) = c1 → w_X10_worthOf v5 q20 (fun r23 q24 => ∀ x25 : Int32, x25 = (v4 + r23) → (vp_in (r19 + 4) 97 ∧ (vp_in (r19 + 4) 97 ∧ ∀ q26 : aS, q26 = (up2 q24.1 1 (Int32.toNatClampNeg (r19 + 4)) ((q24.1 1 (Int32.toNatClampNeg (r19 + 4))) + r23), q24.2) → (vp_in (r19 + 3) 97 ∧ (vp_in (r19 + 3) 97 ∧ ∀ q27 : aS, q27 = (up2 q26.1 1 (Int32.toNatClampNeg (r19 + 3)) ((q26.1 1 (Int32.toNatClampNeg (r19 + 3))) - 1), q26.2) → (vp_in (r19 + 3) 97 ∧ ((¬ (q27.1 1 (Int32.toNatClampNeg (r19 + 3))) = 0 → ∀ x28 : Int32, x28 = v5 + 1 → (LX10_sings_116 c1 c2 P K N) x25 x28 q27) ∧ ((q27.1 1 (Int32.toNatClampNeg (r19 + 3))) = 0 → w_X10_stops v5 q27 (fun r29 q30 => ∀ x31 : Int32, x31 = v5 + 1 → (LX10_sings_116 c1 c2 P K N) x25 x31 q30)))))))))))))))))))
def JX10_sings_80 (j1 : Int32) (j2 : Int32) (j3 : Int32) (s0 : Int32) (P : Int32 → aS → Prop) (q : aS) : Prop := w_X10_hinders s0 9 j3 q (fun _ q15 => (((q15.1 0 16) = 0 → w_X10_singerAt j1 q15 (fun r16 q17 => (vp_in (r16 + 1) 97 ∧ (vp_in (r16 + 1) 97 ∧ ∀ q18 : aS, q18 = (up2 q17.1 1 (Int32.toNatClampNeg (r16 + 1)) ((q17.1 1 (Int32.toNatClampNeg (r16 + 1))) - 1), q17.2) → ∃ M50, LX10_sings_116 j1 j2 P (fun y32 q33 => w_X10_singerAt j1 q33 (fun r34 q35 => (vp_in (r34 + 3) 97 ∧ (vp_in (r34 + 3) 97 ∧ ∀ q36 : aS, q36 = (up2 q35.1 1 (Int32.toNatClampNeg (r34 + 3)) ((q35.1 1 (Int32.toNatClampNeg (r34 + 3))) + 1), q35.2) → w_X10_singerAt j1 q36 (fun r37 q38 => (vp_in (r37 + 4) 97 ∧ (vp_in (r37 + 4) 97 ∧ ∀ q39 : aS, q39 = (up2 q38.1 1 (Int32.toNatClampNeg (r37 + 4)) ((q38.1 1 (Int32.toNatClampNeg (r37 + 4))) + y32), q38.2) → w_X10_roomAt j2 q39 (fun r40 q41 => (vp_in (r40 + 2) 97 ∧ (vp_in (r40 + 2) 97 ∧ ∀ q42 : aS, q42 = (up2 q41.1 1 (Int32.toNatClampNeg (r40 + 2)) ((q41.1 1 (Int32.toNatClampNeg (r40 + 2))) + 1), q41.2) → w_X10_roomAt j2 q42 (fun r43 q44 => w_X10_roomAt j2 q44 (fun r45 q46 => (vp_in (r45 + 1) 97 ∧ (vp_in (r43 + 1) 97 ∧ ∀ q47 : aS, q47 = (up2 q46.1 1 (Int32.toNatClampNeg (r43 + 1)) (if ((q46.1 1 (Int32.toNatClampNeg (r45 + 1))) + 1) < 9 then ((q46.1 1 (Int32.toNatClampNeg (r45 + 1))) + 1) else 9), q46.2) → (vp_in 4 97 ∧ (vp_in 4 97 ∧ ∀ q48 : aS, q48 = (up2 q47.1 1 (Int32.toNatClampNeg 4) ((q47.1 1 (Int32.toNatClampNeg 4)) + 1), q47.2) → (vp_in 5 97 ∧ (vp_in 5 97 ∧ ∀ q49 : aS, q49 = (up2 q48.1 1 (Int32.toNatClampNeg 5) ((q48.1 1 (Int32.toNatClampNeg 5)) + y32), q48.2) → P y32 q49)))))))))))))))))) M50 0 0 q18)))) ∧ (¬ (q15.1 0 16) = 0 → P 0 q15)))
def JX10_sings_63 (j1 : Int32) (j2 : Int32) (j3 : Int32) (s0 : Int32) (P : Int32 → aS → Prop) (q : aS) : Prop := w_X10_hinders s0 10 j1 q (fun _ q13 => ((1 ≤ j3 → JX10_sings_80 j1 j2 j3 0 P q13) ∧ (¬ 1 ≤ j3 → JX10_sings_80 j1 j2 j3 1 P q13)))
def JX10_sings_14 (j1 : Int32) (s0 : Int32) (P : Int32 → aS → Prop) (q : aS) : Prop := w_X10_hinders s0 2 j1 q (fun _ q5 => (((q5.1 0 16) = 0 → w_X10_singerAt j1 q5 (fun r6 q7 => (vp_in (r6 + 2) 97 ∧ ∀ x8 : Int32, x8 = (q7.1 1 (Int32.toNatClampNeg (r6 + 2))) → w_X10_singerAt j1 q7 (fun r9 q10 => (vp_in (r9 + 1) 97 ∧ ∀ x11 : Int32, x11 = (q10.1 1 (Int32.toNatClampNeg (r9 + 1))) → ((¬ x8 = (-1) → JX10_sings_63 j1 x8 x11 0 P q10) ∧ (x8 = (-1) → JX10_sings_63 j1 x8 x11 1 P q10))))))) ∧ (¬ (q5.1 0 16) = 0 → P 0 q5)))
def w_X10_sings (x1 : Int32) (q : aS) (P : Int32 → aS → Prop) : Prop := w_X10_isSinger x1 q (fun r2 q3 => ((¬ r2 = 0 → JX10_sings_14 x1 0 P q3) ∧ (r2 = 0 → JX10_sings_14 x1 1 P q3)))
def w_X10_sing (x1 : Int32) (q : aS) (P : Int32 → aS → Prop) : Prop := w_X10_begins q (fun _ q3 => w_X10_sings x1 q3 (fun r4 q5 => w_X10_ends r4 q5 (fun r6 q7 => P r6 q7)))
def LX10_passes_4 (c1 : Int32) (P : Int32 → aS → Prop) (K : aS → Prop) : Nat → Int32 → aS → Prop
  | 0, _, _ => False
  | N + 1, v2, q => (vp_in 0 97 ∧ (((q.1 1 (Int32.toNatClampNeg 0)) ≤ v2 → K  q) ∧ (¬ (q.1 1 (Int32.toNatClampNeg 0)) ≤ v2 → w_X10_roomAt v2 q (fun r1 q2 => w_X10_roomAt v2 q2 (fun r3 q4 => (vp_in (r3 + 1) 97 ∧ (vp_in (r1 + 1) 97 ∧ ∀ q5 : aS, q5 = (up2 q4.1 1 (Int32.toNatClampNeg (r1 + 1)) (if 0 < ((q4.1 1 (Int32.toNatClampNeg (r3 + 1))) - 2) then ((q4.1 1 (Int32.toNatClampNeg (r3 + 1))) - 2) else 0), q4.2) → ∀ x6 : Int32, x6 = v2 + 1 → (LX10_passes_4 c1 P K N) x6 q5)))))))
def LX10_passes_50 (P : Int32 → aS → Prop) (K : Int32 → aS → Prop) : Nat → Int32 → Int32 → aS → Prop
  | 0, _, _, _ => False
  | N + 1, v1, v2, q => (vp_in 2 97 ∧ (((q.1 1 (Int32.toNatClampNeg 2)) ≤ v2 → K v1 q) ∧ (¬ (q.1 1 (Int32.toNatClampNeg 2)) ≤ v2 → w_X10_singerAt v2 q (fun r8 q9 => (vp_in (r8 + 1) 97 ∧ ∀ x10 : Int32, x10 = (q9.1 1 (Int32.toNatClampNeg (r8 + 1))) → w_X10_singerAt v2 q9 (fun r11 q12 => (vp_in (r11 + 1) 97 ∧ ∀ q13 : aS, q13 = (up2 q12.1 1 (Int32.toNatClampNeg (r11 + 1)) (if (x10 + 3) < 99 then (x10 + 3) else 99), q12.2) → w_X10_singerAt v2 q13 (fun r14 q15 => (vp_in (r14 + 1) 97 ∧ ∀ x16 : Int32, x16 = (v1 + ((q15.1 1 (Int32.toNatClampNeg (r14 + 1))) - x10)) → ∀ x17 : Int32, x17 = v2 + 1 → (LX10_passes_50 P K N) x16 x17 q15)))))))))
def w_X10_passes (q : aS) (P : Int32 → aS → Prop) : Prop := ∃ M22, LX10_passes_4 0 P (fun q7 => ∃ M21, LX10_passes_50 P (fun y18 q19 => (vp_in 3 97 ∧ (vp_in 3 97 ∧ ∀ q20 : aS, q20 = (up2 q19.1 1 (Int32.toNatClampNeg 3) ((q19.1 1 (Int32.toNatClampNeg 3)) + 1), q19.2) → P y18 q20))) M21 0 0 q7) M22 0 q
def w_X10_night (q : aS) (P : Int32 → aS → Prop) : Prop := w_X10_begins q (fun _ q2 => w_X10_passes q2 (fun r3 q4 => w_X10_ends r3 q4 (fun r5 q6 => P r5 q6)))
set_option maxRecDepth 20000 in
theorem t_X10_othersIn {l : Launch} {g : aG} (hX : isM g) (hl : l.stackTraces = false) (x1 : Int32) (q : aS) (P : Int32 → aS → Prop) (h : w_X10_othersIn x1 q P) : aMi l g yX10_othersIn (aWs yX10_othersIn cX10_othersIn 2 (some .int)) 2 0 0 [.ref (gAd g 0), .int x1] q P (fun _ _ => False) := by
  refine aMi_of RX10 ⟨by decide +kernel, rfl⟩ (cat_all rfl) (Nat.le_of_ble_eq_true rfl) hl hX.cl (fun f hR hC hE => ?_)
  show AW f g 0 [some (.ref (gAd g 0)), some (.int x1)] [] q 0 0
  unfold w_X10_othersIn at h
  refine a_aload_n (pc := 0) hC dX10_othersIn_0 rfl ?_
  refine a_iload_n (pc := 1) hC dX10_othersIn_1 rfl ?_
  refine a_callV (pc := 2) hC hR vm_X10_singersIn tw_1681 cl_X10 (oM_0 hX) ⟨(Nat.le_of_ble_eq_true rfl), (Nat.le_of_ble_eq_true rfl), (Nat.le_of_ble_eq_true rfl), (Nat.le_of_ble_eq_true rfl)⟩ dX10_othersIn_2 (t_X10_singersIn hX hC.tr _ _ _ h) rfl rfl rfl (Nat.le_of_ble_eq_true rfl) (fun r2 q3 h => ?_)
  refine a_callS (pc := 5) hC hR sm_J6_bitCount_0f7a4 tw_1685 ⟨(Nat.le_of_ble_eq_true rfl), (Nat.le_of_ble_eq_true rfl), (Nat.le_of_ble_eq_true rfl), (Nat.le_of_ble_eq_true rfl)⟩ dX10_othersIn_5 (t_J6_bitCount_0f7a4 hX.cl hC.tr _ _ _ h) rfl rfl rfl (Nat.le_of_ble_eq_true rfl) (fun r4 q5 h => ?_)
  exact a_iret (pc := 8) hC hE h (Nat.le_of_ble_eq_true rfl) (Nat.le_of_ble_eq_true rfl) dX10_othersIn_8
set_option maxRecDepth 20000 in
theorem t_X10_worthOf {l : Launch} {g : aG} (hX : isM g) (hl : l.stackTraces = false) (x1 : Int32) (q : aS) (P : Int32 → aS → Prop) (h : w_X10_worthOf x1 q P) : aMi l g yX10_worthOf (aWs yX10_worthOf cX10_worthOf 2 (some .int)) 1 0 0 [.ref (gAd g 0), .int x1] q P (fun _ _ => False) := by
  refine aMi_of RX10 ⟨by decide +kernel, rfl⟩ (cat_all rfl) (Nat.le_of_ble_eq_true rfl) hl hX.cl (fun f hR hC hE => ?_)
  show AW f g 0 [some (.ref (gAd g 0)), some (.int x1)] [] q 0 0
  unfold w_X10_worthOf at h
  refine a_iconst (pc := 0) hC dX10_worthOf_0 (v := 0) rfl ?_
  refine a_aload_n (pc := 1) hC dX10_worthOf_1 rfl ?_
  refine a_get (pc := 2) hC cl_X10 (oM_0 hX) 0 (by decide) tw_1504 rfl dX10_worthOf_2 ?_
  refine a_iload_n (pc := 5) hC dX10_worthOf_5 rfl ?_
  refine a_callS (pc := 6) hC hR sm_X10_echoAt tw_1647 ⟨(Nat.le_of_ble_eq_true rfl), (Nat.le_of_ble_eq_true rfl), (Nat.le_of_ble_eq_true rfl), (Nat.le_of_ble_eq_true rfl)⟩ dX10_worthOf_6 (t_X10_echoAt hX hC.tr _ _ _ h) rfl rfl rfl (Nat.le_of_ble_eq_true rfl) (fun r2 q3 h => ?_)
  refine a_iconst (pc := 9) hC dX10_worthOf_9 (v := 1) rfl ?_
  refine a_iadd (pc := 10) hC dX10_worthOf_10 ?_
  refine a_iald (pc := 11) hC (oM_1 hX) h.1 dX10_worthOf_11 ?_
  replace h := h.2
  refine a_aload_n (pc := 12) hC dX10_worthOf_12 rfl ?_
  refine a_get (pc := 13) hC cl_X10 (oM_0 hX) 0 (by decide) tw_1504 rfl dX10_worthOf_13 ?_
  refine a_aload_n (pc := 16) hC dX10_worthOf_16 rfl ?_
  refine a_get (pc := 17) hC cl_X10 (oM_0 hX) 0 (by decide) tw_1504 rfl dX10_worthOf_17 ?_
  refine a_iload_n (pc := 20) hC dX10_worthOf_20 rfl ?_
  refine a_callS (pc := 21) hC hR sm_X10_echoAt tw_1647 ⟨(Nat.le_of_ble_eq_true rfl), (Nat.le_of_ble_eq_true rfl), (Nat.le_of_ble_eq_true rfl), (Nat.le_of_ble_eq_true rfl)⟩ dX10_worthOf_21 (t_X10_echoAt hX hC.tr _ _ _ h) rfl rfl rfl (Nat.le_of_ble_eq_true rfl) (fun r4 q5 h => ?_)
  refine a_iconst (pc := 24) hC dX10_worthOf_24 (v := 0) rfl ?_
  refine a_iadd (pc := 25) hC dX10_worthOf_25 ?_
  refine a_iald (pc := 26) hC (oM_1 hX) h.1 dX10_worthOf_26 ?_
  replace h := h.2
  refine a_callS (pc := 27) hC hR sm_X10_roomAt tw_1620 ⟨(Nat.le_of_ble_eq_true rfl), (Nat.le_of_ble_eq_true rfl), (Nat.le_of_ble_eq_true rfl), (Nat.le_of_ble_eq_true rfl)⟩ dX10_worthOf_27 (t_X10_roomAt hX hC.tr _ _ _ h) rfl rfl rfl (Nat.le_of_ble_eq_true rfl) (fun r6 q7 h => ?_)
  refine a_iconst (pc := 30) hC dX10_worthOf_30 (v := 1) rfl ?_
  refine a_iadd (pc := 31) hC dX10_worthOf_31 ?_
  refine a_iald (pc := 32) hC (oM_1 hX) h.1 dX10_worthOf_32 ?_
  replace h := h.2
  refine a_isub (pc := 33) hC dX10_worthOf_33 ?_
  refine a_mmax (pc := 34) hC hR ⟨(Nat.le_of_ble_eq_true rfl), (Nat.le_of_ble_eq_true rfl), (Nat.le_of_ble_eq_true rfl)⟩ rfl tw_1727 tw_368 tw_24 tw_369 (Nat.le_of_ble_eq_true rfl) dX10_worthOf_34 ?_
  exact a_iret (pc := 37) hC hE h (Nat.le_of_ble_eq_true rfl) (Nat.le_of_ble_eq_true rfl) dX10_worthOf_37
set_option maxRecDepth 20000 in
theorem tJX10_opens_38 {f : aF} {g : aG} (hX : isM g) (P : Int32 → aS → Prop) (hR : f_R f = aR 1 0 0) (hC : aOK f g cX10_opens 2 RX10) (hE : aEi f g .int P (fun _ _ => False) 0 0) (j1 : Int32) (s0 : Int32) (q : aS) (h : JX10_opens_38 j1 s0 P q) : AW f g 38 [some (.ref (gAd g 0)), some (.int j1)] [.int s0, .ref (gAd g 0)] q 0 0 := by
  unfold JX10_opens_38 at h
  refine a_iconst (pc := 38) hC dX10_opens_38 (v := 1) rfl ?_
  refine a_bipush (pc := 39) hC dX10_opens_39 (v := 6) rfl ?_
  refine a_callVv (pc := 41) hC hR vm_X10_hinders tw_1616 cl_X10 (oM_0 hX) ⟨(Nat.le_of_ble_eq_true rfl), (Nat.le_of_ble_eq_true rfl), (Nat.le_of_ble_eq_true rfl), (Nat.le_of_ble_eq_true rfl)⟩ dX10_opens_41 (t_X10_hinders hX hC.tr _ _ _ _ _ h) rfl rfl rfl (Nat.le_of_ble_eq_true rfl) (fun q7 h => ?_)
  refine a_aload_n (pc := 44) hC dX10_opens_44 rfl ?_
  refine a_get (pc := 45) hC cl_X10 (oM_0 hX) 16 (by decide) tw_1520 rfl dX10_opens_45 ?_
  refine a_if_eq (pc := 48) (tgt := 53) hC dX10_opens_48 (by decide) (fun c => ?_) (fun c => ?_)
  · replace h := h.1 c
    refine a_aload_n (pc := 53) hC dX10_opens_53 rfl ?_
    refine a_get (pc := 54) hC cl_X10 (oM_0 hX) 0 (by decide) tw_1504 rfl dX10_opens_54 ?_
    refine a_aload_n (pc := 57) hC dX10_opens_57 rfl ?_
    refine a_get (pc := 58) hC cl_X10 (oM_0 hX) 0 (by decide) tw_1504 rfl dX10_opens_58 ?_
    refine a_iconst (pc := 61) hC dX10_opens_61 (v := 0) rfl ?_
    refine a_iald (pc := 62) hC (oM_1 hX) h.1 dX10_opens_62 ?_
    replace h := h.2
    refine a_callS (pc := 63) hC hR sm_X10_roomAt tw_1620 ⟨(Nat.le_of_ble_eq_true rfl), (Nat.le_of_ble_eq_true rfl), (Nat.le_of_ble_eq_true rfl), (Nat.le_of_ble_eq_true rfl)⟩ dX10_opens_63 (t_X10_roomAt hX hC.tr _ _ _ h) rfl rfl rfl (Nat.le_of_ble_eq_true rfl) (fun r8 q9 h => ?_)
    refine a_iconst (pc := 66) hC dX10_opens_66 (v := 0) rfl ?_
    refine a_iadd (pc := 67) hC dX10_opens_67 ?_
    refine a_iload_n (pc := 68) hC dX10_opens_68 rfl ?_
    refine a_iast (pc := 69) hC (oM_1 hX) h.1 dX10_opens_69 ?_
    replace h := h.2
    replace h := h _ rfl
    refine a_aload_n (pc := 70) hC dX10_opens_70 rfl ?_
    refine a_get (pc := 71) hC cl_X10 (oM_0 hX) 0 (by decide) tw_1504 rfl dX10_opens_71 ?_
    refine a_iconst (pc := 74) hC dX10_opens_74 (v := 0) rfl ?_
    refine a_dup2 (pc := 75) hC dX10_opens_75 rfl rfl ?_
    refine a_iald (pc := 76) hC (oM_1 hX) h.1 dX10_opens_76 ?_
    replace h := h.2
    refine a_iconst (pc := 77) hC dX10_opens_77 (v := 1) rfl ?_
    refine a_iadd (pc := 78) hC dX10_opens_78 ?_
    refine a_iast (pc := 79) hC (oM_1 hX) h.1 dX10_opens_79 ?_
    replace h := h.2
    replace h := h _ rfl
    refine a_aload_n (pc := 80) hC dX10_opens_80 rfl ?_
    refine a_get (pc := 81) hC cl_X10 (oM_0 hX) 0 (by decide) tw_1504 rfl dX10_opens_81 ?_
    refine a_iconst (pc := 84) hC dX10_opens_84 (v := 0) rfl ?_
    refine a_iald (pc := 85) hC (oM_1 hX) h.1 dX10_opens_85 ?_
    replace h := h.2
    refine a_iconst (pc := 86) hC dX10_opens_86 (v := 1) rfl ?_
    refine a_isub (pc := 87) hC dX10_opens_87 ?_
    exact a_iret (pc := 88) hC hE h (Nat.le_of_ble_eq_true rfl) (Nat.le_of_ble_eq_true rfl) dX10_opens_88
  · replace h := h.2 c
    refine a_iconst (pc := 51) hC dX10_opens_51 (v := 0) rfl ?_
    exact a_iret (pc := 52) hC hE h (Nat.le_of_ble_eq_true rfl) (Nat.le_of_ble_eq_true rfl) dX10_opens_52
set_option maxRecDepth 20000 in
theorem tJX10_opens_16 {f : aF} {g : aG} (hX : isM g) (P : Int32 → aS → Prop) (hR : f_R f = aR 1 0 0) (hC : aOK f g cX10_opens 2 RX10) (hE : aEi f g .int P (fun _ _ => False) 0 0) (j1 : Int32) (s0 : Int32) (q : aS) (h : JX10_opens_16 j1 s0 P q) : AW f g 16 [some (.ref (gAd g 0)), some (.int j1)] [.int s0, .ref (gAd g 0)] q 0 0 := by
  unfold JX10_opens_16 at h
  refine a_iconst (pc := 16) hC dX10_opens_16 (v := 3) rfl ?_
  refine a_iload_n (pc := 17) hC dX10_opens_17 rfl ?_
  refine a_callVv (pc := 18) hC hR vm_X10_hinders tw_1616 cl_X10 (oM_0 hX) ⟨(Nat.le_of_ble_eq_true rfl), (Nat.le_of_ble_eq_true rfl), (Nat.le_of_ble_eq_true rfl), (Nat.le_of_ble_eq_true rfl)⟩ dX10_opens_18 (t_X10_hinders hX hC.tr _ _ _ _ _ h) rfl rfl rfl (Nat.le_of_ble_eq_true rfl) (fun q5 h => ?_)
  refine a_aload_n (pc := 21) hC dX10_opens_21 rfl ?_
  refine a_aload_n (pc := 22) hC dX10_opens_22 rfl ?_
  refine a_get (pc := 23) hC cl_X10 (oM_0 hX) 0 (by decide) tw_1504 rfl dX10_opens_23 ?_
  refine a_iconst (pc := 26) hC dX10_opens_26 (v := 0) rfl ?_
  refine a_iald (pc := 27) hC (oM_1 hX) h.1 dX10_opens_27 ?_
  replace h := h.2
  refine a_bipush (pc := 28) hC dX10_opens_28 (v := 6) rfl ?_
  refine a_icmp_ne (pc := 30) (tgt := 37) hC dX10_opens_30 (by decide) (fun c => ?_) (fun c => ?_)
  · replace h := h.1 c
    refine a_iconst (pc := 37) hC dX10_opens_37 (v := 0) rfl ?_
    exact (tJX10_opens_38 hX P hR hC hE _ _ _ h).forget ⟨rfl, rfl, trivial⟩
  · replace h := h.2 c
    refine a_iconst (pc := 33) hC dX10_opens_33 (v := 1) rfl ?_
    refine a_goto (pc := 34) (tgt := 38) hC dX10_opens_34 (by decide) ?_
    exact (tJX10_opens_38 hX P hR hC hE _ _ _ h).forget ⟨rfl, rfl, trivial⟩
set_option maxRecDepth 20000 in
theorem t_X10_opens {l : Launch} {g : aG} (hX : isM g) (hl : l.stackTraces = false) (x1 : Int32) (q : aS) (P : Int32 → aS → Prop) (h : w_X10_opens x1 q P) : aMi l g yX10_opens (aWs yX10_opens cX10_opens 2 (some .int)) 1 0 0 [.ref (gAd g 0), .int x1] q P (fun _ _ => False) := by
  refine aMi_of RX10 ⟨by decide +kernel, rfl⟩ (cat_all rfl) (Nat.le_of_ble_eq_true rfl) hl hX.cl (fun f hR hC hE => ?_)
  show AW f g 0 [some (.ref (gAd g 0)), some (.int x1)] [] q 0 0
  unfold w_X10_opens at h
  refine a_aload_n (pc := 0) hC dX10_opens_0 rfl ?_
  refine a_iload_n (pc := 1) hC dX10_opens_1 rfl ?_
  refine a_iconst (pc := 2) hC dX10_opens_2 (v := 1) rfl ?_
  refine a_bipush (pc := 3) hC dX10_opens_3 (v := 9) rfl ?_
  refine a_callS (pc := 5) hC hR sm_X10_isIn tw_1582 ⟨(Nat.le_of_ble_eq_true rfl), (Nat.le_of_ble_eq_true rfl), (Nat.le_of_ble_eq_true rfl), (Nat.le_of_ble_eq_true rfl)⟩ dX10_opens_5 (t_X10_isIn hX hC.tr _ _ _ _ _ h) rfl rfl rfl (Nat.le_of_ble_eq_true rfl) (fun r2 q3 h => ?_)
  have z_r2 := h.1
  replace h := h.2
  refine a_if_ne (pc := 8) (tgt := 15) hC dX10_opens_8 (by decide) (fun c => ?_) (fun c => ?_)
  · replace h := h.1 c
    refine a_iconst (pc := 15) hC dX10_opens_15 (v := 0) rfl ?_
    exact (tJX10_opens_16 hX P hR hC hE _ _ _ h).forget ⟨rfl, rfl, trivial⟩
  · replace h := h.2 c
    refine a_iconst (pc := 11) hC dX10_opens_11 (v := 1) rfl ?_
    refine a_goto (pc := 12) (tgt := 16) hC dX10_opens_12 (by decide) ?_
    exact (tJX10_opens_16 hX P hR hC hE _ _ _ h).forget ⟨rfl, rfl, trivial⟩
set_option maxRecDepth 20000 in
theorem t_X10_room {l : Launch} {g : aG} (hX : isM g) (hl : l.stackTraces = false) (x1 : Int32) (q : aS) (P : Int32 → aS → Prop) (h : w_X10_room x1 q P) : aMi l g yX10_room (aWs yX10_room cX10_room 2 (some .int)) 3 0 0 [.ref (gAd g 0), .int x1] q P (fun _ _ => False) := by
  refine aMi_of RX10 ⟨by decide +kernel, rfl⟩ (cat_all rfl) (Nat.le_of_ble_eq_true rfl) hl hX.cl (fun f hR hC hE => ?_)
  show AW f g 0 [some (.ref (gAd g 0)), some (.int x1)] [] q 0 0
  unfold w_X10_room at h
  refine a_aload_n (pc := 0) hC dX10_room_0 rfl ?_
  refine a_callVv (pc := 1) hC hR vm_X10_begins tw_1608 cl_X10 (oM_0 hX) ⟨(Nat.le_of_ble_eq_true rfl), (Nat.le_of_ble_eq_true rfl), (Nat.le_of_ble_eq_true rfl), (Nat.le_of_ble_eq_true rfl)⟩ dX10_room_1 (t_X10_begins hX hC.tr _ _ h) rfl rfl rfl (Nat.le_of_ble_eq_true rfl) (fun q3 h => ?_)
  refine a_aload_n (pc := 4) hC dX10_room_4 rfl ?_
  refine a_aload_n (pc := 5) hC dX10_room_5 rfl ?_
  refine a_iload_n (pc := 6) hC dX10_room_6 rfl ?_
  refine a_callV (pc := 7) hC hR vm_X10_opens tw_1612 cl_X10 (oM_0 hX) ⟨(Nat.le_of_ble_eq_true rfl), (Nat.le_of_ble_eq_true rfl), (Nat.le_of_ble_eq_true rfl), (Nat.le_of_ble_eq_true rfl)⟩ dX10_room_7 (t_X10_opens hX hC.tr _ _ _ h) rfl rfl rfl (Nat.le_of_ble_eq_true rfl) (fun r4 q5 h => ?_)
  refine a_callV (pc := 10) hC hR vm_X10_ends tw_1623 cl_X10 (oM_0 hX) ⟨(Nat.le_of_ble_eq_true rfl), (Nat.le_of_ble_eq_true rfl), (Nat.le_of_ble_eq_true rfl), (Nat.le_of_ble_eq_true rfl)⟩ dX10_room_10 (t_X10_ends hX hC.tr _ _ _ h) rfl rfl rfl (Nat.le_of_ble_eq_true rfl) (fun r6 q7 h => ?_)
  exact a_iret (pc := 13) hC hE h (Nat.le_of_ble_eq_true rfl) (Nat.le_of_ble_eq_true rfl) dX10_room_13
set_option maxRecDepth 20000 in
theorem tJX10_sounds_57 {f : aF} {g : aG} (hX : isM g) (P : Int32 → aS → Prop) (hR : f_R f = aR 2 0 0) (hC : aOK f g cX10_sounds 4 RX10) (hE : aEi f g .int P (fun _ _ => False) 0 0) (j1 : Int32) (j2 : Int32) (s0 : Int32) (q : aS) (h : JX10_sounds_57 j1 j2 s0 P q) : AW f g 57 [some (.ref (gAd g 0)), some (.int j1), some (.int j2), none] [.int s0, .ref (gAd g 0)] q 0 0 := by
  unfold JX10_sounds_57 at h
  refine a_iconst (pc := 57) hC dX10_sounds_57 (v := 1) rfl ?_
  refine a_bipush (pc := 58) hC dX10_sounds_58 (v := 8) rfl ?_
  refine a_callVv (pc := 60) hC hR vm_X10_hinders tw_1616 cl_X10 (oM_0 hX) ⟨(Nat.le_of_ble_eq_true rfl), (Nat.le_of_ble_eq_true rfl), (Nat.le_of_ble_eq_true rfl), (Nat.le_of_ble_eq_true rfl)⟩ dX10_sounds_60 (t_X10_hinders hX hC.tr _ _ _ _ _ h) rfl rfl rfl (Nat.le_of_ble_eq_true rfl) (fun q12 h => ?_)
  refine a_aload_n (pc := 63) hC dX10_sounds_63 rfl ?_
  refine a_get (pc := 64) hC cl_X10 (oM_0 hX) 16 (by decide) tw_1520 rfl dX10_sounds_64 ?_
  refine a_if_eq (pc := 67) (tgt := 72) hC dX10_sounds_67 (by decide) (fun c => ?_) (fun c => ?_)
  · replace h := h.1 c
    refine a_aload_n (pc := 72) hC dX10_sounds_72 rfl ?_
    refine a_get (pc := 73) hC cl_X10 (oM_0 hX) 0 (by decide) tw_1504 rfl dX10_sounds_73 ?_
    refine a_iconst (pc := 76) hC dX10_sounds_76 (v := 1) rfl ?_
    refine a_iald (pc := 77) hC (oM_1 hX) h.1 dX10_sounds_77 ?_
    replace h := h.2
    refine a_callS (pc := 78) hC hR sm_X10_echoAt tw_1647 ⟨(Nat.le_of_ble_eq_true rfl), (Nat.le_of_ble_eq_true rfl), (Nat.le_of_ble_eq_true rfl), (Nat.le_of_ble_eq_true rfl)⟩ dX10_sounds_78 (t_X10_echoAt hX hC.tr _ _ _ h) rfl rfl rfl (Nat.le_of_ble_eq_true rfl) (fun r13 q14 h => ?_)
    refine a_istore_n (pc := 81) hC dX10_sounds_81 (Nat.le_of_ble_eq_true rfl) ?_
    refine a_aload_n (pc := 82) hC dX10_sounds_82 rfl ?_
    refine a_get (pc := 83) hC cl_X10 (oM_0 hX) 0 (by decide) tw_1504 rfl dX10_sounds_83 ?_
    refine a_iload_n (pc := 86) hC dX10_sounds_86 rfl ?_
    refine a_iconst (pc := 87) hC dX10_sounds_87 (v := 0) rfl ?_
    refine a_iadd (pc := 88) hC dX10_sounds_88 ?_
    refine a_iload_n (pc := 89) hC dX10_sounds_89 rfl ?_
    refine a_iast (pc := 90) hC (oM_1 hX) h.1 dX10_sounds_90 ?_
    replace h := h.2
    replace h := h _ rfl
    refine a_aload_n (pc := 91) hC dX10_sounds_91 rfl ?_
    refine a_get (pc := 92) hC cl_X10 (oM_0 hX) 0 (by decide) tw_1504 rfl dX10_sounds_92 ?_
    refine a_iload_n (pc := 95) hC dX10_sounds_95 rfl ?_
    refine a_iconst (pc := 96) hC dX10_sounds_96 (v := 1) rfl ?_
    refine a_iadd (pc := 97) hC dX10_sounds_97 ?_
    refine a_iload_n (pc := 98) hC dX10_sounds_98 rfl ?_
    refine a_iast (pc := 99) hC (oM_1 hX) h.1 dX10_sounds_99 ?_
    replace h := h.2
    replace h := h _ rfl
    refine a_aload_n (pc := 100) hC dX10_sounds_100 rfl ?_
    refine a_get (pc := 101) hC cl_X10 (oM_0 hX) 0 (by decide) tw_1504 rfl dX10_sounds_101 ?_
    refine a_iload_n (pc := 104) hC dX10_sounds_104 rfl ?_
    refine a_iconst (pc := 105) hC dX10_sounds_105 (v := 2) rfl ?_
    refine a_iadd (pc := 106) hC dX10_sounds_106 ?_
    refine a_iconst (pc := 107) hC dX10_sounds_107 (v := (-1)) rfl ?_
    refine a_iast (pc := 108) hC (oM_1 hX) h.1 dX10_sounds_108 ?_
    replace h := h.2
    replace h := h _ rfl
    refine a_aload_n (pc := 109) hC dX10_sounds_109 rfl ?_
    refine a_get (pc := 110) hC cl_X10 (oM_0 hX) 0 (by decide) tw_1504 rfl dX10_sounds_110 ?_
    refine a_iconst (pc := 113) hC dX10_sounds_113 (v := 1) rfl ?_
    refine a_dup2 (pc := 114) hC dX10_sounds_114 rfl rfl ?_
    refine a_iald (pc := 115) hC (oM_1 hX) h.1 dX10_sounds_115 ?_
    replace h := h.2
    refine a_iconst (pc := 116) hC dX10_sounds_116 (v := 1) rfl ?_
    refine a_iadd (pc := 117) hC dX10_sounds_117 ?_
    refine a_iast (pc := 118) hC (oM_1 hX) h.1 dX10_sounds_118 ?_
    replace h := h.2
    replace h := h _ rfl
    refine a_aload_n (pc := 119) hC dX10_sounds_119 rfl ?_
    refine a_get (pc := 120) hC cl_X10 (oM_0 hX) 0 (by decide) tw_1504 rfl dX10_sounds_120 ?_
    refine a_iconst (pc := 123) hC dX10_sounds_123 (v := 1) rfl ?_
    refine a_iald (pc := 124) hC (oM_1 hX) h.1 dX10_sounds_124 ?_
    replace h := h.2
    refine a_iconst (pc := 125) hC dX10_sounds_125 (v := 1) rfl ?_
    refine a_isub (pc := 126) hC dX10_sounds_126 ?_
    exact a_iret (pc := 127) hC hE h (Nat.le_of_ble_eq_true rfl) (Nat.le_of_ble_eq_true rfl) dX10_sounds_127
  · replace h := h.2 c
    refine a_iconst (pc := 70) hC dX10_sounds_70 (v := 0) rfl ?_
    exact a_iret (pc := 71) hC hE h (Nat.le_of_ble_eq_true rfl) (Nat.le_of_ble_eq_true rfl) dX10_sounds_71
set_option maxRecDepth 20000 in
theorem tJX10_sounds_35 {f : aF} {g : aG} (hX : isM g) (P : Int32 → aS → Prop) (hR : f_R f = aR 2 0 0) (hC : aOK f g cX10_sounds 4 RX10) (hE : aEi f g .int P (fun _ _ => False) 0 0) (j1 : Int32) (j2 : Int32) (s0 : Int32) (q : aS) (h : JX10_sounds_35 j1 j2 s0 P q) : AW f g 35 [some (.ref (gAd g 0)), some (.int j1), some (.int j2), none] [.int s0, .ref (gAd g 0)] q 0 0 := by
  unfold JX10_sounds_35 at h
  refine a_iconst (pc := 35) hC dX10_sounds_35 (v := 3) rfl ?_
  refine a_iload_n (pc := 36) hC dX10_sounds_36 rfl ?_
  refine a_callVv (pc := 37) hC hR vm_X10_hinders tw_1616 cl_X10 (oM_0 hX) ⟨(Nat.le_of_ble_eq_true rfl), (Nat.le_of_ble_eq_true rfl), (Nat.le_of_ble_eq_true rfl), (Nat.le_of_ble_eq_true rfl)⟩ dX10_sounds_37 (t_X10_hinders hX hC.tr _ _ _ _ _ h) rfl rfl rfl (Nat.le_of_ble_eq_true rfl) (fun q10 h => ?_)
  refine a_aload_n (pc := 40) hC dX10_sounds_40 rfl ?_
  refine a_aload_n (pc := 41) hC dX10_sounds_41 rfl ?_
  refine a_get (pc := 42) hC cl_X10 (oM_0 hX) 0 (by decide) tw_1504 rfl dX10_sounds_42 ?_
  refine a_iconst (pc := 45) hC dX10_sounds_45 (v := 1) rfl ?_
  refine a_iald (pc := 46) hC (oM_1 hX) h.1 dX10_sounds_46 ?_
  replace h := h.2
  refine a_bipush (pc := 47) hC dX10_sounds_47 (v := 8) rfl ?_
  refine a_icmp_ne (pc := 49) (tgt := 56) hC dX10_sounds_49 (by decide) (fun c => ?_) (fun c => ?_)
  · replace h := h.1 c
    refine a_iconst (pc := 56) hC dX10_sounds_56 (v := 0) rfl ?_
    exact (tJX10_sounds_57 hX P hR hC hE _ _ _ _ h).forget ⟨rfl, rfl, rfl, trivial⟩
  · replace h := h.2 c
    refine a_iconst (pc := 52) hC dX10_sounds_52 (v := 1) rfl ?_
    refine a_goto (pc := 53) (tgt := 57) hC dX10_sounds_53 (by decide) ?_
    exact (tJX10_sounds_57 hX P hR hC hE _ _ _ _ h).forget ⟨rfl, rfl, rfl, trivial⟩
set_option maxRecDepth 20000 in
theorem tJX10_sounds_14 {f : aF} {g : aG} (hX : isM g) (P : Int32 → aS → Prop) (hR : f_R f = aR 2 0 0) (hC : aOK f g cX10_sounds 4 RX10) (hE : aEi f g .int P (fun _ _ => False) 0 0) (j1 : Int32) (j2 : Int32) (s0 : Int32) (q : aS) (h : JX10_sounds_14 j1 j2 s0 P q) : AW f g 14 [some (.ref (gAd g 0)), some (.int j1), some (.int j2), none] [.int s0, .ref (gAd g 0)] q 0 0 := by
  unfold JX10_sounds_14 at h
  refine a_iconst (pc := 14) hC dX10_sounds_14 (v := 2) rfl ?_
  refine a_iload_n (pc := 15) hC dX10_sounds_15 rfl ?_
  refine a_callVv (pc := 16) hC hR vm_X10_hinders tw_1616 cl_X10 (oM_0 hX) ⟨(Nat.le_of_ble_eq_true rfl), (Nat.le_of_ble_eq_true rfl), (Nat.le_of_ble_eq_true rfl), (Nat.le_of_ble_eq_true rfl)⟩ dX10_sounds_16 (t_X10_hinders hX hC.tr _ _ _ _ _ h) rfl rfl rfl (Nat.le_of_ble_eq_true rfl) (fun q6 h => ?_)
  refine a_aload_n (pc := 19) hC dX10_sounds_19 rfl ?_
  refine a_iload_n (pc := 20) hC dX10_sounds_20 rfl ?_
  refine a_iconst (pc := 21) hC dX10_sounds_21 (v := 1) rfl ?_
  refine a_bipush (pc := 22) hC dX10_sounds_22 (v := 9) rfl ?_
  refine a_callS (pc := 24) hC hR sm_X10_isIn tw_1582 ⟨(Nat.le_of_ble_eq_true rfl), (Nat.le_of_ble_eq_true rfl), (Nat.le_of_ble_eq_true rfl), (Nat.le_of_ble_eq_true rfl)⟩ dX10_sounds_24 (t_X10_isIn hX hC.tr _ _ _ _ _ h) rfl rfl rfl (Nat.le_of_ble_eq_true rfl) (fun r7 q8 h => ?_)
  have z_r7 := h.1
  replace h := h.2
  refine a_if_ne (pc := 27) (tgt := 34) hC dX10_sounds_27 (by decide) (fun c => ?_) (fun c => ?_)
  · replace h := h.1 c
    refine a_iconst (pc := 34) hC dX10_sounds_34 (v := 0) rfl ?_
    exact (tJX10_sounds_35 hX P hR hC hE _ _ _ _ h).forget ⟨rfl, rfl, rfl, trivial⟩
  · replace h := h.2 c
    refine a_iconst (pc := 30) hC dX10_sounds_30 (v := 1) rfl ?_
    refine a_goto (pc := 31) (tgt := 35) hC dX10_sounds_31 (by decide) ?_
    exact (tJX10_sounds_35 hX P hR hC hE _ _ _ _ h).forget ⟨rfl, rfl, rfl, trivial⟩
set_option maxRecDepth 20000 in
theorem t_X10_sounds {l : Launch} {g : aG} (hX : isM g) (hl : l.stackTraces = false) (x1 : Int32) (x2 : Int32) (q : aS) (P : Int32 → aS → Prop) (h : w_X10_sounds x1 x2 q P) : aMi l g yX10_sounds (aWs yX10_sounds cX10_sounds 4 (some .int)) 2 0 0 [.ref (gAd g 0), .int x1, .int x2] q P (fun _ _ => False) := by
  refine aMi_of RX10 ⟨by decide +kernel, rfl⟩ (cat_all rfl) (Nat.le_of_ble_eq_true rfl) hl hX.cl (fun f hR hC hE => ?_)
  show AW f g 0 [some (.ref (gAd g 0)), some (.int x1), some (.int x2), none] [] q 0 0
  unfold w_X10_sounds at h
  refine a_aload_n (pc := 0) hC dX10_sounds_0 rfl ?_
  refine a_aload_n (pc := 1) hC dX10_sounds_1 rfl ?_
  refine a_iload_n (pc := 2) hC dX10_sounds_2 rfl ?_
  refine a_callV (pc := 3) hC hR vm_X10_isRoom tw_1643 cl_X10 (oM_0 hX) ⟨(Nat.le_of_ble_eq_true rfl), (Nat.le_of_ble_eq_true rfl), (Nat.le_of_ble_eq_true rfl), (Nat.le_of_ble_eq_true rfl)⟩ dX10_sounds_3 (t_X10_isRoom hX hC.tr _ _ _ h) rfl rfl rfl (Nat.le_of_ble_eq_true rfl) (fun r3 q4 h => ?_)
  have z_r3 := h.1
  replace h := h.2
  refine a_if_ne (pc := 6) (tgt := 13) hC dX10_sounds_6 (by decide) (fun c => ?_) (fun c => ?_)
  · replace h := h.1 c
    refine a_iconst (pc := 13) hC dX10_sounds_13 (v := 0) rfl ?_
    exact (tJX10_sounds_14 hX P hR hC hE _ _ _ _ h).forget ⟨rfl, rfl, rfl, trivial⟩
  · replace h := h.2 c
    refine a_iconst (pc := 9) hC dX10_sounds_9 (v := 1) rfl ?_
    refine a_goto (pc := 10) (tgt := 14) hC dX10_sounds_10 (by decide) ?_
    exact (tJX10_sounds_14 hX P hR hC hE _ _ _ _ h).forget ⟨rfl, rfl, rfl, trivial⟩
set_option maxRecDepth 20000 in
theorem t_X10_echo {l : Launch} {g : aG} (hX : isM g) (hl : l.stackTraces = false) (x1 : Int32) (x2 : Int32) (q : aS) (P : Int32 → aS → Prop) (h : w_X10_echo x1 x2 q P) : aMi l g yX10_echo (aWs yX10_echo cX10_echo 3 (some .int)) 3 0 0 [.ref (gAd g 0), .int x1, .int x2] q P (fun _ _ => False) := by
  refine aMi_of RX10 ⟨by decide +kernel, rfl⟩ (cat_all rfl) (Nat.le_of_ble_eq_true rfl) hl hX.cl (fun f hR hC hE => ?_)
  show AW f g 0 [some (.ref (gAd g 0)), some (.int x1), some (.int x2)] [] q 0 0
  unfold w_X10_echo at h
  refine a_aload_n (pc := 0) hC dX10_echo_0 rfl ?_
  refine a_callVv (pc := 1) hC hR vm_X10_begins tw_1608 cl_X10 (oM_0 hX) ⟨(Nat.le_of_ble_eq_true rfl), (Nat.le_of_ble_eq_true rfl), (Nat.le_of_ble_eq_true rfl), (Nat.le_of_ble_eq_true rfl)⟩ dX10_echo_1 (t_X10_begins hX hC.tr _ _ h) rfl rfl rfl (Nat.le_of_ble_eq_true rfl) (fun q4 h => ?_)
  refine a_aload_n (pc := 4) hC dX10_echo_4 rfl ?_
  refine a_aload_n (pc := 5) hC dX10_echo_5 rfl ?_
  refine a_iload_n (pc := 6) hC dX10_echo_6 rfl ?_
  refine a_iload_n (pc := 7) hC dX10_echo_7 rfl ?_
  refine a_callV (pc := 8) hC hR vm_X10_sounds tw_1639 cl_X10 (oM_0 hX) ⟨(Nat.le_of_ble_eq_true rfl), (Nat.le_of_ble_eq_true rfl), (Nat.le_of_ble_eq_true rfl), (Nat.le_of_ble_eq_true rfl)⟩ dX10_echo_8 (t_X10_sounds hX hC.tr _ _ _ _ h) rfl rfl rfl (Nat.le_of_ble_eq_true rfl) (fun r5 q6 h => ?_)
  refine a_callV (pc := 11) hC hR vm_X10_ends tw_1623 cl_X10 (oM_0 hX) ⟨(Nat.le_of_ble_eq_true rfl), (Nat.le_of_ble_eq_true rfl), (Nat.le_of_ble_eq_true rfl), (Nat.le_of_ble_eq_true rfl)⟩ dX10_echo_11 (t_X10_ends hX hC.tr _ _ _ h) rfl rfl rfl (Nat.le_of_ble_eq_true rfl) (fun r7 q8 h => ?_)
  exact a_iret (pc := 14) hC hE h (Nat.le_of_ble_eq_true rfl) (Nat.le_of_ble_eq_true rfl) dX10_echo_14
set_option maxRecDepth 20000 in
theorem tJX10_arrives_59 {f : aF} {g : aG} (hX : isM g) (P : Int32 → aS → Prop) (hR : f_R f = aR 1 0 0) (hC : aOK f g cX10_arrives 4 RX10) (hE : aEi f g .int P (fun _ _ => False) 0 0) (j1 : Int32) (j2 : Int32) (s0 : Int32) (q : aS) (h : JX10_arrives_59 j1 j2 s0 P q) : AW f g 59 [some (.ref (gAd g 0)), some (.int j1), some (.int j2), none] [.int s0, .ref (gAd g 0)] q 0 0 := by
  unfold JX10_arrives_59 at h
  refine a_iconst (pc := 59) hC dX10_arrives_59 (v := 1) rfl ?_
  refine a_bipush (pc := 60) hC dX10_arrives_60 (v := 6) rfl ?_
  refine a_callVv (pc := 62) hC hR vm_X10_hinders tw_1616 cl_X10 (oM_0 hX) ⟨(Nat.le_of_ble_eq_true rfl), (Nat.le_of_ble_eq_true rfl), (Nat.le_of_ble_eq_true rfl), (Nat.le_of_ble_eq_true rfl)⟩ dX10_arrives_62 (t_X10_hinders hX hC.tr _ _ _ _ _ h) rfl rfl rfl (Nat.le_of_ble_eq_true rfl) (fun q12 h => ?_)
  refine a_aload_n (pc := 65) hC dX10_arrives_65 rfl ?_
  refine a_get (pc := 66) hC cl_X10 (oM_0 hX) 16 (by decide) tw_1520 rfl dX10_arrives_66 ?_
  refine a_if_eq (pc := 69) (tgt := 74) hC dX10_arrives_69 (by decide) (fun c => ?_) (fun c => ?_)
  · replace h := h.1 c
    refine a_aload_n (pc := 74) hC dX10_arrives_74 rfl ?_
    refine a_get (pc := 75) hC cl_X10 (oM_0 hX) 0 (by decide) tw_1504 rfl dX10_arrives_75 ?_
    refine a_iconst (pc := 78) hC dX10_arrives_78 (v := 2) rfl ?_
    refine a_iald (pc := 79) hC (oM_1 hX) h.1 dX10_arrives_79 ?_
    replace h := h.2
    refine a_callS (pc := 80) hC hR sm_X10_singerAt tw_1658 ⟨(Nat.le_of_ble_eq_true rfl), (Nat.le_of_ble_eq_true rfl), (Nat.le_of_ble_eq_true rfl), (Nat.le_of_ble_eq_true rfl)⟩ dX10_arrives_80 (t_X10_singerAt hX hC.tr _ _ _ h) rfl rfl rfl (Nat.le_of_ble_eq_true rfl) (fun r13 q14 h => ?_)
    refine a_istore_n (pc := 83) hC dX10_arrives_83 (Nat.le_of_ble_eq_true rfl) ?_
    refine a_aload_n (pc := 84) hC dX10_arrives_84 rfl ?_
    refine a_get (pc := 85) hC cl_X10 (oM_0 hX) 0 (by decide) tw_1504 rfl dX10_arrives_85 ?_
    refine a_iload_n (pc := 88) hC dX10_arrives_88 rfl ?_
    refine a_iconst (pc := 89) hC dX10_arrives_89 (v := 0) rfl ?_
    refine a_iadd (pc := 90) hC dX10_arrives_90 ?_
    refine a_iload_n (pc := 91) hC dX10_arrives_91 rfl ?_
    refine a_iast (pc := 92) hC (oM_1 hX) h.1 dX10_arrives_92 ?_
    replace h := h.2
    replace h := h _ rfl
    refine a_aload_n (pc := 93) hC dX10_arrives_93 rfl ?_
    refine a_get (pc := 94) hC cl_X10 (oM_0 hX) 0 (by decide) tw_1504 rfl dX10_arrives_94 ?_
    refine a_iload_n (pc := 97) hC dX10_arrives_97 rfl ?_
    refine a_iconst (pc := 98) hC dX10_arrives_98 (v := 1) rfl ?_
    refine a_iadd (pc := 99) hC dX10_arrives_99 ?_
    refine a_iload_n (pc := 100) hC dX10_arrives_100 rfl ?_
    refine a_iast (pc := 101) hC (oM_1 hX) h.1 dX10_arrives_101 ?_
    replace h := h.2
    replace h := h _ rfl
    refine a_aload_n (pc := 102) hC dX10_arrives_102 rfl ?_
    refine a_get (pc := 103) hC cl_X10 (oM_0 hX) 0 (by decide) tw_1504 rfl dX10_arrives_103 ?_
    refine a_iload_n (pc := 106) hC dX10_arrives_106 rfl ?_
    refine a_iconst (pc := 107) hC dX10_arrives_107 (v := 2) rfl ?_
    refine a_iadd (pc := 108) hC dX10_arrives_108 ?_
    refine a_iconst (pc := 109) hC dX10_arrives_109 (v := (-1)) rfl ?_
    refine a_iast (pc := 110) hC (oM_1 hX) h.1 dX10_arrives_110 ?_
    replace h := h.2
    replace h := h _ rfl
    refine a_aload_n (pc := 111) hC dX10_arrives_111 rfl ?_
    refine a_get (pc := 112) hC cl_X10 (oM_0 hX) 0 (by decide) tw_1504 rfl dX10_arrives_112 ?_
    refine a_iconst (pc := 115) hC dX10_arrives_115 (v := 2) rfl ?_
    refine a_dup2 (pc := 116) hC dX10_arrives_116 rfl rfl ?_
    refine a_iald (pc := 117) hC (oM_1 hX) h.1 dX10_arrives_117 ?_
    replace h := h.2
    refine a_iconst (pc := 118) hC dX10_arrives_118 (v := 1) rfl ?_
    refine a_iadd (pc := 119) hC dX10_arrives_119 ?_
    refine a_iast (pc := 120) hC (oM_1 hX) h.1 dX10_arrives_120 ?_
    replace h := h.2
    replace h := h _ rfl
    refine a_aload_n (pc := 121) hC dX10_arrives_121 rfl ?_
    refine a_get (pc := 122) hC cl_X10 (oM_0 hX) 0 (by decide) tw_1504 rfl dX10_arrives_122 ?_
    refine a_iconst (pc := 125) hC dX10_arrives_125 (v := 2) rfl ?_
    refine a_iald (pc := 126) hC (oM_1 hX) h.1 dX10_arrives_126 ?_
    replace h := h.2
    refine a_iconst (pc := 127) hC dX10_arrives_127 (v := 1) rfl ?_
    refine a_isub (pc := 128) hC dX10_arrives_128 ?_
    exact a_iret (pc := 129) hC hE h (Nat.le_of_ble_eq_true rfl) (Nat.le_of_ble_eq_true rfl) dX10_arrives_129
  · replace h := h.2 c
    refine a_iconst (pc := 72) hC dX10_arrives_72 (v := 0) rfl ?_
    exact a_iret (pc := 73) hC hE h (Nat.le_of_ble_eq_true rfl) (Nat.le_of_ble_eq_true rfl) dX10_arrives_73
set_option maxRecDepth 20000 in
theorem tJX10_arrives_37 {f : aF} {g : aG} (hX : isM g) (P : Int32 → aS → Prop) (hR : f_R f = aR 1 0 0) (hC : aOK f g cX10_arrives 4 RX10) (hE : aEi f g .int P (fun _ _ => False) 0 0) (j1 : Int32) (j2 : Int32) (s0 : Int32) (q : aS) (h : JX10_arrives_37 j1 j2 s0 P q) : AW f g 37 [some (.ref (gAd g 0)), some (.int j1), some (.int j2), none] [.int s0, .ref (gAd g 0)] q 0 0 := by
  unfold JX10_arrives_37 at h
  refine a_iconst (pc := 37) hC dX10_arrives_37 (v := 3) rfl ?_
  refine a_iload_n (pc := 38) hC dX10_arrives_38 rfl ?_
  refine a_callVv (pc := 39) hC hR vm_X10_hinders tw_1616 cl_X10 (oM_0 hX) ⟨(Nat.le_of_ble_eq_true rfl), (Nat.le_of_ble_eq_true rfl), (Nat.le_of_ble_eq_true rfl), (Nat.le_of_ble_eq_true rfl)⟩ dX10_arrives_39 (t_X10_hinders hX hC.tr _ _ _ _ _ h) rfl rfl rfl (Nat.le_of_ble_eq_true rfl) (fun q10 h => ?_)
  refine a_aload_n (pc := 42) hC dX10_arrives_42 rfl ?_
  refine a_aload_n (pc := 43) hC dX10_arrives_43 rfl ?_
  refine a_get (pc := 44) hC cl_X10 (oM_0 hX) 0 (by decide) tw_1504 rfl dX10_arrives_44 ?_
  refine a_iconst (pc := 47) hC dX10_arrives_47 (v := 2) rfl ?_
  refine a_iald (pc := 48) hC (oM_1 hX) h.1 dX10_arrives_48 ?_
  replace h := h.2
  refine a_bipush (pc := 49) hC dX10_arrives_49 (v := 6) rfl ?_
  refine a_icmp_ne (pc := 51) (tgt := 58) hC dX10_arrives_51 (by decide) (fun c => ?_) (fun c => ?_)
  · replace h := h.1 c
    refine a_iconst (pc := 58) hC dX10_arrives_58 (v := 0) rfl ?_
    exact (tJX10_arrives_59 hX P hR hC hE _ _ _ _ h).forget ⟨rfl, rfl, rfl, trivial⟩
  · replace h := h.2 c
    refine a_iconst (pc := 54) hC dX10_arrives_54 (v := 1) rfl ?_
    refine a_goto (pc := 55) (tgt := 59) hC dX10_arrives_55 (by decide) ?_
    exact (tJX10_arrives_59 hX P hR hC hE _ _ _ _ h).forget ⟨rfl, rfl, rfl, trivial⟩
set_option maxRecDepth 20000 in
theorem tJX10_arrives_16 {f : aF} {g : aG} (hX : isM g) (P : Int32 → aS → Prop) (hR : f_R f = aR 1 0 0) (hC : aOK f g cX10_arrives 4 RX10) (hE : aEi f g .int P (fun _ _ => False) 0 0) (j1 : Int32) (j2 : Int32) (s0 : Int32) (q : aS) (h : JX10_arrives_16 j1 j2 s0 P q) : AW f g 16 [some (.ref (gAd g 0)), some (.int j1), some (.int j2), none] [.int s0, .ref (gAd g 0)] q 0 0 := by
  unfold JX10_arrives_16 at h
  refine a_iconst (pc := 16) hC dX10_arrives_16 (v := 3) rfl ?_
  refine a_iload_n (pc := 17) hC dX10_arrives_17 rfl ?_
  refine a_callVv (pc := 18) hC hR vm_X10_hinders tw_1616 cl_X10 (oM_0 hX) ⟨(Nat.le_of_ble_eq_true rfl), (Nat.le_of_ble_eq_true rfl), (Nat.le_of_ble_eq_true rfl), (Nat.le_of_ble_eq_true rfl)⟩ dX10_arrives_18 (t_X10_hinders hX hC.tr _ _ _ _ _ h) rfl rfl rfl (Nat.le_of_ble_eq_true rfl) (fun q6 h => ?_)
  refine a_aload_n (pc := 21) hC dX10_arrives_21 rfl ?_
  refine a_iload_n (pc := 22) hC dX10_arrives_22 rfl ?_
  refine a_iconst (pc := 23) hC dX10_arrives_23 (v := 0) rfl ?_
  refine a_bipush (pc := 24) hC dX10_arrives_24 (v := 99) rfl ?_
  refine a_callS (pc := 26) hC hR sm_X10_isIn tw_1582 ⟨(Nat.le_of_ble_eq_true rfl), (Nat.le_of_ble_eq_true rfl), (Nat.le_of_ble_eq_true rfl), (Nat.le_of_ble_eq_true rfl)⟩ dX10_arrives_26 (t_X10_isIn hX hC.tr _ _ _ _ _ h) rfl rfl rfl (Nat.le_of_ble_eq_true rfl) (fun r7 q8 h => ?_)
  have z_r7 := h.1
  replace h := h.2
  refine a_if_ne (pc := 29) (tgt := 36) hC dX10_arrives_29 (by decide) (fun c => ?_) (fun c => ?_)
  · replace h := h.1 c
    refine a_iconst (pc := 36) hC dX10_arrives_36 (v := 0) rfl ?_
    exact (tJX10_arrives_37 hX P hR hC hE _ _ _ _ h).forget ⟨rfl, rfl, rfl, trivial⟩
  · replace h := h.2 c
    refine a_iconst (pc := 32) hC dX10_arrives_32 (v := 1) rfl ?_
    refine a_goto (pc := 33) (tgt := 37) hC dX10_arrives_33 (by decide) ?_
    exact (tJX10_arrives_37 hX P hR hC hE _ _ _ _ h).forget ⟨rfl, rfl, rfl, trivial⟩
set_option maxRecDepth 20000 in
theorem t_X10_arrives {l : Launch} {g : aG} (hX : isM g) (hl : l.stackTraces = false) (x1 : Int32) (x2 : Int32) (q : aS) (P : Int32 → aS → Prop) (h : w_X10_arrives x1 x2 q P) : aMi l g yX10_arrives (aWs yX10_arrives cX10_arrives 4 (some .int)) 1 0 0 [.ref (gAd g 0), .int x1, .int x2] q P (fun _ _ => False) := by
  refine aMi_of RX10 ⟨by decide +kernel, rfl⟩ (cat_all rfl) (Nat.le_of_ble_eq_true rfl) hl hX.cl (fun f hR hC hE => ?_)
  show AW f g 0 [some (.ref (gAd g 0)), some (.int x1), some (.int x2), none] [] q 0 0
  unfold w_X10_arrives at h
  refine a_aload_n (pc := 0) hC dX10_arrives_0 rfl ?_
  refine a_iload_n (pc := 1) hC dX10_arrives_1 rfl ?_
  refine a_iconst (pc := 2) hC dX10_arrives_2 (v := 0) rfl ?_
  refine a_bipush (pc := 3) hC dX10_arrives_3 (v := 9) rfl ?_
  refine a_callS (pc := 5) hC hR sm_X10_isIn tw_1582 ⟨(Nat.le_of_ble_eq_true rfl), (Nat.le_of_ble_eq_true rfl), (Nat.le_of_ble_eq_true rfl), (Nat.le_of_ble_eq_true rfl)⟩ dX10_arrives_5 (t_X10_isIn hX hC.tr _ _ _ _ _ h) rfl rfl rfl (Nat.le_of_ble_eq_true rfl) (fun r3 q4 h => ?_)
  have z_r3 := h.1
  replace h := h.2
  refine a_if_ne (pc := 8) (tgt := 15) hC dX10_arrives_8 (by decide) (fun c => ?_) (fun c => ?_)
  · replace h := h.1 c
    refine a_iconst (pc := 15) hC dX10_arrives_15 (v := 0) rfl ?_
    exact (tJX10_arrives_16 hX P hR hC hE _ _ _ _ h).forget ⟨rfl, rfl, rfl, trivial⟩
  · replace h := h.2 c
    refine a_iconst (pc := 11) hC dX10_arrives_11 (v := 1) rfl ?_
    refine a_goto (pc := 12) (tgt := 16) hC dX10_arrives_12 (by decide) ?_
    exact (tJX10_arrives_16 hX P hR hC hE _ _ _ _ h).forget ⟨rfl, rfl, rfl, trivial⟩
set_option maxRecDepth 20000 in
theorem t_X10_singer {l : Launch} {g : aG} (hX : isM g) (hl : l.stackTraces = false) (x1 : Int32) (x2 : Int32) (q : aS) (P : Int32 → aS → Prop) (h : w_X10_singer x1 x2 q P) : aMi l g yX10_singer (aWs yX10_singer cX10_singer 3 (some .int)) 3 0 0 [.ref (gAd g 0), .int x1, .int x2] q P (fun _ _ => False) := by
  refine aMi_of RX10 ⟨by decide +kernel, rfl⟩ (cat_all rfl) (Nat.le_of_ble_eq_true rfl) hl hX.cl (fun f hR hC hE => ?_)
  show AW f g 0 [some (.ref (gAd g 0)), some (.int x1), some (.int x2)] [] q 0 0
  unfold w_X10_singer at h
  refine a_aload_n (pc := 0) hC dX10_singer_0 rfl ?_
  refine a_callVv (pc := 1) hC hR vm_X10_begins tw_1608 cl_X10 (oM_0 hX) ⟨(Nat.le_of_ble_eq_true rfl), (Nat.le_of_ble_eq_true rfl), (Nat.le_of_ble_eq_true rfl), (Nat.le_of_ble_eq_true rfl)⟩ dX10_singer_1 (t_X10_begins hX hC.tr _ _ h) rfl rfl rfl (Nat.le_of_ble_eq_true rfl) (fun q4 h => ?_)
  refine a_aload_n (pc := 4) hC dX10_singer_4 rfl ?_
  refine a_aload_n (pc := 5) hC dX10_singer_5 rfl ?_
  refine a_iload_n (pc := 6) hC dX10_singer_6 rfl ?_
  refine a_iload_n (pc := 7) hC dX10_singer_7 rfl ?_
  refine a_callV (pc := 8) hC hR vm_X10_arrives tw_1654 cl_X10 (oM_0 hX) ⟨(Nat.le_of_ble_eq_true rfl), (Nat.le_of_ble_eq_true rfl), (Nat.le_of_ble_eq_true rfl), (Nat.le_of_ble_eq_true rfl)⟩ dX10_singer_8 (t_X10_arrives hX hC.tr _ _ _ _ h) rfl rfl rfl (Nat.le_of_ble_eq_true rfl) (fun r5 q6 h => ?_)
  refine a_callV (pc := 11) hC hR vm_X10_ends tw_1623 cl_X10 (oM_0 hX) ⟨(Nat.le_of_ble_eq_true rfl), (Nat.le_of_ble_eq_true rfl), (Nat.le_of_ble_eq_true rfl), (Nat.le_of_ble_eq_true rfl)⟩ dX10_singer_11 (t_X10_ends hX hC.tr _ _ _ h) rfl rfl rfl (Nat.le_of_ble_eq_true rfl) (fun r7 q8 h => ?_)
  exact a_iret (pc := 14) hC hE h (Nat.le_of_ble_eq_true rfl) (Nat.le_of_ble_eq_true rfl) dX10_singer_14
set_option maxRecDepth 20000 in
theorem tJX10_asksRoom_53 {f : aF} {g : aG} (hX : isM g) (P : Int32 → aS → Prop) (hR : f_R f = aR 3 0 0) (hC : aOK f g cX10_asksRoom 4 RX10) (hE : aEv f g P (fun _ _ => False) 0 0) (j1 : Int32) (j2 : Int32) (j3 : Int32) (s0 : Int32) (q : aS) (h : JX10_asksRoom_53 j1 j2 j3 s0 P q) : AW f g 53 [some (.ref (gAd g 0)), some (.int j1), some (.int j2), some (.int j3)] [.int s0, .ref (gAd g 0)] q 0 0 := by
  unfold JX10_asksRoom_53 at h
  refine a_iconst (pc := 53) hC dX10_asksRoom_53 (v := 5) rfl ?_
  refine a_aload_n (pc := 54) hC dX10_asksRoom_54 rfl ?_
  refine a_get (pc := 55) hC cl_X10 (oM_0 hX) 0 (by decide) tw_1504 rfl dX10_asksRoom_55 ?_
  refine a_iload_n (pc := 58) hC dX10_asksRoom_58 rfl ?_
  refine a_callS (pc := 59) hC hR sm_X10_roomAt tw_1620 ⟨(Nat.le_of_ble_eq_true rfl), (Nat.le_of_ble_eq_true rfl), (Nat.le_of_ble_eq_true rfl), (Nat.le_of_ble_eq_true rfl)⟩ dX10_asksRoom_59 (t_X10_roomAt hX hC.tr _ _ _ h) rfl rfl rfl (Nat.le_of_ble_eq_true rfl) (fun r11 q12 h => ?_)
  refine a_iconst (pc := 62) hC dX10_asksRoom_62 (v := 0) rfl ?_
  refine a_iadd (pc := 63) hC dX10_asksRoom_63 ?_
  refine a_iald (pc := 64) hC (oM_1 hX) h.1 dX10_asksRoom_64 ?_
  replace h := h.2
  refine a_callVv (pc := 65) hC hR vm_X10_hinders tw_1616 cl_X10 (oM_0 hX) ⟨(Nat.le_of_ble_eq_true rfl), (Nat.le_of_ble_eq_true rfl), (Nat.le_of_ble_eq_true rfl), (Nat.le_of_ble_eq_true rfl)⟩ dX10_asksRoom_65 (t_X10_hinders hX hC.tr _ _ _ _ _ h) rfl rfl rfl (Nat.le_of_ble_eq_true rfl) (fun q14 h => ?_)
  refine a_aload_n (pc := 68) hC dX10_asksRoom_68 rfl ?_
  refine a_iload_n (pc := 69) hC dX10_asksRoom_69 rfl ?_
  refine a_bipush (pc := 70) hC dX10_asksRoom_70 (v := 9) rfl ?_
  refine a_aload_n (pc := 72) hC dX10_asksRoom_72 rfl ?_
  refine a_get (pc := 73) hC cl_X10 (oM_0 hX) 0 (by decide) tw_1504 rfl dX10_asksRoom_73 ?_
  refine a_iload_n (pc := 76) hC dX10_asksRoom_76 rfl ?_
  refine a_callS (pc := 77) hC hR sm_X10_singerAt tw_1658 ⟨(Nat.le_of_ble_eq_true rfl), (Nat.le_of_ble_eq_true rfl), (Nat.le_of_ble_eq_true rfl), (Nat.le_of_ble_eq_true rfl)⟩ dX10_asksRoom_77 (t_X10_singerAt hX hC.tr _ _ _ h) rfl rfl rfl (Nat.le_of_ble_eq_true rfl) (fun r15 q16 h => ?_)
  refine a_iconst (pc := 80) hC dX10_asksRoom_80 (v := 0) rfl ?_
  refine a_iadd (pc := 81) hC dX10_asksRoom_81 ?_
  refine a_iald (pc := 82) hC (oM_1 hX) h.1 dX10_asksRoom_82 ?_
  replace h := h.2
  refine a_isub (pc := 83) hC dX10_asksRoom_83 ?_
  refine a_iconst (pc := 84) hC dX10_asksRoom_84 (v := 3) rfl ?_
  refine a_idiv (pc := 85) hC dX10_asksRoom_85 (by decide) ?_
  refine a_icmp_le (pc := 86) (tgt := 93) hC dX10_asksRoom_86 (by decide) (fun c => ?_) (fun c => ?_)
  · replace h := h.1 c
    refine a_iconst (pc := 93) hC dX10_asksRoom_93 (v := 0) rfl ?_
    refine a_bipush (pc := 94) hC dX10_asksRoom_94 (v := 6) rfl ?_
    refine a_iload_n (pc := 96) hC dX10_asksRoom_96 rfl ?_
    refine a_callVv (pc := 97) hC hR vm_X10_hinders tw_1616 cl_X10 (oM_0 hX) ⟨(Nat.le_of_ble_eq_true rfl), (Nat.le_of_ble_eq_true rfl), (Nat.le_of_ble_eq_true rfl), (Nat.le_of_ble_eq_true rfl)⟩ dX10_asksRoom_97 (t_X10_hinders hX hC.tr _ _ _ _ _ h) rfl rfl rfl (Nat.le_of_ble_eq_true rfl) (fun q18 h => ?_)
    exact a_vret (pc := 100) hC hE h (Nat.le_of_ble_eq_true rfl) (Nat.le_of_ble_eq_true rfl) dX10_asksRoom_100
  · replace h := h.2 c
    refine a_iconst (pc := 89) hC dX10_asksRoom_89 (v := 1) rfl ?_
    refine a_goto (pc := 90) (tgt := 94) hC dX10_asksRoom_90 (by decide) ?_
    refine a_bipush (pc := 94) hC dX10_asksRoom_94 (v := 6) rfl ?_
    refine a_iload_n (pc := 96) hC dX10_asksRoom_96 rfl ?_
    refine a_callVv (pc := 97) hC hR vm_X10_hinders tw_1616 cl_X10 (oM_0 hX) ⟨(Nat.le_of_ble_eq_true rfl), (Nat.le_of_ble_eq_true rfl), (Nat.le_of_ble_eq_true rfl), (Nat.le_of_ble_eq_true rfl)⟩ dX10_asksRoom_97 (t_X10_hinders hX hC.tr _ _ _ _ _ h) rfl rfl rfl (Nat.le_of_ble_eq_true rfl) (fun q20 h => ?_)
    exact a_vret (pc := 100) hC hE h (Nat.le_of_ble_eq_true rfl) (Nat.le_of_ble_eq_true rfl) dX10_asksRoom_100
set_option maxRecDepth 20000 in
theorem tJX10_asksRoom_27 {f : aF} {g : aG} (hX : isM g) (P : Int32 → aS → Prop) (hR : f_R f = aR 3 0 0) (hC : aOK f g cX10_asksRoom 4 RX10) (hE : aEv f g P (fun _ _ => False) 0 0) (j1 : Int32) (j2 : Int32) (j3 : Int32) (s0 : Int32) (q : aS) (h : JX10_asksRoom_27 j1 j2 j3 s0 P q) : AW f g 27 [some (.ref (gAd g 0)), some (.int j1), some (.int j2), some (.int j3)] [.int s0, .ref (gAd g 0)] q 0 0 := by
  unfold JX10_asksRoom_27 at h
  refine a_iconst (pc := 27) hC dX10_asksRoom_27 (v := 4) rfl ?_
  refine a_iload_n (pc := 28) hC dX10_asksRoom_28 rfl ?_
  refine a_callVv (pc := 29) hC hR vm_X10_hinders tw_1616 cl_X10 (oM_0 hX) ⟨(Nat.le_of_ble_eq_true rfl), (Nat.le_of_ble_eq_true rfl), (Nat.le_of_ble_eq_true rfl), (Nat.le_of_ble_eq_true rfl)⟩ dX10_asksRoom_29 (t_X10_hinders hX hC.tr _ _ _ _ _ h) rfl rfl rfl (Nat.le_of_ble_eq_true rfl) (fun q8 h => ?_)
  refine a_aload_n (pc := 32) hC dX10_asksRoom_32 rfl ?_
  refine a_iload_n (pc := 33) hC dX10_asksRoom_33 rfl ?_
  refine a_aload_n (pc := 34) hC dX10_asksRoom_34 rfl ?_
  refine a_get (pc := 35) hC cl_X10 (oM_0 hX) 0 (by decide) tw_1504 rfl dX10_asksRoom_35 ?_
  refine a_iload_n (pc := 38) hC dX10_asksRoom_38 rfl ?_
  refine a_callS (pc := 39) hC hR sm_X10_roomAt tw_1620 ⟨(Nat.le_of_ble_eq_true rfl), (Nat.le_of_ble_eq_true rfl), (Nat.le_of_ble_eq_true rfl), (Nat.le_of_ble_eq_true rfl)⟩ dX10_asksRoom_39 (t_X10_roomAt hX hC.tr _ _ _ h) rfl rfl rfl (Nat.le_of_ble_eq_true rfl) (fun r9 q10 h => ?_)
  refine a_iconst (pc := 42) hC dX10_asksRoom_42 (v := 0) rfl ?_
  refine a_iadd (pc := 43) hC dX10_asksRoom_43 ?_
  refine a_iald (pc := 44) hC (oM_1 hX) h.1 dX10_asksRoom_44 ?_
  replace h := h.2
  refine a_icmp_lt (pc := 45) (tgt := 52) hC dX10_asksRoom_45 (by decide) (fun c => ?_) (fun c => ?_)
  · replace h := h.1 c
    refine a_iconst (pc := 52) hC dX10_asksRoom_52 (v := 0) rfl ?_
    exact (tJX10_asksRoom_53 hX P hR hC hE _ _ _ _ _ h).forget ⟨rfl, rfl, rfl, rfl, trivial⟩
  · replace h := h.2 c
    refine a_iconst (pc := 48) hC dX10_asksRoom_48 (v := 1) rfl ?_
    refine a_goto (pc := 49) (tgt := 53) hC dX10_asksRoom_49 (by decide) ?_
    exact (tJX10_asksRoom_53 hX P hR hC hE _ _ _ _ _ h).forget ⟨rfl, rfl, rfl, rfl, trivial⟩
set_option maxRecDepth 20000 in
theorem t_X10_asksRoom {l : Launch} {g : aG} (hX : isM g) (hl : l.stackTraces = false) (x1 : Int32) (x2 : Int32) (q : aS) (P : Int32 → aS → Prop) (h : w_X10_asksRoom x1 x2 q P) : aMv l g yX10_asksRoom (aWs yX10_asksRoom cX10_asksRoom 4 none) 3 0 0 [.ref (gAd g 0), .int x1, .int x2] q P (fun _ _ => False) := by
  refine aMv_of RX10 ⟨by decide +kernel, rfl⟩ (cat_all rfl) (Nat.le_of_ble_eq_true rfl) hl hX.cl (fun f hR hC hE => ?_)
  show AW f g 0 [some (.ref (gAd g 0)), some (.int x1), some (.int x2), none] [] q 0 0
  unfold w_X10_asksRoom at h
  refine a_aload_n (pc := 0) hC dX10_asksRoom_0 rfl ?_
  refine a_iload_n (pc := 1) hC dX10_asksRoom_1 rfl ?_
  refine a_callV (pc := 2) hC hR vm_X10_othersIn tw_1677 cl_X10 (oM_0 hX) ⟨(Nat.le_of_ble_eq_true rfl), (Nat.le_of_ble_eq_true rfl), (Nat.le_of_ble_eq_true rfl), (Nat.le_of_ble_eq_true rfl)⟩ dX10_asksRoom_2 (t_X10_othersIn hX hC.tr _ _ _ h) rfl rfl rfl (Nat.le_of_ble_eq_true rfl) (fun r3 q4 h => ?_)
  refine a_istore_n (pc := 5) hC dX10_asksRoom_5 (Nat.le_of_ble_eq_true rfl) ?_
  refine a_aload_n (pc := 6) hC dX10_asksRoom_6 rfl ?_
  refine a_aload_n (pc := 7) hC dX10_asksRoom_7 rfl ?_
  refine a_get (pc := 8) hC cl_X10 (oM_0 hX) 0 (by decide) tw_1504 rfl dX10_asksRoom_8 ?_
  refine a_iload_n (pc := 11) hC dX10_asksRoom_11 rfl ?_
  refine a_callS (pc := 12) hC hR sm_X10_singerAt tw_1658 ⟨(Nat.le_of_ble_eq_true rfl), (Nat.le_of_ble_eq_true rfl), (Nat.le_of_ble_eq_true rfl), (Nat.le_of_ble_eq_true rfl)⟩ dX10_asksRoom_12 (t_X10_singerAt hX hC.tr _ _ _ h) rfl rfl rfl (Nat.le_of_ble_eq_true rfl) (fun r5 q6 h => ?_)
  refine a_iconst (pc := 15) hC dX10_asksRoom_15 (v := 2) rfl ?_
  refine a_iadd (pc := 16) hC dX10_asksRoom_16 ?_
  refine a_iald (pc := 17) hC (oM_1 hX) h.1 dX10_asksRoom_17 ?_
  replace h := h.2
  refine a_iload_n (pc := 18) hC dX10_asksRoom_18 rfl ?_
  refine a_icmp_ne (pc := 19) (tgt := 26) hC dX10_asksRoom_19 (by decide) (fun c => ?_) (fun c => ?_)
  · replace h := h.1 c
    refine a_iconst (pc := 26) hC dX10_asksRoom_26 (v := 0) rfl ?_
    exact (tJX10_asksRoom_27 hX P hR hC hE _ _ _ _ _ h).forget ⟨rfl, rfl, rfl, rfl, trivial⟩
  · replace h := h.2 c
    refine a_iconst (pc := 22) hC dX10_asksRoom_22 (v := 1) rfl ?_
    refine a_goto (pc := 23) (tgt := 27) hC dX10_asksRoom_23 (by decide) ?_
    exact (tJX10_asksRoom_27 hX P hR hC hE _ _ _ _ _ h).forget ⟨rfl, rfl, rfl, rfl, trivial⟩
set_option maxRecDepth 20000 in
theorem tJX10_comesIn_51 {f : aF} {g : aG} (hX : isM g) (P : Int32 → aS → Prop) (hR : f_R f = aR 4 0 0) (hC : aOK f g cX10_comesIn 3 RX10) (hE : aEi f g .int P (fun _ _ => False) 0 0) (j1 : Int32) (j2 : Int32) (q : aS) (h : JX10_comesIn_51 j1 j2 P q) : AW f g 51 [some (.ref (gAd g 0)), some (.int j1), some (.int j2)] [] q 0 0 := by
  unfold JX10_comesIn_51 at h
  refine a_aload_n (pc := 51) hC dX10_comesIn_51 rfl ?_
  refine a_get (pc := 52) hC cl_X10 (oM_0 hX) 16 (by decide) tw_1520 rfl dX10_comesIn_52 ?_
  refine a_if_eq (pc := 55) (tgt := 60) hC dX10_comesIn_55 (by decide) (fun c => ?_) (fun c => ?_)
  · replace h := h.1 c
    refine a_aload_n (pc := 60) hC dX10_comesIn_60 rfl ?_
    refine a_get (pc := 61) hC cl_X10 (oM_0 hX) 0 (by decide) tw_1504 rfl dX10_comesIn_61 ?_
    refine a_iload_n (pc := 64) hC dX10_comesIn_64 rfl ?_
    refine a_callS (pc := 65) hC hR sm_X10_singerAt tw_1658 ⟨(Nat.le_of_ble_eq_true rfl), (Nat.le_of_ble_eq_true rfl), (Nat.le_of_ble_eq_true rfl), (Nat.le_of_ble_eq_true rfl)⟩ dX10_comesIn_65 (t_X10_singerAt hX hC.tr _ _ _ h) rfl rfl rfl (Nat.le_of_ble_eq_true rfl) (fun r11 q12 h => ?_)
    refine a_iconst (pc := 68) hC dX10_comesIn_68 (v := 2) rfl ?_
    refine a_iadd (pc := 69) hC dX10_comesIn_69 ?_
    refine a_iload_n (pc := 70) hC dX10_comesIn_70 rfl ?_
    refine a_iast (pc := 71) hC (oM_1 hX) h.1 dX10_comesIn_71 ?_
    replace h := h.2
    replace h := h _ rfl
    refine a_aload_n (pc := 72) hC dX10_comesIn_72 rfl ?_
    refine a_iload_n (pc := 73) hC dX10_comesIn_73 rfl ?_
    refine a_callV (pc := 74) hC hR vm_X10_othersIn tw_1677 cl_X10 (oM_0 hX) ⟨(Nat.le_of_ble_eq_true rfl), (Nat.le_of_ble_eq_true rfl), (Nat.le_of_ble_eq_true rfl), (Nat.le_of_ble_eq_true rfl)⟩ dX10_comesIn_74 (t_X10_othersIn hX hC.tr _ _ _ h) rfl rfl rfl (Nat.le_of_ble_eq_true rfl) (fun r14 q15 h => ?_)
    exact a_iret (pc := 77) hC hE h (Nat.le_of_ble_eq_true rfl) (Nat.le_of_ble_eq_true rfl) dX10_comesIn_77
  · replace h := h.2 c
    refine a_iconst (pc := 58) hC dX10_comesIn_58 (v := 0) rfl ?_
    exact a_iret (pc := 59) hC hE h (Nat.le_of_ble_eq_true rfl) (Nat.le_of_ble_eq_true rfl) dX10_comesIn_59
set_option maxRecDepth 20000 in
theorem tJX10_comesIn_33 {f : aF} {g : aG} (hX : isM g) (P : Int32 → aS → Prop) (hR : f_R f = aR 4 0 0) (hC : aOK f g cX10_comesIn 3 RX10) (hE : aEi f g .int P (fun _ _ => False) 0 0) (j1 : Int32) (j2 : Int32) (s0 : Int32) (q : aS) (h : JX10_comesIn_33 j1 j2 s0 P q) : AW f g 33 [some (.ref (gAd g 0)), some (.int j1), some (.int j2)] [.int s0, .ref (gAd g 0)] q 0 0 := by
  unfold JX10_comesIn_33 at h
  refine a_iconst (pc := 33) hC dX10_comesIn_33 (v := 2) rfl ?_
  refine a_iload_n (pc := 34) hC dX10_comesIn_34 rfl ?_
  refine a_callVv (pc := 35) hC hR vm_X10_hinders tw_1616 cl_X10 (oM_0 hX) ⟨(Nat.le_of_ble_eq_true rfl), (Nat.le_of_ble_eq_true rfl), (Nat.le_of_ble_eq_true rfl), (Nat.le_of_ble_eq_true rfl)⟩ dX10_comesIn_35 (t_X10_hinders hX hC.tr _ _ _ _ _ h) rfl rfl rfl (Nat.le_of_ble_eq_true rfl) (fun q10 h => ?_)
  refine a_aload_n (pc := 38) hC dX10_comesIn_38 rfl ?_
  refine a_get (pc := 39) hC cl_X10 (oM_0 hX) 16 (by decide) tw_1520 rfl dX10_comesIn_39 ?_
  refine a_if_ne (pc := 42) (tgt := 51) hC dX10_comesIn_42 (by decide) (fun c => ?_) (fun c => ?_)
  · replace h := h.1 c
    exact (tJX10_comesIn_51 hX P hR hC hE _ _ _ h).forget ⟨rfl, rfl, rfl, trivial⟩
  · replace h := h.2 c
    refine a_aload_n (pc := 45) hC dX10_comesIn_45 rfl ?_
    refine a_iload_n (pc := 46) hC dX10_comesIn_46 rfl ?_
    refine a_iload_n (pc := 47) hC dX10_comesIn_47 rfl ?_
    refine a_callVv (pc := 48) hC hR vm_X10_asksRoom tw_1673 cl_X10 (oM_0 hX) ⟨(Nat.le_of_ble_eq_true rfl), (Nat.le_of_ble_eq_true rfl), (Nat.le_of_ble_eq_true rfl), (Nat.le_of_ble_eq_true rfl)⟩ dX10_comesIn_48 (t_X10_asksRoom hX hC.tr _ _ _ _ h) rfl rfl rfl (Nat.le_of_ble_eq_true rfl) (fun q17 h => ?_)
    exact (tJX10_comesIn_51 hX P hR hC hE _ _ _ h).forget ⟨rfl, rfl, rfl, trivial⟩
set_option maxRecDepth 20000 in
theorem tJX10_comesIn_14 {f : aF} {g : aG} (hX : isM g) (P : Int32 → aS → Prop) (hR : f_R f = aR 4 0 0) (hC : aOK f g cX10_comesIn 3 RX10) (hE : aEi f g .int P (fun _ _ => False) 0 0) (j1 : Int32) (j2 : Int32) (s0 : Int32) (q : aS) (h : JX10_comesIn_14 j1 j2 s0 P q) : AW f g 14 [some (.ref (gAd g 0)), some (.int j1), some (.int j2)] [.int s0, .ref (gAd g 0)] q 0 0 := by
  unfold JX10_comesIn_14 at h
  refine a_iconst (pc := 14) hC dX10_comesIn_14 (v := 2) rfl ?_
  refine a_iload_n (pc := 15) hC dX10_comesIn_15 rfl ?_
  refine a_callVv (pc := 16) hC hR vm_X10_hinders tw_1616 cl_X10 (oM_0 hX) ⟨(Nat.le_of_ble_eq_true rfl), (Nat.le_of_ble_eq_true rfl), (Nat.le_of_ble_eq_true rfl), (Nat.le_of_ble_eq_true rfl)⟩ dX10_comesIn_16 (t_X10_hinders hX hC.tr _ _ _ _ _ h) rfl rfl rfl (Nat.le_of_ble_eq_true rfl) (fun q6 h => ?_)
  refine a_aload_n (pc := 19) hC dX10_comesIn_19 rfl ?_
  refine a_aload_n (pc := 20) hC dX10_comesIn_20 rfl ?_
  refine a_iload_n (pc := 21) hC dX10_comesIn_21 rfl ?_
  refine a_callV (pc := 22) hC hR vm_X10_isRoom tw_1643 cl_X10 (oM_0 hX) ⟨(Nat.le_of_ble_eq_true rfl), (Nat.le_of_ble_eq_true rfl), (Nat.le_of_ble_eq_true rfl), (Nat.le_of_ble_eq_true rfl)⟩ dX10_comesIn_22 (t_X10_isRoom hX hC.tr _ _ _ h) rfl rfl rfl (Nat.le_of_ble_eq_true rfl) (fun r7 q8 h => ?_)
  have z_r7 := h.1
  replace h := h.2
  refine a_if_ne (pc := 25) (tgt := 32) hC dX10_comesIn_25 (by decide) (fun c => ?_) (fun c => ?_)
  · replace h := h.1 c
    refine a_iconst (pc := 32) hC dX10_comesIn_32 (v := 0) rfl ?_
    exact (tJX10_comesIn_33 hX P hR hC hE _ _ _ _ h).forget ⟨rfl, rfl, rfl, trivial⟩
  · replace h := h.2 c
    refine a_iconst (pc := 28) hC dX10_comesIn_28 (v := 1) rfl ?_
    refine a_goto (pc := 29) (tgt := 33) hC dX10_comesIn_29 (by decide) ?_
    exact (tJX10_comesIn_33 hX P hR hC hE _ _ _ _ h).forget ⟨rfl, rfl, rfl, trivial⟩
set_option maxRecDepth 20000 in
theorem t_X10_comesIn {l : Launch} {g : aG} (hX : isM g) (hl : l.stackTraces = false) (x1 : Int32) (x2 : Int32) (q : aS) (P : Int32 → aS → Prop) (h : w_X10_comesIn x1 x2 q P) : aMi l g yX10_comesIn (aWs yX10_comesIn cX10_comesIn 3 (some .int)) 4 0 0 [.ref (gAd g 0), .int x1, .int x2] q P (fun _ _ => False) := by
  refine aMi_of RX10 ⟨by decide +kernel, rfl⟩ (cat_all rfl) (Nat.le_of_ble_eq_true rfl) hl hX.cl (fun f hR hC hE => ?_)
  show AW f g 0 [some (.ref (gAd g 0)), some (.int x1), some (.int x2)] [] q 0 0
  unfold w_X10_comesIn at h
  refine a_aload_n (pc := 0) hC dX10_comesIn_0 rfl ?_
  refine a_aload_n (pc := 1) hC dX10_comesIn_1 rfl ?_
  refine a_iload_n (pc := 2) hC dX10_comesIn_2 rfl ?_
  refine a_callV (pc := 3) hC hR vm_X10_isSinger tw_1669 cl_X10 (oM_0 hX) ⟨(Nat.le_of_ble_eq_true rfl), (Nat.le_of_ble_eq_true rfl), (Nat.le_of_ble_eq_true rfl), (Nat.le_of_ble_eq_true rfl)⟩ dX10_comesIn_3 (t_X10_isSinger hX hC.tr _ _ _ h) rfl rfl rfl (Nat.le_of_ble_eq_true rfl) (fun r3 q4 h => ?_)
  have z_r3 := h.1
  replace h := h.2
  refine a_if_ne (pc := 6) (tgt := 13) hC dX10_comesIn_6 (by decide) (fun c => ?_) (fun c => ?_)
  · replace h := h.1 c
    refine a_iconst (pc := 13) hC dX10_comesIn_13 (v := 0) rfl ?_
    exact (tJX10_comesIn_14 hX P hR hC hE _ _ _ _ h).forget ⟨rfl, rfl, rfl, trivial⟩
  · replace h := h.2 c
    refine a_iconst (pc := 9) hC dX10_comesIn_9 (v := 1) rfl ?_
    refine a_goto (pc := 10) (tgt := 14) hC dX10_comesIn_10 (by decide) ?_
    exact (tJX10_comesIn_14 hX P hR hC hE _ _ _ _ h).forget ⟨rfl, rfl, rfl, trivial⟩
set_option maxRecDepth 20000 in
theorem t_X10_enter {l : Launch} {g : aG} (hX : isM g) (hl : l.stackTraces = false) (x1 : Int32) (x2 : Int32) (q : aS) (P : Int32 → aS → Prop) (h : w_X10_enter x1 x2 q P) : aMi l g yX10_enter (aWs yX10_enter cX10_enter 3 (some .int)) 5 0 0 [.ref (gAd g 0), .int x1, .int x2] q P (fun _ _ => False) := by
  refine aMi_of RX10 ⟨by decide +kernel, rfl⟩ (cat_all rfl) (Nat.le_of_ble_eq_true rfl) hl hX.cl (fun f hR hC hE => ?_)
  show AW f g 0 [some (.ref (gAd g 0)), some (.int x1), some (.int x2)] [] q 0 0
  unfold w_X10_enter at h
  refine a_aload_n (pc := 0) hC dX10_enter_0 rfl ?_
  refine a_callVv (pc := 1) hC hR vm_X10_begins tw_1608 cl_X10 (oM_0 hX) ⟨(Nat.le_of_ble_eq_true rfl), (Nat.le_of_ble_eq_true rfl), (Nat.le_of_ble_eq_true rfl), (Nat.le_of_ble_eq_true rfl)⟩ dX10_enter_1 (t_X10_begins hX hC.tr _ _ h) rfl rfl rfl (Nat.le_of_ble_eq_true rfl) (fun q4 h => ?_)
  refine a_aload_n (pc := 4) hC dX10_enter_4 rfl ?_
  refine a_aload_n (pc := 5) hC dX10_enter_5 rfl ?_
  refine a_iload_n (pc := 6) hC dX10_enter_6 rfl ?_
  refine a_iload_n (pc := 7) hC dX10_enter_7 rfl ?_
  refine a_callV (pc := 8) hC hR vm_X10_comesIn tw_1665 cl_X10 (oM_0 hX) ⟨(Nat.le_of_ble_eq_true rfl), (Nat.le_of_ble_eq_true rfl), (Nat.le_of_ble_eq_true rfl), (Nat.le_of_ble_eq_true rfl)⟩ dX10_enter_8 (t_X10_comesIn hX hC.tr _ _ _ _ h) rfl rfl rfl (Nat.le_of_ble_eq_true rfl) (fun r5 q6 h => ?_)
  refine a_callV (pc := 11) hC hR vm_X10_ends tw_1623 cl_X10 (oM_0 hX) ⟨(Nat.le_of_ble_eq_true rfl), (Nat.le_of_ble_eq_true rfl), (Nat.le_of_ble_eq_true rfl), (Nat.le_of_ble_eq_true rfl)⟩ dX10_enter_11 (t_X10_ends hX hC.tr _ _ _ h) rfl rfl rfl (Nat.le_of_ble_eq_true rfl) (fun r7 q8 h => ?_)
  exact a_iret (pc := 14) hC hE h (Nat.le_of_ble_eq_true rfl) (Nat.le_of_ble_eq_true rfl) dX10_enter_14
set_option maxRecDepth 20000 in
theorem tJX10_goesOut_51 {f : aF} {g : aG} (hX : isM g) (P : Int32 → aS → Prop) (hR : f_R f = aR 2 0 0) (hC : aOK f g cX10_goesOut 3 RX10) (hE : aEi f g .int P (fun _ _ => False) 0 0) (j1 : Int32) (j2 : Int32) (s0 : Int32) (q : aS) (h : JX10_goesOut_51 j1 j2 s0 P q) : AW f g 51 [some (.ref (gAd g 0)), some (.int j1), some (.int j2)] [.int s0, .ref (gAd g 0)] q 0 0 := by
  unfold JX10_goesOut_51 at h
  refine a_bipush (pc := 51) hC dX10_goesOut_51 (v := 10) rfl ?_
  refine a_iload_n (pc := 53) hC dX10_goesOut_53 rfl ?_
  refine a_callVv (pc := 54) hC hR vm_X10_hinders tw_1616 cl_X10 (oM_0 hX) ⟨(Nat.le_of_ble_eq_true rfl), (Nat.le_of_ble_eq_true rfl), (Nat.le_of_ble_eq_true rfl), (Nat.le_of_ble_eq_true rfl)⟩ dX10_goesOut_54 (t_X10_hinders hX hC.tr _ _ _ _ _ h) rfl rfl rfl (Nat.le_of_ble_eq_true rfl) (fun q10 h => ?_)
  refine a_aload_n (pc := 57) hC dX10_goesOut_57 rfl ?_
  refine a_get (pc := 58) hC cl_X10 (oM_0 hX) 0 (by decide) tw_1504 rfl dX10_goesOut_58 ?_
  refine a_iload_n (pc := 61) hC dX10_goesOut_61 rfl ?_
  refine a_callS (pc := 62) hC hR sm_X10_singerAt tw_1658 ⟨(Nat.le_of_ble_eq_true rfl), (Nat.le_of_ble_eq_true rfl), (Nat.le_of_ble_eq_true rfl), (Nat.le_of_ble_eq_true rfl)⟩ dX10_goesOut_62 (t_X10_singerAt hX hC.tr _ _ _ h) rfl rfl rfl (Nat.le_of_ble_eq_true rfl) (fun r11 q12 h => ?_)
  refine a_iconst (pc := 65) hC dX10_goesOut_65 (v := 2) rfl ?_
  refine a_iadd (pc := 66) hC dX10_goesOut_66 ?_
  refine a_iconst (pc := 67) hC dX10_goesOut_67 (v := (-1)) rfl ?_
  refine a_iast (pc := 68) hC (oM_1 hX) h.1 dX10_goesOut_68 ?_
  replace h := h.2
  replace h := h _ rfl
  refine a_iload_n (pc := 69) hC dX10_goesOut_69 rfl ?_
  exact a_iret (pc := 70) hC hE h (Nat.le_of_ble_eq_true rfl) (Nat.le_of_ble_eq_true rfl) dX10_goesOut_70
set_option maxRecDepth 20000 in
theorem tJX10_goesOut_14 {f : aF} {g : aG} (hX : isM g) (P : Int32 → aS → Prop) (hR : f_R f = aR 2 0 0) (hC : aOK f g cX10_goesOut 3 RX10) (hE : aEi f g .int P (fun _ _ => False) 0 0) (j1 : Int32) (s0 : Int32) (q : aS) (h : JX10_goesOut_14 j1 s0 P q) : AW f g 14 [some (.ref (gAd g 0)), some (.int j1), none] [.int s0, .ref (gAd g 0)] q 0 0 := by
  unfold JX10_goesOut_14 at h
  refine a_iconst (pc := 14) hC dX10_goesOut_14 (v := 2) rfl ?_
  refine a_iload_n (pc := 15) hC dX10_goesOut_15 rfl ?_
  refine a_callVv (pc := 16) hC hR vm_X10_hinders tw_1616 cl_X10 (oM_0 hX) ⟨(Nat.le_of_ble_eq_true rfl), (Nat.le_of_ble_eq_true rfl), (Nat.le_of_ble_eq_true rfl), (Nat.le_of_ble_eq_true rfl)⟩ dX10_goesOut_16 (t_X10_hinders hX hC.tr _ _ _ _ _ h) rfl rfl rfl (Nat.le_of_ble_eq_true rfl) (fun q5 h => ?_)
  refine a_aload_n (pc := 19) hC dX10_goesOut_19 rfl ?_
  refine a_get (pc := 20) hC cl_X10 (oM_0 hX) 16 (by decide) tw_1520 rfl dX10_goesOut_20 ?_
  refine a_if_eq (pc := 23) (tgt := 28) hC dX10_goesOut_23 (by decide) (fun c => ?_) (fun c => ?_)
  · replace h := h.1 c
    refine a_aload_n (pc := 28) hC dX10_goesOut_28 rfl ?_
    refine a_get (pc := 29) hC cl_X10 (oM_0 hX) 0 (by decide) tw_1504 rfl dX10_goesOut_29 ?_
    refine a_iload_n (pc := 32) hC dX10_goesOut_32 rfl ?_
    refine a_callS (pc := 33) hC hR sm_X10_singerAt tw_1658 ⟨(Nat.le_of_ble_eq_true rfl), (Nat.le_of_ble_eq_true rfl), (Nat.le_of_ble_eq_true rfl), (Nat.le_of_ble_eq_true rfl)⟩ dX10_goesOut_33 (t_X10_singerAt hX hC.tr _ _ _ h) rfl rfl rfl (Nat.le_of_ble_eq_true rfl) (fun r6 q7 h => ?_)
    refine a_iconst (pc := 36) hC dX10_goesOut_36 (v := 2) rfl ?_
    refine a_iadd (pc := 37) hC dX10_goesOut_37 ?_
    refine a_iald (pc := 38) hC (oM_1 hX) h.1 dX10_goesOut_38 ?_
    replace h := h.2
    refine a_istore_n (pc := 39) hC dX10_goesOut_39 (Nat.le_of_ble_eq_true rfl) ?_
    replace h := h _ rfl
    refine a_aload_n (pc := 40) hC dX10_goesOut_40 rfl ?_
    refine a_iload_n (pc := 41) hC dX10_goesOut_41 rfl ?_
    refine a_iconst (pc := 42) hC dX10_goesOut_42 (v := (-1)) rfl ?_
    refine a_icmp_ne (pc := 43) (tgt := 50) hC dX10_goesOut_43 (by decide) (fun c => ?_) (fun c => ?_)
    · replace h := h.1 c
      refine a_iconst (pc := 50) hC dX10_goesOut_50 (v := 0) rfl ?_
      exact (tJX10_goesOut_51 hX P hR hC hE _ _ _ _ h).forget ⟨rfl, rfl, rfl, trivial⟩
    · replace h := h.2 c
      refine a_iconst (pc := 46) hC dX10_goesOut_46 (v := 1) rfl ?_
      refine a_goto (pc := 47) (tgt := 51) hC dX10_goesOut_47 (by decide) ?_
      exact (tJX10_goesOut_51 hX P hR hC hE _ _ _ _ h).forget ⟨rfl, rfl, rfl, trivial⟩
  · replace h := h.2 c
    refine a_iconst (pc := 26) hC dX10_goesOut_26 (v := 0) rfl ?_
    exact a_iret (pc := 27) hC hE h (Nat.le_of_ble_eq_true rfl) (Nat.le_of_ble_eq_true rfl) dX10_goesOut_27
set_option maxRecDepth 20000 in
theorem t_X10_goesOut {l : Launch} {g : aG} (hX : isM g) (hl : l.stackTraces = false) (x1 : Int32) (q : aS) (P : Int32 → aS → Prop) (h : w_X10_goesOut x1 q P) : aMi l g yX10_goesOut (aWs yX10_goesOut cX10_goesOut 3 (some .int)) 2 0 0 [.ref (gAd g 0), .int x1] q P (fun _ _ => False) := by
  refine aMi_of RX10 ⟨by decide +kernel, rfl⟩ (cat_all rfl) (Nat.le_of_ble_eq_true rfl) hl hX.cl (fun f hR hC hE => ?_)
  show AW f g 0 [some (.ref (gAd g 0)), some (.int x1), none] [] q 0 0
  unfold w_X10_goesOut at h
  refine a_aload_n (pc := 0) hC dX10_goesOut_0 rfl ?_
  refine a_aload_n (pc := 1) hC dX10_goesOut_1 rfl ?_
  refine a_iload_n (pc := 2) hC dX10_goesOut_2 rfl ?_
  refine a_callV (pc := 3) hC hR vm_X10_isSinger tw_1669 cl_X10 (oM_0 hX) ⟨(Nat.le_of_ble_eq_true rfl), (Nat.le_of_ble_eq_true rfl), (Nat.le_of_ble_eq_true rfl), (Nat.le_of_ble_eq_true rfl)⟩ dX10_goesOut_3 (t_X10_isSinger hX hC.tr _ _ _ h) rfl rfl rfl (Nat.le_of_ble_eq_true rfl) (fun r2 q3 h => ?_)
  have z_r2 := h.1
  replace h := h.2
  refine a_if_ne (pc := 6) (tgt := 13) hC dX10_goesOut_6 (by decide) (fun c => ?_) (fun c => ?_)
  · replace h := h.1 c
    refine a_iconst (pc := 13) hC dX10_goesOut_13 (v := 0) rfl ?_
    exact (tJX10_goesOut_14 hX P hR hC hE _ _ _ h).forget ⟨rfl, rfl, trivial⟩
  · replace h := h.2 c
    refine a_iconst (pc := 9) hC dX10_goesOut_9 (v := 1) rfl ?_
    refine a_goto (pc := 10) (tgt := 14) hC dX10_goesOut_10 (by decide) ?_
    exact (tJX10_goesOut_14 hX P hR hC hE _ _ _ h).forget ⟨rfl, rfl, trivial⟩
set_option maxRecDepth 20000 in
theorem t_X10_out {l : Launch} {g : aG} (hX : isM g) (hl : l.stackTraces = false) (x1 : Int32) (q : aS) (P : Int32 → aS → Prop) (h : w_X10_out x1 q P) : aMi l g yX10_out (aWs yX10_out cX10_out 2 (some .int)) 3 0 0 [.ref (gAd g 0), .int x1] q P (fun _ _ => False) := by
  refine aMi_of RX10 ⟨by decide +kernel, rfl⟩ (cat_all rfl) (Nat.le_of_ble_eq_true rfl) hl hX.cl (fun f hR hC hE => ?_)
  show AW f g 0 [some (.ref (gAd g 0)), some (.int x1)] [] q 0 0
  unfold w_X10_out at h
  refine a_aload_n (pc := 0) hC dX10_out_0 rfl ?_
  refine a_callVv (pc := 1) hC hR vm_X10_begins tw_1608 cl_X10 (oM_0 hX) ⟨(Nat.le_of_ble_eq_true rfl), (Nat.le_of_ble_eq_true rfl), (Nat.le_of_ble_eq_true rfl), (Nat.le_of_ble_eq_true rfl)⟩ dX10_out_1 (t_X10_begins hX hC.tr _ _ h) rfl rfl rfl (Nat.le_of_ble_eq_true rfl) (fun q3 h => ?_)
  refine a_aload_n (pc := 4) hC dX10_out_4 rfl ?_
  refine a_aload_n (pc := 5) hC dX10_out_5 rfl ?_
  refine a_iload_n (pc := 6) hC dX10_out_6 rfl ?_
  refine a_callV (pc := 7) hC hR vm_X10_goesOut tw_1690 cl_X10 (oM_0 hX) ⟨(Nat.le_of_ble_eq_true rfl), (Nat.le_of_ble_eq_true rfl), (Nat.le_of_ble_eq_true rfl), (Nat.le_of_ble_eq_true rfl)⟩ dX10_out_7 (t_X10_goesOut hX hC.tr _ _ _ h) rfl rfl rfl (Nat.le_of_ble_eq_true rfl) (fun r4 q5 h => ?_)
  refine a_callV (pc := 10) hC hR vm_X10_ends tw_1623 cl_X10 (oM_0 hX) ⟨(Nat.le_of_ble_eq_true rfl), (Nat.le_of_ble_eq_true rfl), (Nat.le_of_ble_eq_true rfl), (Nat.le_of_ble_eq_true rfl)⟩ dX10_out_10 (t_X10_ends hX hC.tr _ _ _ h) rfl rfl rfl (Nat.le_of_ble_eq_true rfl) (fun r6 q7 h => ?_)
  exact a_iret (pc := 13) hC hE h (Nat.le_of_ble_eq_true rfl) (Nat.le_of_ble_eq_true rfl) dX10_out_13
set_option maxRecDepth 20000 in
theorem tJX10_carries_96 {f : aF} {g : aG} (hX : isM g) (P : Int32 → aS → Prop) (hR : f_R f = aR 2 0 0) (hC : aOK f g cX10_carries 4 RX10) (hE : aEi f g .int P (fun _ _ => False) 0 0) (j1 : Int32) (j2 : Int32) (j3 : Int32) (s0 : Int32) (q : aS) (h : JX10_carries_96 j1 j2 j3 s0 P q) : AW f g 96 [some (.ref (gAd g 0)), some (.int j1), some (.int j2), some (.int j3)] [.int s0, .ref (gAd g 0)] q 0 0 := by
  unfold JX10_carries_96 at h
  refine a_bipush (pc := 96) hC dX10_carries_96 (v := 7) rfl ?_
  refine a_aload_n (pc := 98) hC dX10_carries_98 rfl ?_
  refine a_get (pc := 99) hC cl_X10 (oM_0 hX) 0 (by decide) tw_1504 rfl dX10_carries_99 ?_
  refine a_iload_n (pc := 102) hC dX10_carries_102 rfl ?_
  refine a_callS (pc := 103) hC hR sm_X10_echoAt tw_1647 ⟨(Nat.le_of_ble_eq_true rfl), (Nat.le_of_ble_eq_true rfl), (Nat.le_of_ble_eq_true rfl), (Nat.le_of_ble_eq_true rfl)⟩ dX10_carries_103 (t_X10_echoAt hX hC.tr _ _ _ h) rfl rfl rfl (Nat.le_of_ble_eq_true rfl) (fun r18 q19 h => ?_)
  refine a_iconst (pc := 106) hC dX10_carries_106 (v := 2) rfl ?_
  refine a_iadd (pc := 107) hC dX10_carries_107 ?_
  refine a_iald (pc := 108) hC (oM_1 hX) h.1 dX10_carries_108 ?_
  replace h := h.2
  refine a_callVv (pc := 109) hC hR vm_X10_hinders tw_1616 cl_X10 (oM_0 hX) ⟨(Nat.le_of_ble_eq_true rfl), (Nat.le_of_ble_eq_true rfl), (Nat.le_of_ble_eq_true rfl), (Nat.le_of_ble_eq_true rfl)⟩ dX10_carries_109 (t_X10_hinders hX hC.tr _ _ _ _ _ h) rfl rfl rfl (Nat.le_of_ble_eq_true rfl) (fun q21 h => ?_)
  refine a_aload_n (pc := 112) hC dX10_carries_112 rfl ?_
  refine a_get (pc := 113) hC cl_X10 (oM_0 hX) 0 (by decide) tw_1504 rfl dX10_carries_113 ?_
  refine a_iload_n (pc := 116) hC dX10_carries_116 rfl ?_
  refine a_callS (pc := 117) hC hR sm_X10_echoAt tw_1647 ⟨(Nat.le_of_ble_eq_true rfl), (Nat.le_of_ble_eq_true rfl), (Nat.le_of_ble_eq_true rfl), (Nat.le_of_ble_eq_true rfl)⟩ dX10_carries_117 (t_X10_echoAt hX hC.tr _ _ _ h) rfl rfl rfl (Nat.le_of_ble_eq_true rfl) (fun r22 q23 h => ?_)
  refine a_iconst (pc := 120) hC dX10_carries_120 (v := 0) rfl ?_
  refine a_iadd (pc := 121) hC dX10_carries_121 ?_
  refine a_iload_n (pc := 122) hC dX10_carries_122 rfl ?_
  refine a_iast (pc := 123) hC (oM_1 hX) h.1 dX10_carries_123 ?_
  replace h := h.2
  replace h := h _ rfl
  refine a_iload_n (pc := 124) hC dX10_carries_124 rfl ?_
  exact a_iret (pc := 125) hC hE h (Nat.le_of_ble_eq_true rfl) (Nat.le_of_ble_eq_true rfl) dX10_carries_125
set_option maxRecDepth 20000 in
theorem tJX10_carries_70 {f : aF} {g : aG} (hX : isM g) (P : Int32 → aS → Prop) (hR : f_R f = aR 2 0 0) (hC : aOK f g cX10_carries 4 RX10) (hE : aEi f g .int P (fun _ _ => False) 0 0) (j1 : Int32) (j2 : Int32) (j3 : Int32) (s0 : Int32) (q : aS) (h : JX10_carries_70 j1 j2 j3 s0 P q) : AW f g 70 [some (.ref (gAd g 0)), some (.int j1), some (.int j2), some (.int j3)] [.int s0, .ref (gAd g 0)] q 0 0 := by
  unfold JX10_carries_70 at h
  refine a_iconst (pc := 70) hC dX10_carries_70 (v := 4) rfl ?_
  refine a_iload_n (pc := 71) hC dX10_carries_71 rfl ?_
  refine a_callVv (pc := 72) hC hR vm_X10_hinders tw_1616 cl_X10 (oM_0 hX) ⟨(Nat.le_of_ble_eq_true rfl), (Nat.le_of_ble_eq_true rfl), (Nat.le_of_ble_eq_true rfl), (Nat.le_of_ble_eq_true rfl)⟩ dX10_carries_72 (t_X10_hinders hX hC.tr _ _ _ _ _ h) rfl rfl rfl (Nat.le_of_ble_eq_true rfl) (fun q15 h => ?_)
  refine a_aload_n (pc := 75) hC dX10_carries_75 rfl ?_
  refine a_aload_n (pc := 76) hC dX10_carries_76 rfl ?_
  refine a_get (pc := 77) hC cl_X10 (oM_0 hX) 0 (by decide) tw_1504 rfl dX10_carries_77 ?_
  refine a_iload_n (pc := 80) hC dX10_carries_80 rfl ?_
  refine a_callS (pc := 81) hC hR sm_X10_echoAt tw_1647 ⟨(Nat.le_of_ble_eq_true rfl), (Nat.le_of_ble_eq_true rfl), (Nat.le_of_ble_eq_true rfl), (Nat.le_of_ble_eq_true rfl)⟩ dX10_carries_81 (t_X10_echoAt hX hC.tr _ _ _ h) rfl rfl rfl (Nat.le_of_ble_eq_true rfl) (fun r16 q17 h => ?_)
  refine a_iconst (pc := 84) hC dX10_carries_84 (v := 2) rfl ?_
  refine a_iadd (pc := 85) hC dX10_carries_85 ?_
  refine a_iald (pc := 86) hC (oM_1 hX) h.1 dX10_carries_86 ?_
  replace h := h.2
  refine a_iconst (pc := 87) hC dX10_carries_87 (v := (-1)) rfl ?_
  refine a_icmp_eq (pc := 88) (tgt := 95) hC dX10_carries_88 (by decide) (fun c => ?_) (fun c => ?_)
  · replace h := h.1 c
    refine a_iconst (pc := 95) hC dX10_carries_95 (v := 0) rfl ?_
    exact (tJX10_carries_96 hX P hR hC hE _ _ _ _ _ h).forget ⟨rfl, rfl, rfl, rfl, trivial⟩
  · replace h := h.2 c
    refine a_iconst (pc := 91) hC dX10_carries_91 (v := 1) rfl ?_
    refine a_goto (pc := 92) (tgt := 96) hC dX10_carries_92 (by decide) ?_
    exact (tJX10_carries_96 hX P hR hC hE _ _ _ _ _ h).forget ⟨rfl, rfl, rfl, rfl, trivial⟩
set_option maxRecDepth 20000 in
theorem tJX10_carries_33 {f : aF} {g : aG} (hX : isM g) (P : Int32 → aS → Prop) (hR : f_R f = aR 2 0 0) (hC : aOK f g cX10_carries 4 RX10) (hE : aEi f g .int P (fun _ _ => False) 0 0) (j1 : Int32) (j2 : Int32) (s0 : Int32) (q : aS) (h : JX10_carries_33 j1 j2 s0 P q) : AW f g 33 [some (.ref (gAd g 0)), some (.int j1), some (.int j2), none] [.int s0, .ref (gAd g 0)] q 0 0 := by
  unfold JX10_carries_33 at h
  refine a_iconst (pc := 33) hC dX10_carries_33 (v := 2) rfl ?_
  refine a_iload_n (pc := 34) hC dX10_carries_34 rfl ?_
  refine a_callVv (pc := 35) hC hR vm_X10_hinders tw_1616 cl_X10 (oM_0 hX) ⟨(Nat.le_of_ble_eq_true rfl), (Nat.le_of_ble_eq_true rfl), (Nat.le_of_ble_eq_true rfl), (Nat.le_of_ble_eq_true rfl)⟩ dX10_carries_35 (t_X10_hinders hX hC.tr _ _ _ _ _ h) rfl rfl rfl (Nat.le_of_ble_eq_true rfl) (fun q10 h => ?_)
  refine a_aload_n (pc := 38) hC dX10_carries_38 rfl ?_
  refine a_get (pc := 39) hC cl_X10 (oM_0 hX) 16 (by decide) tw_1520 rfl dX10_carries_39 ?_
  refine a_if_eq (pc := 42) (tgt := 47) hC dX10_carries_42 (by decide) (fun c => ?_) (fun c => ?_)
  · replace h := h.1 c
    refine a_aload_n (pc := 47) hC dX10_carries_47 rfl ?_
    refine a_get (pc := 48) hC cl_X10 (oM_0 hX) 0 (by decide) tw_1504 rfl dX10_carries_48 ?_
    refine a_iload_n (pc := 51) hC dX10_carries_51 rfl ?_
    refine a_callS (pc := 52) hC hR sm_X10_echoAt tw_1647 ⟨(Nat.le_of_ble_eq_true rfl), (Nat.le_of_ble_eq_true rfl), (Nat.le_of_ble_eq_true rfl), (Nat.le_of_ble_eq_true rfl)⟩ dX10_carries_52 (t_X10_echoAt hX hC.tr _ _ _ h) rfl rfl rfl (Nat.le_of_ble_eq_true rfl) (fun r11 q12 h => ?_)
    refine a_iconst (pc := 55) hC dX10_carries_55 (v := 0) rfl ?_
    refine a_iadd (pc := 56) hC dX10_carries_56 ?_
    refine a_iald (pc := 57) hC (oM_1 hX) h.1 dX10_carries_57 ?_
    replace h := h.2
    refine a_istore_n (pc := 58) hC dX10_carries_58 (Nat.le_of_ble_eq_true rfl) ?_
    replace h := h _ rfl
    refine a_aload_n (pc := 59) hC dX10_carries_59 rfl ?_
    refine a_iload_n (pc := 60) hC dX10_carries_60 rfl ?_
    refine a_iload_n (pc := 61) hC dX10_carries_61 rfl ?_
    refine a_icmp_ne (pc := 62) (tgt := 69) hC dX10_carries_62 (by decide) (fun c => ?_) (fun c => ?_)
    · replace h := h.1 c
      refine a_iconst (pc := 69) hC dX10_carries_69 (v := 0) rfl ?_
      exact (tJX10_carries_70 hX P hR hC hE _ _ _ _ _ h).forget ⟨rfl, rfl, rfl, rfl, trivial⟩
    · replace h := h.2 c
      refine a_iconst (pc := 65) hC dX10_carries_65 (v := 1) rfl ?_
      refine a_goto (pc := 66) (tgt := 70) hC dX10_carries_66 (by decide) ?_
      exact (tJX10_carries_70 hX P hR hC hE _ _ _ _ _ h).forget ⟨rfl, rfl, rfl, rfl, trivial⟩
  · replace h := h.2 c
    refine a_iconst (pc := 45) hC dX10_carries_45 (v := 0) rfl ?_
    exact a_iret (pc := 46) hC hE h (Nat.le_of_ble_eq_true rfl) (Nat.le_of_ble_eq_true rfl) dX10_carries_46
set_option maxRecDepth 20000 in
theorem tJX10_carries_14 {f : aF} {g : aG} (hX : isM g) (P : Int32 → aS → Prop) (hR : f_R f = aR 2 0 0) (hC : aOK f g cX10_carries 4 RX10) (hE : aEi f g .int P (fun _ _ => False) 0 0) (j1 : Int32) (j2 : Int32) (s0 : Int32) (q : aS) (h : JX10_carries_14 j1 j2 s0 P q) : AW f g 14 [some (.ref (gAd g 0)), some (.int j1), some (.int j2), none] [.int s0, .ref (gAd g 0)] q 0 0 := by
  unfold JX10_carries_14 at h
  refine a_iconst (pc := 14) hC dX10_carries_14 (v := 2) rfl ?_
  refine a_iload_n (pc := 15) hC dX10_carries_15 rfl ?_
  refine a_callVv (pc := 16) hC hR vm_X10_hinders tw_1616 cl_X10 (oM_0 hX) ⟨(Nat.le_of_ble_eq_true rfl), (Nat.le_of_ble_eq_true rfl), (Nat.le_of_ble_eq_true rfl), (Nat.le_of_ble_eq_true rfl)⟩ dX10_carries_16 (t_X10_hinders hX hC.tr _ _ _ _ _ h) rfl rfl rfl (Nat.le_of_ble_eq_true rfl) (fun q6 h => ?_)
  refine a_aload_n (pc := 19) hC dX10_carries_19 rfl ?_
  refine a_aload_n (pc := 20) hC dX10_carries_20 rfl ?_
  refine a_iload_n (pc := 21) hC dX10_carries_21 rfl ?_
  refine a_callV (pc := 22) hC hR vm_X10_isRoom tw_1643 cl_X10 (oM_0 hX) ⟨(Nat.le_of_ble_eq_true rfl), (Nat.le_of_ble_eq_true rfl), (Nat.le_of_ble_eq_true rfl), (Nat.le_of_ble_eq_true rfl)⟩ dX10_carries_22 (t_X10_isRoom hX hC.tr _ _ _ h) rfl rfl rfl (Nat.le_of_ble_eq_true rfl) (fun r7 q8 h => ?_)
  have z_r7 := h.1
  replace h := h.2
  refine a_if_ne (pc := 25) (tgt := 32) hC dX10_carries_25 (by decide) (fun c => ?_) (fun c => ?_)
  · replace h := h.1 c
    refine a_iconst (pc := 32) hC dX10_carries_32 (v := 0) rfl ?_
    exact (tJX10_carries_33 hX P hR hC hE _ _ _ _ h).forget ⟨rfl, rfl, rfl, trivial⟩
  · replace h := h.2 c
    refine a_iconst (pc := 28) hC dX10_carries_28 (v := 1) rfl ?_
    refine a_goto (pc := 29) (tgt := 33) hC dX10_carries_29 (by decide) ?_
    exact (tJX10_carries_33 hX P hR hC hE _ _ _ _ h).forget ⟨rfl, rfl, rfl, trivial⟩
set_option maxRecDepth 20000 in
theorem t_X10_carries {l : Launch} {g : aG} (hX : isM g) (hl : l.stackTraces = false) (x1 : Int32) (x2 : Int32) (q : aS) (P : Int32 → aS → Prop) (h : w_X10_carries x1 x2 q P) : aMi l g yX10_carries (aWs yX10_carries cX10_carries 4 (some .int)) 2 0 0 [.ref (gAd g 0), .int x1, .int x2] q P (fun _ _ => False) := by
  refine aMi_of RX10 ⟨by decide +kernel, rfl⟩ (cat_all rfl) (Nat.le_of_ble_eq_true rfl) hl hX.cl (fun f hR hC hE => ?_)
  show AW f g 0 [some (.ref (gAd g 0)), some (.int x1), some (.int x2), none] [] q 0 0
  unfold w_X10_carries at h
  refine a_aload_n (pc := 0) hC dX10_carries_0 rfl ?_
  refine a_aload_n (pc := 1) hC dX10_carries_1 rfl ?_
  refine a_iload_n (pc := 2) hC dX10_carries_2 rfl ?_
  refine a_callV (pc := 3) hC hR vm_X10_isEcho tw_1702 cl_X10 (oM_0 hX) ⟨(Nat.le_of_ble_eq_true rfl), (Nat.le_of_ble_eq_true rfl), (Nat.le_of_ble_eq_true rfl), (Nat.le_of_ble_eq_true rfl)⟩ dX10_carries_3 (t_X10_isEcho hX hC.tr _ _ _ h) rfl rfl rfl (Nat.le_of_ble_eq_true rfl) (fun r3 q4 h => ?_)
  have z_r3 := h.1
  replace h := h.2
  refine a_if_ne (pc := 6) (tgt := 13) hC dX10_carries_6 (by decide) (fun c => ?_) (fun c => ?_)
  · replace h := h.1 c
    refine a_iconst (pc := 13) hC dX10_carries_13 (v := 0) rfl ?_
    exact (tJX10_carries_14 hX P hR hC hE _ _ _ _ h).forget ⟨rfl, rfl, rfl, trivial⟩
  · replace h := h.2 c
    refine a_iconst (pc := 9) hC dX10_carries_9 (v := 1) rfl ?_
    refine a_goto (pc := 10) (tgt := 14) hC dX10_carries_10 (by decide) ?_
    exact (tJX10_carries_14 hX P hR hC hE _ _ _ _ h).forget ⟨rfl, rfl, rfl, trivial⟩
set_option maxRecDepth 20000 in
theorem t_X10_carry {l : Launch} {g : aG} (hX : isM g) (hl : l.stackTraces = false) (x1 : Int32) (x2 : Int32) (q : aS) (P : Int32 → aS → Prop) (h : w_X10_carry x1 x2 q P) : aMi l g yX10_carry (aWs yX10_carry cX10_carry 3 (some .int)) 3 0 0 [.ref (gAd g 0), .int x1, .int x2] q P (fun _ _ => False) := by
  refine aMi_of RX10 ⟨by decide +kernel, rfl⟩ (cat_all rfl) (Nat.le_of_ble_eq_true rfl) hl hX.cl (fun f hR hC hE => ?_)
  show AW f g 0 [some (.ref (gAd g 0)), some (.int x1), some (.int x2)] [] q 0 0
  unfold w_X10_carry at h
  refine a_aload_n (pc := 0) hC dX10_carry_0 rfl ?_
  refine a_callVv (pc := 1) hC hR vm_X10_begins tw_1608 cl_X10 (oM_0 hX) ⟨(Nat.le_of_ble_eq_true rfl), (Nat.le_of_ble_eq_true rfl), (Nat.le_of_ble_eq_true rfl), (Nat.le_of_ble_eq_true rfl)⟩ dX10_carry_1 (t_X10_begins hX hC.tr _ _ h) rfl rfl rfl (Nat.le_of_ble_eq_true rfl) (fun q4 h => ?_)
  refine a_aload_n (pc := 4) hC dX10_carry_4 rfl ?_
  refine a_aload_n (pc := 5) hC dX10_carry_5 rfl ?_
  refine a_iload_n (pc := 6) hC dX10_carry_6 rfl ?_
  refine a_iload_n (pc := 7) hC dX10_carry_7 rfl ?_
  refine a_callV (pc := 8) hC hR vm_X10_carries tw_1698 cl_X10 (oM_0 hX) ⟨(Nat.le_of_ble_eq_true rfl), (Nat.le_of_ble_eq_true rfl), (Nat.le_of_ble_eq_true rfl), (Nat.le_of_ble_eq_true rfl)⟩ dX10_carry_8 (t_X10_carries hX hC.tr _ _ _ _ h) rfl rfl rfl (Nat.le_of_ble_eq_true rfl) (fun r5 q6 h => ?_)
  refine a_callV (pc := 11) hC hR vm_X10_ends tw_1623 cl_X10 (oM_0 hX) ⟨(Nat.le_of_ble_eq_true rfl), (Nat.le_of_ble_eq_true rfl), (Nat.le_of_ble_eq_true rfl), (Nat.le_of_ble_eq_true rfl)⟩ dX10_carry_11 (t_X10_ends hX hC.tr _ _ _ h) rfl rfl rfl (Nat.le_of_ble_eq_true rfl) (fun r7 q8 h => ?_)
  exact a_iret (pc := 14) hC hE h (Nat.le_of_ble_eq_true rfl) (Nat.le_of_ble_eq_true rfl) dX10_carry_14
set_option maxRecDepth 20000 in
theorem tJX10_asksEcho_77 {f : aF} {g : aG} (hX : isM g) (P : Int32 → aS → Prop) (hR : f_R f = aR 1 0 0) (hC : aOK f g cX10_asksEcho 6 RX10) (hE : aEv f g P (fun _ _ => False) 0 0) (j2 : Int32) (j4 : Int32) (j5 : Int32) (s0 : Int32) (q : aS) (h : JX10_asksEcho_77 j2 j4 j5 s0 P q) : AW f g 77 [some (.ref (gAd g 0)), none, some (.int j2), none, some (.int j4), some (.int j5)] [.int s0, .ref (gAd g 0)] q 0 0 := by
  unfold JX10_asksEcho_77 at h
  refine a_bipush (pc := 77) hC dX10_asksEcho_77 (v := 8) rfl ?_
  refine a_iload (pc := 79) hC dX10_asksEcho_79 rfl ?_
  refine a_callVv (pc := 81) hC hR vm_X10_hinders tw_1616 cl_X10 (oM_0 hX) ⟨(Nat.le_of_ble_eq_true rfl), (Nat.le_of_ble_eq_true rfl), (Nat.le_of_ble_eq_true rfl), (Nat.le_of_ble_eq_true rfl)⟩ dX10_asksEcho_81 (t_X10_hinders hX hC.tr _ _ _ _ _ h) rfl rfl rfl (Nat.le_of_ble_eq_true rfl) (fun q17 h => ?_)
  refine a_aload_n (pc := 84) hC dX10_asksEcho_84 rfl ?_
  refine a_iload (pc := 85) hC dX10_asksEcho_85 rfl ?_
  refine a_aload_n (pc := 87) hC dX10_asksEcho_87 rfl ?_
  refine a_get (pc := 88) hC cl_X10 (oM_0 hX) 0 (by decide) tw_1504 rfl dX10_asksEcho_88 ?_
  refine a_iload_n (pc := 91) hC dX10_asksEcho_91 rfl ?_
  refine a_callS (pc := 92) hC hR sm_X10_echoAt tw_1647 ⟨(Nat.le_of_ble_eq_true rfl), (Nat.le_of_ble_eq_true rfl), (Nat.le_of_ble_eq_true rfl), (Nat.le_of_ble_eq_true rfl)⟩ dX10_asksEcho_92 (t_X10_echoAt hX hC.tr _ _ _ h) rfl rfl rfl (Nat.le_of_ble_eq_true rfl) (fun r18 q19 h => ?_)
  refine a_iconst (pc := 95) hC dX10_asksEcho_95 (v := 1) rfl ?_
  refine a_iadd (pc := 96) hC dX10_asksEcho_96 ?_
  refine a_iald (pc := 97) hC (oM_1 hX) h.1 dX10_asksEcho_97 ?_
  replace h := h.2
  refine a_icmp_ge (pc := 98) (tgt := 105) hC dX10_asksEcho_98 (by decide) (fun c => ?_) (fun c => ?_)
  · replace h := h.1 c
    refine a_iconst (pc := 105) hC dX10_asksEcho_105 (v := 0) rfl ?_
    refine a_bipush (pc := 106) hC dX10_asksEcho_106 (v := 9) rfl ?_
    refine a_iload (pc := 108) hC dX10_asksEcho_108 rfl ?_
    refine a_callVv (pc := 110) hC hR vm_X10_hinders tw_1616 cl_X10 (oM_0 hX) ⟨(Nat.le_of_ble_eq_true rfl), (Nat.le_of_ble_eq_true rfl), (Nat.le_of_ble_eq_true rfl), (Nat.le_of_ble_eq_true rfl)⟩ dX10_asksEcho_110 (t_X10_hinders hX hC.tr _ _ _ _ _ h) rfl rfl rfl (Nat.le_of_ble_eq_true rfl) (fun q21 h => ?_)
    exact a_vret (pc := 113) hC hE h (Nat.le_of_ble_eq_true rfl) (Nat.le_of_ble_eq_true rfl) dX10_asksEcho_113
  · replace h := h.2 c
    refine a_iconst (pc := 101) hC dX10_asksEcho_101 (v := 1) rfl ?_
    refine a_goto (pc := 102) (tgt := 106) hC dX10_asksEcho_102 (by decide) ?_
    refine a_bipush (pc := 106) hC dX10_asksEcho_106 (v := 9) rfl ?_
    refine a_iload (pc := 108) hC dX10_asksEcho_108 rfl ?_
    refine a_callVv (pc := 110) hC hR vm_X10_hinders tw_1616 cl_X10 (oM_0 hX) ⟨(Nat.le_of_ble_eq_true rfl), (Nat.le_of_ble_eq_true rfl), (Nat.le_of_ble_eq_true rfl), (Nat.le_of_ble_eq_true rfl)⟩ dX10_asksEcho_110 (t_X10_hinders hX hC.tr _ _ _ _ _ h) rfl rfl rfl (Nat.le_of_ble_eq_true rfl) (fun q23 h => ?_)
    exact a_vret (pc := 113) hC hE h (Nat.le_of_ble_eq_true rfl) (Nat.le_of_ble_eq_true rfl) dX10_asksEcho_113
set_option maxRecDepth 20000 in
theorem tJX10_asksEcho_49 {f : aF} {g : aG} (hX : isM g) (P : Int32 → aS → Prop) (hR : f_R f = aR 1 0 0) (hC : aOK f g cX10_asksEcho 6 RX10) (hE : aEv f g P (fun _ _ => False) 0 0) (j1 : Int32) (j2 : Int32) (j3 : Int32) (j4 : Int32) (j5 : Int32) (s0 : Int32) (q : aS) (h : JX10_asksEcho_49 j1 j2 j3 j4 j5 s0 P q) : AW f g 49 [some (.ref (gAd g 0)), some (.int j1), some (.int j2), some (.int j3), some (.int j4), some (.int j5)] [.int s0, .ref (gAd g 0)] q 0 0 := by
  unfold JX10_asksEcho_49 at h
  refine a_bipush (pc := 49) hC dX10_asksEcho_49 (v := 7) rfl ?_
  refine a_iload_n (pc := 51) hC dX10_asksEcho_51 rfl ?_
  refine a_callVv (pc := 52) hC hR vm_X10_hinders tw_1616 cl_X10 (oM_0 hX) ⟨(Nat.le_of_ble_eq_true rfl), (Nat.le_of_ble_eq_true rfl), (Nat.le_of_ble_eq_true rfl), (Nat.le_of_ble_eq_true rfl)⟩ dX10_asksEcho_52 (t_X10_hinders hX hC.tr _ _ _ _ _ h) rfl rfl rfl (Nat.le_of_ble_eq_true rfl) (fun q13 h => ?_)
  refine a_aload_n (pc := 55) hC dX10_asksEcho_55 rfl ?_
  refine a_aload_n (pc := 56) hC dX10_asksEcho_56 rfl ?_
  refine a_get (pc := 57) hC cl_X10 (oM_0 hX) 0 (by decide) tw_1504 rfl dX10_asksEcho_57 ?_
  refine a_iload_n (pc := 60) hC dX10_asksEcho_60 rfl ?_
  refine a_callS (pc := 61) hC hR sm_X10_singerAt tw_1658 ⟨(Nat.le_of_ble_eq_true rfl), (Nat.le_of_ble_eq_true rfl), (Nat.le_of_ble_eq_true rfl), (Nat.le_of_ble_eq_true rfl)⟩ dX10_asksEcho_61 (t_X10_singerAt hX hC.tr _ _ _ h) rfl rfl rfl (Nat.le_of_ble_eq_true rfl) (fun r14 q15 h => ?_)
  refine a_iconst (pc := 64) hC dX10_asksEcho_64 (v := 2) rfl ?_
  refine a_iadd (pc := 65) hC dX10_asksEcho_65 ?_
  refine a_iald (pc := 66) hC (oM_1 hX) h.1 dX10_asksEcho_66 ?_
  replace h := h.2
  refine a_iload (pc := 67) hC dX10_asksEcho_67 rfl ?_
  refine a_icmp_eq (pc := 69) (tgt := 76) hC dX10_asksEcho_69 (by decide) (fun c => ?_) (fun c => ?_)
  · replace h := h.1 c
    refine a_iconst (pc := 76) hC dX10_asksEcho_76 (v := 0) rfl ?_
    exact (tJX10_asksEcho_77 hX P hR hC hE _ _ _ _ _ h).forget ⟨rfl, rfl, rfl, rfl, trivial⟩
  · replace h := h.2 c
    refine a_iconst (pc := 72) hC dX10_asksEcho_72 (v := 1) rfl ?_
    refine a_goto (pc := 73) (tgt := 77) hC dX10_asksEcho_73 (by decide) ?_
    exact (tJX10_asksEcho_77 hX P hR hC hE _ _ _ _ _ h).forget ⟨rfl, rfl, rfl, rfl, trivial⟩
set_option maxRecDepth 20000 in
theorem t_X10_asksEcho {l : Launch} {g : aG} (hX : isM g) (hl : l.stackTraces = false) (x1 : Int32) (x2 : Int32) (q : aS) (P : Int32 → aS → Prop) (h : w_X10_asksEcho x1 x2 q P) : aMv l g yX10_asksEcho (aWs yX10_asksEcho cX10_asksEcho 6 none) 1 0 0 [.ref (gAd g 0), .int x1, .int x2] q P (fun _ _ => False) := by
  refine aMv_of RX10 ⟨by decide +kernel, rfl⟩ (cat_all rfl) (Nat.le_of_ble_eq_true rfl) hl hX.cl (fun f hR hC hE => ?_)
  show AW f g 0 [some (.ref (gAd g 0)), some (.int x1), some (.int x2), none, none, none] [] q 0 0
  unfold w_X10_asksEcho at h
  refine a_aload_n (pc := 0) hC dX10_asksEcho_0 rfl ?_
  refine a_get (pc := 1) hC cl_X10 (oM_0 hX) 0 (by decide) tw_1504 rfl dX10_asksEcho_1 ?_
  refine a_iload_n (pc := 4) hC dX10_asksEcho_4 rfl ?_
  refine a_callS (pc := 5) hC hR sm_X10_echoAt tw_1647 ⟨(Nat.le_of_ble_eq_true rfl), (Nat.le_of_ble_eq_true rfl), (Nat.le_of_ble_eq_true rfl), (Nat.le_of_ble_eq_true rfl)⟩ dX10_asksEcho_5 (t_X10_echoAt hX hC.tr _ _ _ h) rfl rfl rfl (Nat.le_of_ble_eq_true rfl) (fun r3 q4 h => ?_)
  refine a_iconst (pc := 8) hC dX10_asksEcho_8 (v := 2) rfl ?_
  refine a_iadd (pc := 9) hC dX10_asksEcho_9 ?_
  refine a_iald (pc := 10) hC (oM_1 hX) h.1 dX10_asksEcho_10 ?_
  replace h := h.2
  refine a_istore_n (pc := 11) hC dX10_asksEcho_11 (Nat.le_of_ble_eq_true rfl) ?_
  replace h := h _ rfl
  refine a_aload_n (pc := 12) hC dX10_asksEcho_12 rfl ?_
  refine a_get (pc := 13) hC cl_X10 (oM_0 hX) 0 (by decide) tw_1504 rfl dX10_asksEcho_13 ?_
  refine a_iload_n (pc := 16) hC dX10_asksEcho_16 rfl ?_
  refine a_callS (pc := 17) hC hR sm_X10_echoAt tw_1647 ⟨(Nat.le_of_ble_eq_true rfl), (Nat.le_of_ble_eq_true rfl), (Nat.le_of_ble_eq_true rfl), (Nat.le_of_ble_eq_true rfl)⟩ dX10_asksEcho_17 (t_X10_echoAt hX hC.tr _ _ _ h) rfl rfl rfl (Nat.le_of_ble_eq_true rfl) (fun r6 q7 h => ?_)
  refine a_iconst (pc := 20) hC dX10_asksEcho_20 (v := 0) rfl ?_
  refine a_iadd (pc := 21) hC dX10_asksEcho_21 ?_
  refine a_iald (pc := 22) hC (oM_1 hX) h.1 dX10_asksEcho_22 ?_
  replace h := h.2
  refine a_istore (pc := 23) hC dX10_asksEcho_23 (Nat.le_of_ble_eq_true rfl) ?_
  replace h := h _ rfl
  refine a_aload_n (pc := 25) hC dX10_asksEcho_25 rfl ?_
  refine a_get (pc := 26) hC cl_X10 (oM_0 hX) 0 (by decide) tw_1504 rfl dX10_asksEcho_26 ?_
  refine a_iload_n (pc := 29) hC dX10_asksEcho_29 rfl ?_
  refine a_callS (pc := 30) hC hR sm_X10_singerAt tw_1658 ⟨(Nat.le_of_ble_eq_true rfl), (Nat.le_of_ble_eq_true rfl), (Nat.le_of_ble_eq_true rfl), (Nat.le_of_ble_eq_true rfl)⟩ dX10_asksEcho_30 (t_X10_singerAt hX hC.tr _ _ _ h) rfl rfl rfl (Nat.le_of_ble_eq_true rfl) (fun r9 q10 h => ?_)
  refine a_iconst (pc := 33) hC dX10_asksEcho_33 (v := 1) rfl ?_
  refine a_iadd (pc := 34) hC dX10_asksEcho_34 ?_
  refine a_iald (pc := 35) hC (oM_1 hX) h.1 dX10_asksEcho_35 ?_
  replace h := h.2
  refine a_istore (pc := 36) hC dX10_asksEcho_36 (Nat.le_of_ble_eq_true rfl) ?_
  replace h := h _ rfl
  refine a_aload_n (pc := 38) hC dX10_asksEcho_38 rfl ?_
  refine a_iload_n (pc := 39) hC dX10_asksEcho_39 rfl ?_
  refine a_iconst (pc := 40) hC dX10_asksEcho_40 (v := (-1)) rfl ?_
  refine a_icmp_eq (pc := 41) (tgt := 48) hC dX10_asksEcho_41 (by decide) (fun c => ?_) (fun c => ?_)
  · replace h := h.1 c
    refine a_iconst (pc := 48) hC dX10_asksEcho_48 (v := 0) rfl ?_
    exact (tJX10_asksEcho_49 hX P hR hC hE _ _ _ _ _ _ _ h).forget ⟨rfl, rfl, rfl, rfl, rfl, rfl, trivial⟩
  · replace h := h.2 c
    refine a_iconst (pc := 44) hC dX10_asksEcho_44 (v := 1) rfl ?_
    refine a_goto (pc := 45) (tgt := 49) hC dX10_asksEcho_45 (by decide) ?_
    exact (tJX10_asksEcho_49 hX P hR hC hE _ _ _ _ _ _ _ h).forget ⟨rfl, rfl, rfl, rfl, rfl, rfl, trivial⟩
set_option maxRecDepth 20000 in
theorem tJX10_rents_72 {f : aF} {g : aG} (hX : isM g) (P : Int32 → aS → Prop) (hR : f_R f = aR 2 0 0) (hC : aOK f g cX10_rents 5 RX10) (hE : aEi f g .int P (fun _ _ => False) 0 0) (j1 : Int32) (j2 : Int32) (j3 : Int32) (q : aS) (h : JX10_rents_72 j1 j2 j3 P q) : AW f g 72 [some (.ref (gAd g 0)), some (.int j1), some (.int j2), some (.int j3), none] [] q 0 0 := by
  unfold JX10_rents_72 at h
  refine a_aload_n (pc := 72) hC dX10_rents_72 rfl ?_
  refine a_get (pc := 73) hC cl_X10 (oM_0 hX) 16 (by decide) tw_1520 rfl dX10_rents_73 ?_
  refine a_if_eq (pc := 76) (tgt := 81) hC dX10_rents_76 (by decide) (fun c => ?_) (fun c => ?_)
  · replace h := h.1 c
    refine a_aload_n (pc := 81) hC dX10_rents_81 rfl ?_
    refine a_get (pc := 82) hC cl_X10 (oM_0 hX) 0 (by decide) tw_1504 rfl dX10_rents_82 ?_
    refine a_iload_n (pc := 85) hC dX10_rents_85 rfl ?_
    refine a_callS (pc := 86) hC hR sm_X10_echoAt tw_1647 ⟨(Nat.le_of_ble_eq_true rfl), (Nat.le_of_ble_eq_true rfl), (Nat.le_of_ble_eq_true rfl), (Nat.le_of_ble_eq_true rfl)⟩ dX10_rents_86 (t_X10_echoAt hX hC.tr _ _ _ h) rfl rfl rfl (Nat.le_of_ble_eq_true rfl) (fun r16 q17 h => ?_)
    refine a_iconst (pc := 89) hC dX10_rents_89 (v := 1) rfl ?_
    refine a_iadd (pc := 90) hC dX10_rents_90 ?_
    refine a_iald (pc := 91) hC (oM_1 hX) h.1 dX10_rents_91 ?_
    replace h := h.2
    refine a_istore (pc := 92) hC dX10_rents_92 (Nat.le_of_ble_eq_true rfl) ?_
    replace h := h _ rfl
    refine a_aload_n (pc := 94) hC dX10_rents_94 rfl ?_
    refine a_get (pc := 95) hC cl_X10 (oM_0 hX) 0 (by decide) tw_1504 rfl dX10_rents_95 ?_
    refine a_iload_n (pc := 98) hC dX10_rents_98 rfl ?_
    refine a_callS (pc := 99) hC hR sm_X10_echoAt tw_1647 ⟨(Nat.le_of_ble_eq_true rfl), (Nat.le_of_ble_eq_true rfl), (Nat.le_of_ble_eq_true rfl), (Nat.le_of_ble_eq_true rfl)⟩ dX10_rents_99 (t_X10_echoAt hX hC.tr _ _ _ h) rfl rfl rfl (Nat.le_of_ble_eq_true rfl) (fun r19 q20 h => ?_)
    refine a_iconst (pc := 102) hC dX10_rents_102 (v := 2) rfl ?_
    refine a_iadd (pc := 103) hC dX10_rents_103 ?_
    refine a_iload_n (pc := 104) hC dX10_rents_104 rfl ?_
    refine a_iast (pc := 105) hC (oM_1 hX) h.1 dX10_rents_105 ?_
    replace h := h.2
    replace h := h _ rfl
    refine a_aload_n (pc := 106) hC dX10_rents_106 rfl ?_
    refine a_get (pc := 107) hC cl_X10 (oM_0 hX) 0 (by decide) tw_1504 rfl dX10_rents_107 ?_
    refine a_iload_n (pc := 110) hC dX10_rents_110 rfl ?_
    refine a_callS (pc := 111) hC hR sm_X10_echoAt tw_1647 ⟨(Nat.le_of_ble_eq_true rfl), (Nat.le_of_ble_eq_true rfl), (Nat.le_of_ble_eq_true rfl), (Nat.le_of_ble_eq_true rfl)⟩ dX10_rents_111 (t_X10_echoAt hX hC.tr _ _ _ h) rfl rfl rfl (Nat.le_of_ble_eq_true rfl) (fun r22 q23 h => ?_)
    refine a_iconst (pc := 114) hC dX10_rents_114 (v := 3) rfl ?_
    refine a_iadd (pc := 115) hC dX10_rents_115 ?_
    refine a_iload_n (pc := 116) hC dX10_rents_116 rfl ?_
    refine a_iast (pc := 117) hC (oM_1 hX) h.1 dX10_rents_117 ?_
    replace h := h.2
    replace h := h _ rfl
    refine a_aload_n (pc := 118) hC dX10_rents_118 rfl ?_
    refine a_get (pc := 119) hC cl_X10 (oM_0 hX) 0 (by decide) tw_1504 rfl dX10_rents_119 ?_
    refine a_iload_n (pc := 122) hC dX10_rents_122 rfl ?_
    refine a_callS (pc := 123) hC hR sm_X10_singerAt tw_1658 ⟨(Nat.le_of_ble_eq_true rfl), (Nat.le_of_ble_eq_true rfl), (Nat.le_of_ble_eq_true rfl), (Nat.le_of_ble_eq_true rfl)⟩ dX10_rents_123 (t_X10_singerAt hX hC.tr _ _ _ h) rfl rfl rfl (Nat.le_of_ble_eq_true rfl) (fun r25 q26 h => ?_)
    refine a_iconst (pc := 126) hC dX10_rents_126 (v := 1) rfl ?_
    refine a_iadd (pc := 127) hC dX10_rents_127 ?_
    refine a_dup2 (pc := 128) hC dX10_rents_128 rfl rfl ?_
    refine a_iald (pc := 129) hC (oM_1 hX) h.1 dX10_rents_129 ?_
    replace h := h.2
    refine a_iload (pc := 130) hC dX10_rents_130 rfl ?_
    refine a_isub (pc := 132) hC dX10_rents_132 ?_
    refine a_iast (pc := 133) hC (oM_1 hX) h.1 dX10_rents_133 ?_
    replace h := h.2
    replace h := h _ rfl
    refine a_aload_n (pc := 134) hC dX10_rents_134 rfl ?_
    refine a_get (pc := 135) hC cl_X10 (oM_0 hX) 0 (by decide) tw_1504 rfl dX10_rents_135 ?_
    refine a_bipush (pc := 138) hC dX10_rents_138 (v := 6) rfl ?_
    refine a_dup2 (pc := 140) hC dX10_rents_140 rfl rfl ?_
    refine a_iald (pc := 141) hC (oM_1 hX) h.1 dX10_rents_141 ?_
    replace h := h.2
    refine a_iload (pc := 142) hC dX10_rents_142 rfl ?_
    refine a_iadd (pc := 144) hC dX10_rents_144 ?_
    refine a_iast (pc := 145) hC (oM_1 hX) h.1 dX10_rents_145 ?_
    replace h := h.2
    replace h := h _ rfl
    refine a_iload (pc := 146) hC dX10_rents_146 rfl ?_
    exact a_iret (pc := 148) hC hE h (Nat.le_of_ble_eq_true rfl) (Nat.le_of_ble_eq_true rfl) dX10_rents_148
  · replace h := h.2 c
    refine a_iconst (pc := 79) hC dX10_rents_79 (v := 0) rfl ?_
    exact a_iret (pc := 80) hC hE h (Nat.le_of_ble_eq_true rfl) (Nat.le_of_ble_eq_true rfl) dX10_rents_80
set_option maxRecDepth 20000 in
theorem tJX10_rents_54 {f : aF} {g : aG} (hX : isM g) (P : Int32 → aS → Prop) (hR : f_R f = aR 2 0 0) (hC : aOK f g cX10_rents 5 RX10) (hE : aEi f g .int P (fun _ _ => False) 0 0) (j1 : Int32) (j2 : Int32) (j3 : Int32) (s0 : Int32) (q : aS) (h : JX10_rents_54 j1 j2 j3 s0 P q) : AW f g 54 [some (.ref (gAd g 0)), some (.int j1), some (.int j2), some (.int j3), none] [.int s0, .ref (gAd g 0)] q 0 0 := by
  unfold JX10_rents_54 at h
  refine a_iconst (pc := 54) hC dX10_rents_54 (v := 3) rfl ?_
  refine a_iload_n (pc := 55) hC dX10_rents_55 rfl ?_
  refine a_callVv (pc := 56) hC hR vm_X10_hinders tw_1616 cl_X10 (oM_0 hX) ⟨(Nat.le_of_ble_eq_true rfl), (Nat.le_of_ble_eq_true rfl), (Nat.le_of_ble_eq_true rfl), (Nat.le_of_ble_eq_true rfl)⟩ dX10_rents_56 (t_X10_hinders hX hC.tr _ _ _ _ _ h) rfl rfl rfl (Nat.le_of_ble_eq_true rfl) (fun q15 h => ?_)
  refine a_aload_n (pc := 59) hC dX10_rents_59 rfl ?_
  refine a_get (pc := 60) hC cl_X10 (oM_0 hX) 16 (by decide) tw_1520 rfl dX10_rents_60 ?_
  refine a_if_ne (pc := 63) (tgt := 72) hC dX10_rents_63 (by decide) (fun c => ?_) (fun c => ?_)
  · replace h := h.1 c
    exact (tJX10_rents_72 hX P hR hC hE _ _ _ _ h).forget ⟨rfl, rfl, rfl, rfl, trivial⟩
  · replace h := h.2 c
    refine a_aload_n (pc := 66) hC dX10_rents_66 rfl ?_
    refine a_iload_n (pc := 67) hC dX10_rents_67 rfl ?_
    refine a_iload_n (pc := 68) hC dX10_rents_68 rfl ?_
    refine a_callVv (pc := 69) hC hR vm_X10_asksEcho tw_1714 cl_X10 (oM_0 hX) ⟨(Nat.le_of_ble_eq_true rfl), (Nat.le_of_ble_eq_true rfl), (Nat.le_of_ble_eq_true rfl), (Nat.le_of_ble_eq_true rfl)⟩ dX10_rents_69 (t_X10_asksEcho hX hC.tr _ _ _ _ h) rfl rfl rfl (Nat.le_of_ble_eq_true rfl) (fun q30 h => ?_)
    exact (tJX10_rents_72 hX P hR hC hE _ _ _ _ h).forget ⟨rfl, rfl, rfl, rfl, trivial⟩
set_option maxRecDepth 20000 in
theorem tJX10_rents_33 {f : aF} {g : aG} (hX : isM g) (P : Int32 → aS → Prop) (hR : f_R f = aR 2 0 0) (hC : aOK f g cX10_rents 5 RX10) (hE : aEi f g .int P (fun _ _ => False) 0 0) (j1 : Int32) (j2 : Int32) (j3 : Int32) (s0 : Int32) (q : aS) (h : JX10_rents_33 j1 j2 j3 s0 P q) : AW f g 33 [some (.ref (gAd g 0)), some (.int j1), some (.int j2), some (.int j3), none] [.int s0, .ref (gAd g 0)] q 0 0 := by
  unfold JX10_rents_33 at h
  refine a_iconst (pc := 33) hC dX10_rents_33 (v := 2) rfl ?_
  refine a_iload_n (pc := 34) hC dX10_rents_34 rfl ?_
  refine a_callVv (pc := 35) hC hR vm_X10_hinders tw_1616 cl_X10 (oM_0 hX) ⟨(Nat.le_of_ble_eq_true rfl), (Nat.le_of_ble_eq_true rfl), (Nat.le_of_ble_eq_true rfl), (Nat.le_of_ble_eq_true rfl)⟩ dX10_rents_35 (t_X10_hinders hX hC.tr _ _ _ _ _ h) rfl rfl rfl (Nat.le_of_ble_eq_true rfl) (fun q11 h => ?_)
  refine a_aload_n (pc := 38) hC dX10_rents_38 rfl ?_
  refine a_iload_n (pc := 39) hC dX10_rents_39 rfl ?_
  refine a_iconst (pc := 40) hC dX10_rents_40 (v := 1) rfl ?_
  refine a_bipush (pc := 41) hC dX10_rents_41 (v := 9) rfl ?_
  refine a_callS (pc := 43) hC hR sm_X10_isIn tw_1582 ⟨(Nat.le_of_ble_eq_true rfl), (Nat.le_of_ble_eq_true rfl), (Nat.le_of_ble_eq_true rfl), (Nat.le_of_ble_eq_true rfl)⟩ dX10_rents_43 (t_X10_isIn hX hC.tr _ _ _ _ _ h) rfl rfl rfl (Nat.le_of_ble_eq_true rfl) (fun r12 q13 h => ?_)
  have z_r12 := h.1
  replace h := h.2
  refine a_if_ne (pc := 46) (tgt := 53) hC dX10_rents_46 (by decide) (fun c => ?_) (fun c => ?_)
  · replace h := h.1 c
    refine a_iconst (pc := 53) hC dX10_rents_53 (v := 0) rfl ?_
    exact (tJX10_rents_54 hX P hR hC hE _ _ _ _ _ h).forget ⟨rfl, rfl, rfl, rfl, trivial⟩
  · replace h := h.2 c
    refine a_iconst (pc := 49) hC dX10_rents_49 (v := 1) rfl ?_
    refine a_goto (pc := 50) (tgt := 54) hC dX10_rents_50 (by decide) ?_
    exact (tJX10_rents_54 hX P hR hC hE _ _ _ _ _ h).forget ⟨rfl, rfl, rfl, rfl, trivial⟩
set_option maxRecDepth 20000 in
theorem tJX10_rents_14 {f : aF} {g : aG} (hX : isM g) (P : Int32 → aS → Prop) (hR : f_R f = aR 2 0 0) (hC : aOK f g cX10_rents 5 RX10) (hE : aEi f g .int P (fun _ _ => False) 0 0) (j1 : Int32) (j2 : Int32) (j3 : Int32) (s0 : Int32) (q : aS) (h : JX10_rents_14 j1 j2 j3 s0 P q) : AW f g 14 [some (.ref (gAd g 0)), some (.int j1), some (.int j2), some (.int j3), none] [.int s0, .ref (gAd g 0)] q 0 0 := by
  unfold JX10_rents_14 at h
  refine a_iconst (pc := 14) hC dX10_rents_14 (v := 2) rfl ?_
  refine a_iload_n (pc := 15) hC dX10_rents_15 rfl ?_
  refine a_callVv (pc := 16) hC hR vm_X10_hinders tw_1616 cl_X10 (oM_0 hX) ⟨(Nat.le_of_ble_eq_true rfl), (Nat.le_of_ble_eq_true rfl), (Nat.le_of_ble_eq_true rfl), (Nat.le_of_ble_eq_true rfl)⟩ dX10_rents_16 (t_X10_hinders hX hC.tr _ _ _ _ _ h) rfl rfl rfl (Nat.le_of_ble_eq_true rfl) (fun q7 h => ?_)
  refine a_aload_n (pc := 19) hC dX10_rents_19 rfl ?_
  refine a_aload_n (pc := 20) hC dX10_rents_20 rfl ?_
  refine a_iload_n (pc := 21) hC dX10_rents_21 rfl ?_
  refine a_callV (pc := 22) hC hR vm_X10_isEcho tw_1702 cl_X10 (oM_0 hX) ⟨(Nat.le_of_ble_eq_true rfl), (Nat.le_of_ble_eq_true rfl), (Nat.le_of_ble_eq_true rfl), (Nat.le_of_ble_eq_true rfl)⟩ dX10_rents_22 (t_X10_isEcho hX hC.tr _ _ _ h) rfl rfl rfl (Nat.le_of_ble_eq_true rfl) (fun r8 q9 h => ?_)
  have z_r8 := h.1
  replace h := h.2
  refine a_if_ne (pc := 25) (tgt := 32) hC dX10_rents_25 (by decide) (fun c => ?_) (fun c => ?_)
  · replace h := h.1 c
    refine a_iconst (pc := 32) hC dX10_rents_32 (v := 0) rfl ?_
    exact (tJX10_rents_33 hX P hR hC hE _ _ _ _ _ h).forget ⟨rfl, rfl, rfl, rfl, trivial⟩
  · replace h := h.2 c
    refine a_iconst (pc := 28) hC dX10_rents_28 (v := 1) rfl ?_
    refine a_goto (pc := 29) (tgt := 33) hC dX10_rents_29 (by decide) ?_
    exact (tJX10_rents_33 hX P hR hC hE _ _ _ _ _ h).forget ⟨rfl, rfl, rfl, rfl, trivial⟩
set_option maxRecDepth 20000 in
theorem t_X10_rents {l : Launch} {g : aG} (hX : isM g) (hl : l.stackTraces = false) (x1 : Int32) (x2 : Int32) (x3 : Int32) (q : aS) (P : Int32 → aS → Prop) (h : w_X10_rents x1 x2 x3 q P) : aMi l g yX10_rents (aWs yX10_rents cX10_rents 5 (some .int)) 2 0 0 [.ref (gAd g 0), .int x1, .int x2, .int x3] q P (fun _ _ => False) := by
  refine aMi_of RX10 ⟨by decide +kernel, rfl⟩ (cat_all rfl) (Nat.le_of_ble_eq_true rfl) hl hX.cl (fun f hR hC hE => ?_)
  show AW f g 0 [some (.ref (gAd g 0)), some (.int x1), some (.int x2), some (.int x3), none] [] q 0 0
  unfold w_X10_rents at h
  refine a_aload_n (pc := 0) hC dX10_rents_0 rfl ?_
  refine a_aload_n (pc := 1) hC dX10_rents_1 rfl ?_
  refine a_iload_n (pc := 2) hC dX10_rents_2 rfl ?_
  refine a_callV (pc := 3) hC hR vm_X10_isSinger tw_1669 cl_X10 (oM_0 hX) ⟨(Nat.le_of_ble_eq_true rfl), (Nat.le_of_ble_eq_true rfl), (Nat.le_of_ble_eq_true rfl), (Nat.le_of_ble_eq_true rfl)⟩ dX10_rents_3 (t_X10_isSinger hX hC.tr _ _ _ h) rfl rfl rfl (Nat.le_of_ble_eq_true rfl) (fun r4 q5 h => ?_)
  have z_r4 := h.1
  replace h := h.2
  refine a_if_ne (pc := 6) (tgt := 13) hC dX10_rents_6 (by decide) (fun c => ?_) (fun c => ?_)
  · replace h := h.1 c
    refine a_iconst (pc := 13) hC dX10_rents_13 (v := 0) rfl ?_
    exact (tJX10_rents_14 hX P hR hC hE _ _ _ _ _ h).forget ⟨rfl, rfl, rfl, rfl, trivial⟩
  · replace h := h.2 c
    refine a_iconst (pc := 9) hC dX10_rents_9 (v := 1) rfl ?_
    refine a_goto (pc := 10) (tgt := 14) hC dX10_rents_10 (by decide) ?_
    exact (tJX10_rents_14 hX P hR hC hE _ _ _ _ _ h).forget ⟨rfl, rfl, rfl, rfl, trivial⟩
set_option maxRecDepth 20000 in
theorem t_X10_rent {l : Launch} {g : aG} (hX : isM g) (hl : l.stackTraces = false) (x1 : Int32) (x2 : Int32) (x3 : Int32) (q : aS) (P : Int32 → aS → Prop) (h : w_X10_rent x1 x2 x3 q P) : aMi l g yX10_rent (aWs yX10_rent cX10_rent 4 (some .int)) 3 0 0 [.ref (gAd g 0), .int x1, .int x2, .int x3] q P (fun _ _ => False) := by
  refine aMi_of RX10 ⟨by decide +kernel, rfl⟩ (cat_all rfl) (Nat.le_of_ble_eq_true rfl) hl hX.cl (fun f hR hC hE => ?_)
  show AW f g 0 [some (.ref (gAd g 0)), some (.int x1), some (.int x2), some (.int x3)] [] q 0 0
  unfold w_X10_rent at h
  refine a_aload_n (pc := 0) hC dX10_rent_0 rfl ?_
  refine a_callVv (pc := 1) hC hR vm_X10_begins tw_1608 cl_X10 (oM_0 hX) ⟨(Nat.le_of_ble_eq_true rfl), (Nat.le_of_ble_eq_true rfl), (Nat.le_of_ble_eq_true rfl), (Nat.le_of_ble_eq_true rfl)⟩ dX10_rent_1 (t_X10_begins hX hC.tr _ _ h) rfl rfl rfl (Nat.le_of_ble_eq_true rfl) (fun q5 h => ?_)
  refine a_aload_n (pc := 4) hC dX10_rent_4 rfl ?_
  refine a_aload_n (pc := 5) hC dX10_rent_5 rfl ?_
  refine a_iload_n (pc := 6) hC dX10_rent_6 rfl ?_
  refine a_iload_n (pc := 7) hC dX10_rent_7 rfl ?_
  refine a_iload_n (pc := 8) hC dX10_rent_8 rfl ?_
  refine a_callV (pc := 9) hC hR vm_X10_rents tw_1710 cl_X10 (oM_0 hX) ⟨(Nat.le_of_ble_eq_true rfl), (Nat.le_of_ble_eq_true rfl), (Nat.le_of_ble_eq_true rfl), (Nat.le_of_ble_eq_true rfl)⟩ dX10_rent_9 (t_X10_rents hX hC.tr _ _ _ _ _ h) rfl rfl rfl (Nat.le_of_ble_eq_true rfl) (fun r6 q7 h => ?_)
  refine a_callV (pc := 12) hC hR vm_X10_ends tw_1623 cl_X10 (oM_0 hX) ⟨(Nat.le_of_ble_eq_true rfl), (Nat.le_of_ble_eq_true rfl), (Nat.le_of_ble_eq_true rfl), (Nat.le_of_ble_eq_true rfl)⟩ dX10_rent_12 (t_X10_ends hX hC.tr _ _ _ h) rfl rfl rfl (Nat.le_of_ble_eq_true rfl) (fun r8 q9 h => ?_)
  exact a_iret (pc := 15) hC hE h (Nat.le_of_ble_eq_true rfl) (Nat.le_of_ble_eq_true rfl) dX10_rent_15
set_option maxRecDepth 20000 in
theorem t_X10_stops {l : Launch} {g : aG} (hX : isM g) (hl : l.stackTraces = false) (x1 : Int32) (q : aS) (P : Int32 → aS → Prop) (h : w_X10_stops x1 q P) : aMi l g yX10_stops (aWs yX10_stops cX10_stops 4 (some .int)) 2 0 0 [.ref (gAd g 0), .int x1] q P (fun _ _ => False) := by
  refine aMi_of RX10 ⟨by decide +kernel, rfl⟩ (cat_all rfl) (Nat.le_of_ble_eq_true rfl) hl hX.cl (fun f hR hC hE => ?_)
  show AW f g 0 [some (.ref (gAd g 0)), some (.int x1), none, none] [] q 0 0
  unfold w_X10_stops at h
  refine a_aload_n (pc := 0) hC dX10_stops_0 rfl ?_
  refine a_get (pc := 1) hC cl_X10 (oM_0 hX) 0 (by decide) tw_1504 rfl dX10_stops_1 ?_
  refine a_iload_n (pc := 4) hC dX10_stops_4 rfl ?_
  refine a_callS (pc := 5) hC hR sm_X10_echoAt tw_1647 ⟨(Nat.le_of_ble_eq_true rfl), (Nat.le_of_ble_eq_true rfl), (Nat.le_of_ble_eq_true rfl), (Nat.le_of_ble_eq_true rfl)⟩ dX10_stops_5 (t_X10_echoAt hX hC.tr _ _ _ h) rfl rfl rfl (Nat.le_of_ble_eq_true rfl) (fun r2 q3 h => ?_)
  refine a_iconst (pc := 8) hC dX10_stops_8 (v := 2) rfl ?_
  refine a_iadd (pc := 9) hC dX10_stops_9 ?_
  refine a_iald (pc := 10) hC (oM_1 hX) h.1 dX10_stops_10 ?_
  replace h := h.2
  refine a_istore_n (pc := 11) hC dX10_stops_11 (Nat.le_of_ble_eq_true rfl) ?_
  replace h := h _ rfl
  refine a_aload_n (pc := 12) hC dX10_stops_12 rfl ?_
  refine a_iload_n (pc := 13) hC dX10_stops_13 rfl ?_
  refine a_callV (pc := 14) hC hR vm_X10_worthOf tw_1732 cl_X10 (oM_0 hX) ⟨(Nat.le_of_ble_eq_true rfl), (Nat.le_of_ble_eq_true rfl), (Nat.le_of_ble_eq_true rfl), (Nat.le_of_ble_eq_true rfl)⟩ dX10_stops_14 (t_X10_worthOf hX hC.tr _ _ _ h) rfl rfl rfl (Nat.le_of_ble_eq_true rfl) (fun r5 q6 h => ?_)
  refine a_istore_n (pc := 17) hC dX10_stops_17 (Nat.le_of_ble_eq_true rfl) ?_
  refine a_aload_n (pc := 18) hC dX10_stops_18 rfl ?_
  refine a_get (pc := 19) hC cl_X10 (oM_0 hX) 0 (by decide) tw_1504 rfl dX10_stops_19 ?_
  refine a_iload_n (pc := 22) hC dX10_stops_22 rfl ?_
  refine a_callS (pc := 23) hC hR sm_X10_singerAt tw_1658 ⟨(Nat.le_of_ble_eq_true rfl), (Nat.le_of_ble_eq_true rfl), (Nat.le_of_ble_eq_true rfl), (Nat.le_of_ble_eq_true rfl)⟩ dX10_stops_23 (t_X10_singerAt hX hC.tr _ _ _ h) rfl rfl rfl (Nat.le_of_ble_eq_true rfl) (fun r7 q8 h => ?_)
  refine a_iconst (pc := 26) hC dX10_stops_26 (v := 1) rfl ?_
  refine a_iadd (pc := 27) hC dX10_stops_27 ?_
  refine a_bipush (pc := 28) hC dX10_stops_28 (v := 99) rfl ?_
  refine a_aload_n (pc := 30) hC dX10_stops_30 rfl ?_
  refine a_get (pc := 31) hC cl_X10 (oM_0 hX) 0 (by decide) tw_1504 rfl dX10_stops_31 ?_
  refine a_iload_n (pc := 34) hC dX10_stops_34 rfl ?_
  refine a_callS (pc := 35) hC hR sm_X10_singerAt tw_1658 ⟨(Nat.le_of_ble_eq_true rfl), (Nat.le_of_ble_eq_true rfl), (Nat.le_of_ble_eq_true rfl), (Nat.le_of_ble_eq_true rfl)⟩ dX10_stops_35 (t_X10_singerAt hX hC.tr _ _ _ h) rfl rfl rfl (Nat.le_of_ble_eq_true rfl) (fun r9 q10 h => ?_)
  refine a_iconst (pc := 38) hC dX10_stops_38 (v := 1) rfl ?_
  refine a_iadd (pc := 39) hC dX10_stops_39 ?_
  refine a_iald (pc := 40) hC (oM_1 hX) h.1 dX10_stops_40 ?_
  replace h := h.2
  refine a_iload_n (pc := 41) hC dX10_stops_41 rfl ?_
  refine a_iadd (pc := 42) hC dX10_stops_42 ?_
  refine a_mmin (pc := 43) hC hR ⟨(Nat.le_of_ble_eq_true rfl), (Nat.le_of_ble_eq_true rfl), (Nat.le_of_ble_eq_true rfl)⟩ rfl tw_1726 tw_361 tw_24 tw_362 (Nat.le_of_ble_eq_true rfl) dX10_stops_43 ?_
  refine a_iast (pc := 46) hC (oM_1 hX) h.1 dX10_stops_46 ?_
  replace h := h.2
  replace h := h _ rfl
  refine a_aload_n (pc := 47) hC dX10_stops_47 rfl ?_
  refine a_get (pc := 48) hC cl_X10 (oM_0 hX) 0 (by decide) tw_1504 rfl dX10_stops_48 ?_
  refine a_bipush (pc := 51) hC dX10_stops_51 (v := 7) rfl ?_
  refine a_dup2 (pc := 53) hC dX10_stops_53 rfl rfl ?_
  refine a_iald (pc := 54) hC (oM_1 hX) h.1 dX10_stops_54 ?_
  replace h := h.2
  refine a_iload_n (pc := 55) hC dX10_stops_55 rfl ?_
  refine a_iadd (pc := 56) hC dX10_stops_56 ?_
  refine a_iast (pc := 57) hC (oM_1 hX) h.1 dX10_stops_57 ?_
  replace h := h.2
  replace h := h _ rfl
  refine a_aload_n (pc := 58) hC dX10_stops_58 rfl ?_
  refine a_get (pc := 59) hC cl_X10 (oM_0 hX) 0 (by decide) tw_1504 rfl dX10_stops_59 ?_
  refine a_bipush (pc := 62) hC dX10_stops_62 (v := 8) rfl ?_
  refine a_dup2 (pc := 64) hC dX10_stops_64 rfl rfl ?_
  refine a_iald (pc := 65) hC (oM_1 hX) h.1 dX10_stops_65 ?_
  replace h := h.2
  refine a_aload_n (pc := 66) hC dX10_stops_66 rfl ?_
  refine a_get (pc := 67) hC cl_X10 (oM_0 hX) 0 (by decide) tw_1504 rfl dX10_stops_67 ?_
  refine a_iload_n (pc := 70) hC dX10_stops_70 rfl ?_
  refine a_callS (pc := 71) hC hR sm_X10_echoAt tw_1647 ⟨(Nat.le_of_ble_eq_true rfl), (Nat.le_of_ble_eq_true rfl), (Nat.le_of_ble_eq_true rfl), (Nat.le_of_ble_eq_true rfl)⟩ dX10_stops_71 (t_X10_echoAt hX hC.tr _ _ _ h) rfl rfl rfl (Nat.le_of_ble_eq_true rfl) (fun r13 q14 h => ?_)
  refine a_iconst (pc := 74) hC dX10_stops_74 (v := 1) rfl ?_
  refine a_iadd (pc := 75) hC dX10_stops_75 ?_
  refine a_iald (pc := 76) hC (oM_1 hX) h.1 dX10_stops_76 ?_
  replace h := h.2
  refine a_iload_n (pc := 77) hC dX10_stops_77 rfl ?_
  refine a_isub (pc := 78) hC dX10_stops_78 ?_
  refine a_iadd (pc := 79) hC dX10_stops_79 ?_
  refine a_iast (pc := 80) hC (oM_1 hX) h.1 dX10_stops_80 ?_
  replace h := h.2
  replace h := h _ rfl
  refine a_aload_n (pc := 81) hC dX10_stops_81 rfl ?_
  refine a_get (pc := 82) hC cl_X10 (oM_0 hX) 0 (by decide) tw_1504 rfl dX10_stops_82 ?_
  refine a_iload_n (pc := 85) hC dX10_stops_85 rfl ?_
  refine a_callS (pc := 86) hC hR sm_X10_echoAt tw_1647 ⟨(Nat.le_of_ble_eq_true rfl), (Nat.le_of_ble_eq_true rfl), (Nat.le_of_ble_eq_true rfl), (Nat.le_of_ble_eq_true rfl)⟩ dX10_stops_86 (t_X10_echoAt hX hC.tr _ _ _ h) rfl rfl rfl (Nat.le_of_ble_eq_true rfl) (fun r16 q17 h => ?_)
  refine a_iconst (pc := 89) hC dX10_stops_89 (v := 2) rfl ?_
  refine a_iadd (pc := 90) hC dX10_stops_90 ?_
  refine a_iconst (pc := 91) hC dX10_stops_91 (v := (-1)) rfl ?_
  refine a_iast (pc := 92) hC (oM_1 hX) h.1 dX10_stops_92 ?_
  replace h := h.2
  replace h := h _ rfl
  refine a_aload_n (pc := 93) hC dX10_stops_93 rfl ?_
  refine a_get (pc := 94) hC cl_X10 (oM_0 hX) 0 (by decide) tw_1504 rfl dX10_stops_94 ?_
  refine a_iload_n (pc := 97) hC dX10_stops_97 rfl ?_
  refine a_callS (pc := 98) hC hR sm_X10_echoAt tw_1647 ⟨(Nat.le_of_ble_eq_true rfl), (Nat.le_of_ble_eq_true rfl), (Nat.le_of_ble_eq_true rfl), (Nat.le_of_ble_eq_true rfl)⟩ dX10_stops_98 (t_X10_echoAt hX hC.tr _ _ _ h) rfl rfl rfl (Nat.le_of_ble_eq_true rfl) (fun r19 q20 h => ?_)
  refine a_iconst (pc := 101) hC dX10_stops_101 (v := 3) rfl ?_
  refine a_iadd (pc := 102) hC dX10_stops_102 ?_
  refine a_iconst (pc := 103) hC dX10_stops_103 (v := 0) rfl ?_
  refine a_iast (pc := 104) hC (oM_1 hX) h.1 dX10_stops_104 ?_
  replace h := h.2
  replace h := h _ rfl
  refine a_iload_n (pc := 105) hC dX10_stops_105 rfl ?_
  exact a_iret (pc := 106) hC hE h (Nat.le_of_ble_eq_true rfl) (Nat.le_of_ble_eq_true rfl) dX10_stops_106
set_option maxRecDepth 20000 in
theorem tJX10_gives_75 {f : aF} {g : aG} (hX : isM g) (P : Int32 → aS → Prop) (hR : f_R f = aR 3 0 0) (hC : aOK f g cX10_gives 3 RX10) (hE : aEi f g .int P (fun _ _ => False) 0 0) (j2 : Int32) (s0 : Int32) (q : aS) (h : JX10_gives_75 j2 s0 P q) : AW f g 75 [some (.ref (gAd g 0)), none, some (.int j2)] [.int s0, .ref (gAd g 0)] q 0 0 := by
  unfold JX10_gives_75 at h
  refine a_bipush (pc := 75) hC dX10_gives_75 (v := 11) rfl ?_
  refine a_aload_n (pc := 77) hC dX10_gives_77 rfl ?_
  refine a_get (pc := 78) hC cl_X10 (oM_0 hX) 0 (by decide) tw_1504 rfl dX10_gives_78 ?_
  refine a_iconst (pc := 81) hC dX10_gives_81 (v := 0) rfl ?_
  refine a_bipush (pc := 82) hC dX10_gives_82 (v := 7) rfl ?_
  refine a_iload_n (pc := 84) hC dX10_gives_84 rfl ?_
  refine a_mmin (pc := 85) hC hR ⟨(Nat.le_of_ble_eq_true rfl), (Nat.le_of_ble_eq_true rfl), (Nat.le_of_ble_eq_true rfl)⟩ rfl tw_1726 tw_361 tw_24 tw_362 (Nat.le_of_ble_eq_true rfl) dX10_gives_85 ?_
  refine a_mmax (pc := 88) hC hR ⟨(Nat.le_of_ble_eq_true rfl), (Nat.le_of_ble_eq_true rfl), (Nat.le_of_ble_eq_true rfl)⟩ rfl tw_1727 tw_368 tw_24 tw_369 (Nat.le_of_ble_eq_true rfl) dX10_gives_88 ?_
  refine a_callS (pc := 91) hC hR sm_X10_echoAt tw_1647 ⟨(Nat.le_of_ble_eq_true rfl), (Nat.le_of_ble_eq_true rfl), (Nat.le_of_ble_eq_true rfl), (Nat.le_of_ble_eq_true rfl)⟩ dX10_gives_91 (t_X10_echoAt hX hC.tr _ _ _ h) rfl rfl rfl (Nat.le_of_ble_eq_true rfl) (fun r11 q12 h => ?_)
  refine a_iconst (pc := 94) hC dX10_gives_94 (v := 2) rfl ?_
  refine a_iadd (pc := 95) hC dX10_gives_95 ?_
  refine a_iald (pc := 96) hC (oM_1 hX) h.1 dX10_gives_96 ?_
  replace h := h.2
  refine a_callVv (pc := 97) hC hR vm_X10_hinders tw_1616 cl_X10 (oM_0 hX) ⟨(Nat.le_of_ble_eq_true rfl), (Nat.le_of_ble_eq_true rfl), (Nat.le_of_ble_eq_true rfl), (Nat.le_of_ble_eq_true rfl)⟩ dX10_gives_97 (t_X10_hinders hX hC.tr _ _ _ _ _ h) rfl rfl rfl (Nat.le_of_ble_eq_true rfl) (fun q14 h => ?_)
  refine a_aload_n (pc := 100) hC dX10_gives_100 rfl ?_
  refine a_get (pc := 101) hC cl_X10 (oM_0 hX) 16 (by decide) tw_1520 rfl dX10_gives_101 ?_
  refine a_if_eq (pc := 104) (tgt := 111) hC dX10_gives_104 (by decide) (fun c => ?_) (fun c => ?_)
  · replace h := h.1 c
    refine a_aload_n (pc := 111) hC dX10_gives_111 rfl ?_
    refine a_iload_n (pc := 112) hC dX10_gives_112 rfl ?_
    refine a_callV (pc := 113) hC hR vm_X10_stops tw_1728 cl_X10 (oM_0 hX) ⟨(Nat.le_of_ble_eq_true rfl), (Nat.le_of_ble_eq_true rfl), (Nat.le_of_ble_eq_true rfl), (Nat.le_of_ble_eq_true rfl)⟩ dX10_gives_113 (t_X10_stops hX hC.tr _ _ _ h) rfl rfl rfl (Nat.le_of_ble_eq_true rfl) (fun r15 q16 h => ?_)
    exact a_iret (pc := 116) hC hE h (Nat.le_of_ble_eq_true rfl) (Nat.le_of_ble_eq_true rfl) dX10_gives_116
  · replace h := h.2 c
    refine a_iconst (pc := 107) hC dX10_gives_107 (v := 0) rfl ?_
    refine a_goto (pc := 108) (tgt := 116) hC dX10_gives_108 (by decide) ?_
    exact a_iret (pc := 116) hC hE h (Nat.le_of_ble_eq_true rfl) (Nat.le_of_ble_eq_true rfl) dX10_gives_116
set_option maxRecDepth 20000 in
theorem tJX10_gives_74 {f : aF} {g : aG} (hX : isM g) (P : Int32 → aS → Prop) (hR : f_R f = aR 3 0 0) (hC : aOK f g cX10_gives 3 RX10) (hE : aEi f g .int P (fun _ _ => False) 0 0) (j2 : Int32) (q : aS) (h : JX10_gives_74 j2 P q) : AW f g 74 [some (.ref (gAd g 0)), none, some (.int j2)] [.ref (gAd g 0)] q 0 0 := by
  unfold JX10_gives_74 at h
  refine a_iconst (pc := 74) hC dX10_gives_74 (v := 0) rfl ?_
  exact (tJX10_gives_75 hX P hR hC hE _ _ _ h).forget ⟨rfl, rfl, trivial⟩
set_option maxRecDepth 20000 in
theorem tJX10_gives_33 {f : aF} {g : aG} (hX : isM g) (P : Int32 → aS → Prop) (hR : f_R f = aR 3 0 0) (hC : aOK f g cX10_gives 3 RX10) (hE : aEi f g .int P (fun _ _ => False) 0 0) (j1 : Int32) (j2 : Int32) (s0 : Int32) (q : aS) (h : JX10_gives_33 j1 j2 s0 P q) : AW f g 33 [some (.ref (gAd g 0)), some (.int j1), some (.int j2)] [.int s0, .ref (gAd g 0)] q 0 0 := by
  unfold JX10_gives_33 at h
  refine a_iconst (pc := 33) hC dX10_gives_33 (v := 2) rfl ?_
  refine a_iload_n (pc := 34) hC dX10_gives_34 rfl ?_
  refine a_callVv (pc := 35) hC hR vm_X10_hinders tw_1616 cl_X10 (oM_0 hX) ⟨(Nat.le_of_ble_eq_true rfl), (Nat.le_of_ble_eq_true rfl), (Nat.le_of_ble_eq_true rfl), (Nat.le_of_ble_eq_true rfl)⟩ dX10_gives_35 (t_X10_hinders hX hC.tr _ _ _ _ _ h) rfl rfl rfl (Nat.le_of_ble_eq_true rfl) (fun q10 h => ?_)
  refine a_aload_n (pc := 38) hC dX10_gives_38 rfl ?_
  refine a_aload_n (pc := 39) hC dX10_gives_39 rfl ?_
  refine a_get (pc := 40) hC cl_X10 (oM_0 hX) 16 (by decide) tw_1520 rfl dX10_gives_40 ?_
  refine a_if_ne (pc := 43) (tgt := 74) hC dX10_gives_43 (by decide) (fun c => ?_) (fun c => ?_)
  · replace h := h.1 c
    exact (tJX10_gives_74 hX P hR hC hE _ _ h).forget ⟨rfl, rfl, trivial⟩
  · replace h := h.2 c
    refine a_aload_n (pc := 46) hC dX10_gives_46 rfl ?_
    refine a_get (pc := 47) hC cl_X10 (oM_0 hX) 0 (by decide) tw_1504 rfl dX10_gives_47 ?_
    refine a_iconst (pc := 50) hC dX10_gives_50 (v := 0) rfl ?_
    refine a_bipush (pc := 51) hC dX10_gives_51 (v := 7) rfl ?_
    refine a_iload_n (pc := 53) hC dX10_gives_53 rfl ?_
    refine a_mmin (pc := 54) hC hR ⟨(Nat.le_of_ble_eq_true rfl), (Nat.le_of_ble_eq_true rfl), (Nat.le_of_ble_eq_true rfl)⟩ rfl tw_1726 tw_361 tw_24 tw_362 (Nat.le_of_ble_eq_true rfl) dX10_gives_54 ?_
    refine a_mmax (pc := 57) hC hR ⟨(Nat.le_of_ble_eq_true rfl), (Nat.le_of_ble_eq_true rfl), (Nat.le_of_ble_eq_true rfl)⟩ rfl tw_1727 tw_368 tw_24 tw_369 (Nat.le_of_ble_eq_true rfl) dX10_gives_57 ?_
    refine a_callS (pc := 60) hC hR sm_X10_echoAt tw_1647 ⟨(Nat.le_of_ble_eq_true rfl), (Nat.le_of_ble_eq_true rfl), (Nat.le_of_ble_eq_true rfl), (Nat.le_of_ble_eq_true rfl)⟩ dX10_gives_60 (t_X10_echoAt hX hC.tr _ _ _ h) rfl rfl rfl (Nat.le_of_ble_eq_true rfl) (fun r17 q18 h => ?_)
    refine a_iconst (pc := 63) hC dX10_gives_63 (v := 2) rfl ?_
    refine a_iadd (pc := 64) hC dX10_gives_64 ?_
    refine a_iald (pc := 65) hC (oM_1 hX) h.1 dX10_gives_65 ?_
    replace h := h.2
    refine a_iload_n (pc := 66) hC dX10_gives_66 rfl ?_
    refine a_icmp_eq (pc := 67) (tgt := 74) hC dX10_gives_67 (by decide) (fun c => ?_) (fun c => ?_)
    · replace h := h.1 c
      exact (tJX10_gives_74 hX P hR hC hE _ _ h).forget ⟨rfl, rfl, trivial⟩
    · replace h := h.2 c
      refine a_iconst (pc := 70) hC dX10_gives_70 (v := 1) rfl ?_
      refine a_goto (pc := 71) (tgt := 75) hC dX10_gives_71 (by decide) ?_
      exact (tJX10_gives_75 hX P hR hC hE _ _ _ h).forget ⟨rfl, rfl, trivial⟩
set_option maxRecDepth 20000 in
theorem tJX10_gives_14 {f : aF} {g : aG} (hX : isM g) (P : Int32 → aS → Prop) (hR : f_R f = aR 3 0 0) (hC : aOK f g cX10_gives 3 RX10) (hE : aEi f g .int P (fun _ _ => False) 0 0) (j1 : Int32) (j2 : Int32) (s0 : Int32) (q : aS) (h : JX10_gives_14 j1 j2 s0 P q) : AW f g 14 [some (.ref (gAd g 0)), some (.int j1), some (.int j2)] [.int s0, .ref (gAd g 0)] q 0 0 := by
  unfold JX10_gives_14 at h
  refine a_iconst (pc := 14) hC dX10_gives_14 (v := 2) rfl ?_
  refine a_iload_n (pc := 15) hC dX10_gives_15 rfl ?_
  refine a_callVv (pc := 16) hC hR vm_X10_hinders tw_1616 cl_X10 (oM_0 hX) ⟨(Nat.le_of_ble_eq_true rfl), (Nat.le_of_ble_eq_true rfl), (Nat.le_of_ble_eq_true rfl), (Nat.le_of_ble_eq_true rfl)⟩ dX10_gives_16 (t_X10_hinders hX hC.tr _ _ _ _ _ h) rfl rfl rfl (Nat.le_of_ble_eq_true rfl) (fun q6 h => ?_)
  refine a_aload_n (pc := 19) hC dX10_gives_19 rfl ?_
  refine a_aload_n (pc := 20) hC dX10_gives_20 rfl ?_
  refine a_iload_n (pc := 21) hC dX10_gives_21 rfl ?_
  refine a_callV (pc := 22) hC hR vm_X10_isEcho tw_1702 cl_X10 (oM_0 hX) ⟨(Nat.le_of_ble_eq_true rfl), (Nat.le_of_ble_eq_true rfl), (Nat.le_of_ble_eq_true rfl), (Nat.le_of_ble_eq_true rfl)⟩ dX10_gives_22 (t_X10_isEcho hX hC.tr _ _ _ h) rfl rfl rfl (Nat.le_of_ble_eq_true rfl) (fun r7 q8 h => ?_)
  have z_r7 := h.1
  replace h := h.2
  refine a_if_ne (pc := 25) (tgt := 32) hC dX10_gives_25 (by decide) (fun c => ?_) (fun c => ?_)
  · replace h := h.1 c
    refine a_iconst (pc := 32) hC dX10_gives_32 (v := 0) rfl ?_
    exact (tJX10_gives_33 hX P hR hC hE _ _ _ _ h).forget ⟨rfl, rfl, rfl, trivial⟩
  · replace h := h.2 c
    refine a_iconst (pc := 28) hC dX10_gives_28 (v := 1) rfl ?_
    refine a_goto (pc := 29) (tgt := 33) hC dX10_gives_29 (by decide) ?_
    exact (tJX10_gives_33 hX P hR hC hE _ _ _ _ h).forget ⟨rfl, rfl, rfl, trivial⟩
set_option maxRecDepth 20000 in
theorem t_X10_gives {l : Launch} {g : aG} (hX : isM g) (hl : l.stackTraces = false) (x1 : Int32) (x2 : Int32) (q : aS) (P : Int32 → aS → Prop) (h : w_X10_gives x1 x2 q P) : aMi l g yX10_gives (aWs yX10_gives cX10_gives 3 (some .int)) 3 0 0 [.ref (gAd g 0), .int x1, .int x2] q P (fun _ _ => False) := by
  refine aMi_of RX10 ⟨by decide +kernel, rfl⟩ (cat_all rfl) (Nat.le_of_ble_eq_true rfl) hl hX.cl (fun f hR hC hE => ?_)
  show AW f g 0 [some (.ref (gAd g 0)), some (.int x1), some (.int x2)] [] q 0 0
  unfold w_X10_gives at h
  refine a_aload_n (pc := 0) hC dX10_gives_0 rfl ?_
  refine a_aload_n (pc := 1) hC dX10_gives_1 rfl ?_
  refine a_iload_n (pc := 2) hC dX10_gives_2 rfl ?_
  refine a_callV (pc := 3) hC hR vm_X10_isSinger tw_1669 cl_X10 (oM_0 hX) ⟨(Nat.le_of_ble_eq_true rfl), (Nat.le_of_ble_eq_true rfl), (Nat.le_of_ble_eq_true rfl), (Nat.le_of_ble_eq_true rfl)⟩ dX10_gives_3 (t_X10_isSinger hX hC.tr _ _ _ h) rfl rfl rfl (Nat.le_of_ble_eq_true rfl) (fun r3 q4 h => ?_)
  have z_r3 := h.1
  replace h := h.2
  refine a_if_ne (pc := 6) (tgt := 13) hC dX10_gives_6 (by decide) (fun c => ?_) (fun c => ?_)
  · replace h := h.1 c
    refine a_iconst (pc := 13) hC dX10_gives_13 (v := 0) rfl ?_
    exact (tJX10_gives_14 hX P hR hC hE _ _ _ _ h).forget ⟨rfl, rfl, rfl, trivial⟩
  · replace h := h.2 c
    refine a_iconst (pc := 9) hC dX10_gives_9 (v := 1) rfl ?_
    refine a_goto (pc := 10) (tgt := 14) hC dX10_gives_10 (by decide) ?_
    exact (tJX10_gives_14 hX P hR hC hE _ _ _ _ h).forget ⟨rfl, rfl, rfl, trivial⟩
set_option maxRecDepth 20000 in
theorem t_X10_back {l : Launch} {g : aG} (hX : isM g) (hl : l.stackTraces = false) (x1 : Int32) (x2 : Int32) (q : aS) (P : Int32 → aS → Prop) (h : w_X10_back x1 x2 q P) : aMi l g yX10_back (aWs yX10_back cX10_back 3 (some .int)) 4 0 0 [.ref (gAd g 0), .int x1, .int x2] q P (fun _ _ => False) := by
  refine aMi_of RX10 ⟨by decide +kernel, rfl⟩ (cat_all rfl) (Nat.le_of_ble_eq_true rfl) hl hX.cl (fun f hR hC hE => ?_)
  show AW f g 0 [some (.ref (gAd g 0)), some (.int x1), some (.int x2)] [] q 0 0
  unfold w_X10_back at h
  refine a_aload_n (pc := 0) hC dX10_back_0 rfl ?_
  refine a_callVv (pc := 1) hC hR vm_X10_begins tw_1608 cl_X10 (oM_0 hX) ⟨(Nat.le_of_ble_eq_true rfl), (Nat.le_of_ble_eq_true rfl), (Nat.le_of_ble_eq_true rfl), (Nat.le_of_ble_eq_true rfl)⟩ dX10_back_1 (t_X10_begins hX hC.tr _ _ h) rfl rfl rfl (Nat.le_of_ble_eq_true rfl) (fun q4 h => ?_)
  refine a_aload_n (pc := 4) hC dX10_back_4 rfl ?_
  refine a_aload_n (pc := 5) hC dX10_back_5 rfl ?_
  refine a_iload_n (pc := 6) hC dX10_back_6 rfl ?_
  refine a_iload_n (pc := 7) hC dX10_back_7 rfl ?_
  refine a_callV (pc := 8) hC hR vm_X10_gives tw_1722 cl_X10 (oM_0 hX) ⟨(Nat.le_of_ble_eq_true rfl), (Nat.le_of_ble_eq_true rfl), (Nat.le_of_ble_eq_true rfl), (Nat.le_of_ble_eq_true rfl)⟩ dX10_back_8 (t_X10_gives hX hC.tr _ _ _ _ h) rfl rfl rfl (Nat.le_of_ble_eq_true rfl) (fun r5 q6 h => ?_)
  refine a_callV (pc := 11) hC hR vm_X10_ends tw_1623 cl_X10 (oM_0 hX) ⟨(Nat.le_of_ble_eq_true rfl), (Nat.le_of_ble_eq_true rfl), (Nat.le_of_ble_eq_true rfl), (Nat.le_of_ble_eq_true rfl)⟩ dX10_back_11 (t_X10_ends hX hC.tr _ _ _ h) rfl rfl rfl (Nat.le_of_ble_eq_true rfl) (fun r7 q8 h => ?_)
  exact a_iret (pc := 14) hC hE h (Nat.le_of_ble_eq_true rfl) (Nat.le_of_ble_eq_true rfl) dX10_back_14
set_option maxRecDepth 20000 in
theorem tLX10_sings_116 {f : aF} {g : aG} (hX : isM g) (P : Int32 → aS → Prop) (hR : f_R f = aR 3 0 0) (hC : aOK f g cX10_sings 9 RX10) (hE : aEi f g .int P (fun _ _ => False) 0 0) (c1 : Int32) (c2 : Int32) {K : Int32 → aS → Prop} (hK : ∀ (w4 : Int32) (q : aS), K w4 q → AW f g 232 [some (.ref (gAd g 0)), some (.int c1), some (.int c2), none, some (.int w4), none, none, none, none] [] q 0 0) : ∀ (N : Nat) (v4 : Int32) (v5 : Int32) (q : aS), LX10_sings_116 c1 c2 P K N v4 v5 q → AW f g 116 [some (.ref (gAd g 0)), some (.int c1), some (.int c2), none, some (.int v4), some (.int v5), none, none, none] [] q 0 0 := by
  intro N
  induction N with
  | zero =>
    intro v4 v5 q h
    exact h.elim
  | succ N ih =>
    intro v4 v5 q h
    unfold LX10_sings_116 at h
    refine a_iload (pc := 116) hC dX10_sings_116 rfl ?_
    refine a_aload_n (pc := 118) hC dX10_sings_118 rfl ?_
    refine a_get (pc := 119) hC cl_X10 (oM_0 hX) 0 (by decide) tw_1504 rfl dX10_sings_119 ?_
    refine a_iconst (pc := 122) hC dX10_sings_122 (v := 1) rfl ?_
    refine a_iald (pc := 123) hC (oM_1 hX) h.1 dX10_sings_123 ?_
    replace h := h.2
    refine a_icmp_ge (pc := 124) (tgt := 232) hC dX10_sings_124 (by decide) (fun c => ?_) (fun c => ?_)
    · replace h := h.1 c
      exact (hK _ _ h).forget ⟨rfl, rfl, rfl, rfl, trivial⟩
    · replace h := h.2 c
      refine a_iload (pc := 127) hC dX10_sings_127 rfl ?_
      refine a_callS (pc := 129) hC hR sm_X10_echoAt tw_1647 ⟨(Nat.le_of_ble_eq_true rfl), (Nat.le_of_ble_eq_true rfl), (Nat.le_of_ble_eq_true rfl), (Nat.le_of_ble_eq_true rfl)⟩ dX10_sings_129 (t_X10_echoAt hX hC.tr _ _ _ h) rfl rfl rfl (Nat.le_of_ble_eq_true rfl) (fun r19 q20 h => ?_)
      refine a_istore (pc := 132) hC dX10_sings_132 (Nat.le_of_ble_eq_true rfl) ?_
      refine a_aload_n (pc := 134) hC dX10_sings_134 rfl ?_
      refine a_get (pc := 135) hC cl_X10 (oM_0 hX) 0 (by decide) tw_1504 rfl dX10_sings_135 ?_
      refine a_iload (pc := 138) hC dX10_sings_138 rfl ?_
      refine a_iconst (pc := 140) hC dX10_sings_140 (v := 0) rfl ?_
      refine a_iadd (pc := 141) hC dX10_sings_141 ?_
      refine a_iald (pc := 142) hC (oM_1 hX) h.1 dX10_sings_142 ?_
      replace h := h.2
      refine a_iload_n (pc := 143) hC dX10_sings_143 rfl ?_
      refine a_icmp_ne (pc := 144) (tgt := 226) hC dX10_sings_144 (by decide) (fun c => ?_) (fun c => ?_)
      · replace h := h.1 c
        refine a_iinc (pc := 226) hC dX10_sings_226 rfl (c := 1) rfl ?_
        replace h := h _ rfl
        refine a_goto (pc := 229) (tgt := 116) hC dX10_sings_229 (by decide) ?_
        exact (ih _ _ _ h).forget ⟨rfl, rfl, rfl, rfl, rfl, trivial⟩
      · replace h := h.2 c
        refine a_aload_n (pc := 147) hC dX10_sings_147 rfl ?_
        refine a_get (pc := 148) hC cl_X10 (oM_0 hX) 0 (by decide) tw_1504 rfl dX10_sings_148 ?_
        refine a_iload (pc := 151) hC dX10_sings_151 rfl ?_
        refine a_iconst (pc := 153) hC dX10_sings_153 (v := 2) rfl ?_
        refine a_iadd (pc := 154) hC dX10_sings_154 ?_
        refine a_iald (pc := 155) hC (oM_1 hX) h.1 dX10_sings_155 ?_
        replace h := h.2
        refine a_iload_n (pc := 156) hC dX10_sings_156 rfl ?_
        refine a_icmp_ne (pc := 157) (tgt := 226) hC dX10_sings_157 (by decide) (fun c => ?_) (fun c => ?_)
        · replace h := h.1 c
          refine a_iinc (pc := 226) hC dX10_sings_226 rfl (c := 1) rfl ?_
          replace h := h _ rfl
          refine a_goto (pc := 229) (tgt := 116) hC dX10_sings_229 (by decide) ?_
          exact (ih _ _ _ h).forget ⟨rfl, rfl, rfl, rfl, rfl, trivial⟩
        · replace h := h.2 c
          refine a_aload_n (pc := 160) hC dX10_sings_160 rfl ?_
          refine a_iload (pc := 161) hC dX10_sings_161 rfl ?_
          refine a_callV (pc := 163) hC hR vm_X10_worthOf tw_1732 cl_X10 (oM_0 hX) ⟨(Nat.le_of_ble_eq_true rfl), (Nat.le_of_ble_eq_true rfl), (Nat.le_of_ble_eq_true rfl), (Nat.le_of_ble_eq_true rfl)⟩ dX10_sings_163 (t_X10_worthOf hX hC.tr _ _ _ h) rfl rfl rfl (Nat.le_of_ble_eq_true rfl) (fun r23 q24 h => ?_)
          refine a_istore (pc := 166) hC dX10_sings_166 (Nat.le_of_ble_eq_true rfl) ?_
          refine a_iload (pc := 168) hC dX10_sings_168 rfl ?_
          refine a_iload (pc := 170) hC dX10_sings_170 rfl ?_
          refine a_iadd (pc := 172) hC dX10_sings_172 ?_
          refine a_istore (pc := 173) hC dX10_sings_173 (Nat.le_of_ble_eq_true rfl) ?_
          replace h := h _ rfl
          refine a_aload_n (pc := 175) hC dX10_sings_175 rfl ?_
          refine a_get (pc := 176) hC cl_X10 (oM_0 hX) 0 (by decide) tw_1504 rfl dX10_sings_176 ?_
          refine a_iload (pc := 179) hC dX10_sings_179 rfl ?_
          refine a_iconst (pc := 181) hC dX10_sings_181 (v := 4) rfl ?_
          refine a_iadd (pc := 182) hC dX10_sings_182 ?_
          refine a_dup2 (pc := 183) hC dX10_sings_183 rfl rfl ?_
          refine a_iald (pc := 184) hC (oM_1 hX) h.1 dX10_sings_184 ?_
          replace h := h.2
          refine a_iload (pc := 185) hC dX10_sings_185 rfl ?_
          refine a_iadd (pc := 187) hC dX10_sings_187 ?_
          refine a_iast (pc := 188) hC (oM_1 hX) h.1 dX10_sings_188 ?_
          replace h := h.2
          replace h := h _ rfl
          refine a_aload_n (pc := 189) hC dX10_sings_189 rfl ?_
          refine a_get (pc := 190) hC cl_X10 (oM_0 hX) 0 (by decide) tw_1504 rfl dX10_sings_190 ?_
          refine a_iload (pc := 193) hC dX10_sings_193 rfl ?_
          refine a_iconst (pc := 195) hC dX10_sings_195 (v := 3) rfl ?_
          refine a_iadd (pc := 196) hC dX10_sings_196 ?_
          refine a_dup2 (pc := 197) hC dX10_sings_197 rfl rfl ?_
          refine a_iald (pc := 198) hC (oM_1 hX) h.1 dX10_sings_198 ?_
          replace h := h.2
          refine a_iconst (pc := 199) hC dX10_sings_199 (v := 1) rfl ?_
          refine a_isub (pc := 200) hC dX10_sings_200 ?_
          refine a_iast (pc := 201) hC (oM_1 hX) h.1 dX10_sings_201 ?_
          replace h := h.2
          replace h := h _ rfl
          refine a_aload_n (pc := 202) hC dX10_sings_202 rfl ?_
          refine a_get (pc := 203) hC cl_X10 (oM_0 hX) 0 (by decide) tw_1504 rfl dX10_sings_203 ?_
          refine a_iload (pc := 206) hC dX10_sings_206 rfl ?_
          refine a_iconst (pc := 208) hC dX10_sings_208 (v := 3) rfl ?_
          refine a_iadd (pc := 209) hC dX10_sings_209 ?_
          refine a_iald (pc := 210) hC (oM_1 hX) h.1 dX10_sings_210 ?_
          replace h := h.2
          refine a_if_ne (pc := 211) (tgt := 223) hC dX10_sings_211 (by decide) (fun c => ?_) (fun c => ?_)
          · replace h := h.1 c
            refine a_iconst (pc := 223) hC dX10_sings_223 (v := 0) rfl ?_
            refine a_istore (pc := 224) hC dX10_sings_224 (Nat.le_of_ble_eq_true rfl) ?_
            refine a_iinc (pc := 226) hC dX10_sings_226 rfl (c := 1) rfl ?_
            replace h := h _ rfl
            refine a_goto (pc := 229) (tgt := 116) hC dX10_sings_229 (by decide) ?_
            exact (ih _ _ _ h).forget ⟨rfl, rfl, rfl, rfl, rfl, trivial⟩
          · replace h := h.2 c
            refine a_aload_n (pc := 214) hC dX10_sings_214 rfl ?_
            refine a_iload (pc := 215) hC dX10_sings_215 rfl ?_
            refine a_callV (pc := 217) hC hR vm_X10_stops tw_1728 cl_X10 (oM_0 hX) ⟨(Nat.le_of_ble_eq_true rfl), (Nat.le_of_ble_eq_true rfl), (Nat.le_of_ble_eq_true rfl), (Nat.le_of_ble_eq_true rfl)⟩ dX10_sings_217 (t_X10_stops hX hC.tr _ _ _ h) rfl rfl rfl (Nat.le_of_ble_eq_true rfl) (fun r29 q30 h => ?_)
            refine a_goto (pc := 220) (tgt := 224) hC dX10_sings_220 (by decide) ?_
            refine a_istore (pc := 224) hC dX10_sings_224 (Nat.le_of_ble_eq_true rfl) ?_
            refine a_iinc (pc := 226) hC dX10_sings_226 rfl (c := 1) rfl ?_
            replace h := h _ rfl
            refine a_goto (pc := 229) (tgt := 116) hC dX10_sings_229 (by decide) ?_
            exact (ih _ _ _ h).forget ⟨rfl, rfl, rfl, rfl, rfl, trivial⟩
set_option maxRecDepth 20000 in
theorem tJX10_sings_80 {f : aF} {g : aG} (hX : isM g) (P : Int32 → aS → Prop) (hR : f_R f = aR 3 0 0) (hC : aOK f g cX10_sings 9 RX10) (hE : aEi f g .int P (fun _ _ => False) 0 0) (j1 : Int32) (j2 : Int32) (j3 : Int32) (s0 : Int32) (q : aS) (h : JX10_sings_80 j1 j2 j3 s0 P q) : AW f g 80 [some (.ref (gAd g 0)), some (.int j1), some (.int j2), some (.int j3), none, none, none, none, none] [.int s0, .ref (gAd g 0)] q 0 0 := by
  unfold JX10_sings_80 at h
  refine a_bipush (pc := 80) hC dX10_sings_80 (v := 9) rfl ?_
  refine a_iload_n (pc := 82) hC dX10_sings_82 rfl ?_
  refine a_callVv (pc := 83) hC hR vm_X10_hinders tw_1616 cl_X10 (oM_0 hX) ⟨(Nat.le_of_ble_eq_true rfl), (Nat.le_of_ble_eq_true rfl), (Nat.le_of_ble_eq_true rfl), (Nat.le_of_ble_eq_true rfl)⟩ dX10_sings_83 (t_X10_hinders hX hC.tr _ _ _ _ _ h) rfl rfl rfl (Nat.le_of_ble_eq_true rfl) (fun q15 h => ?_)
  refine a_aload_n (pc := 86) hC dX10_sings_86 rfl ?_
  refine a_get (pc := 87) hC cl_X10 (oM_0 hX) 16 (by decide) tw_1520 rfl dX10_sings_87 ?_
  refine a_if_eq (pc := 90) (tgt := 95) hC dX10_sings_90 (by decide) (fun c => ?_) (fun c => ?_)
  · replace h := h.1 c
    refine a_aload_n (pc := 95) hC dX10_sings_95 rfl ?_
    refine a_get (pc := 96) hC cl_X10 (oM_0 hX) 0 (by decide) tw_1504 rfl dX10_sings_96 ?_
    refine a_iload_n (pc := 99) hC dX10_sings_99 rfl ?_
    refine a_callS (pc := 100) hC hR sm_X10_singerAt tw_1658 ⟨(Nat.le_of_ble_eq_true rfl), (Nat.le_of_ble_eq_true rfl), (Nat.le_of_ble_eq_true rfl), (Nat.le_of_ble_eq_true rfl)⟩ dX10_sings_100 (t_X10_singerAt hX hC.tr _ _ _ h) rfl rfl rfl (Nat.le_of_ble_eq_true rfl) (fun r16 q17 h => ?_)
    refine a_iconst (pc := 103) hC dX10_sings_103 (v := 1) rfl ?_
    refine a_iadd (pc := 104) hC dX10_sings_104 ?_
    refine a_dup2 (pc := 105) hC dX10_sings_105 rfl rfl ?_
    refine a_iald (pc := 106) hC (oM_1 hX) h.1 dX10_sings_106 ?_
    replace h := h.2
    refine a_iconst (pc := 107) hC dX10_sings_107 (v := 1) rfl ?_
    refine a_isub (pc := 108) hC dX10_sings_108 ?_
    refine a_iast (pc := 109) hC (oM_1 hX) h.1 dX10_sings_109 ?_
    replace h := h.2
    replace h := h _ rfl
    refine a_iconst (pc := 110) hC dX10_sings_110 (v := 0) rfl ?_
    refine a_istore (pc := 111) hC dX10_sings_111 (Nat.le_of_ble_eq_true rfl) ?_
    refine a_iconst (pc := 113) hC dX10_sings_113 (v := 0) rfl ?_
    refine a_istore (pc := 114) hC dX10_sings_114 (Nat.le_of_ble_eq_true rfl) ?_
    obtain ⟨N, h⟩ := h
    refine (tLX10_sings_116 hX P hR hC hE _ _ (fun y32 q33 h => ?_) N _ _ _ h).forget ⟨rfl, rfl, rfl, rfl, rfl, trivial⟩
    refine a_aload_n (pc := 232) hC dX10_sings_232 rfl ?_
    refine a_get (pc := 233) hC cl_X10 (oM_0 hX) 0 (by decide) tw_1504 rfl dX10_sings_233 ?_
    refine a_iload_n (pc := 236) hC dX10_sings_236 rfl ?_
    refine a_callS (pc := 237) hC hR sm_X10_singerAt tw_1658 ⟨(Nat.le_of_ble_eq_true rfl), (Nat.le_of_ble_eq_true rfl), (Nat.le_of_ble_eq_true rfl), (Nat.le_of_ble_eq_true rfl)⟩ dX10_sings_237 (t_X10_singerAt hX hC.tr _ _ _ h) rfl rfl rfl (Nat.le_of_ble_eq_true rfl) (fun r34 q35 h => ?_)
    refine a_iconst (pc := 240) hC dX10_sings_240 (v := 3) rfl ?_
    refine a_iadd (pc := 241) hC dX10_sings_241 ?_
    refine a_dup2 (pc := 242) hC dX10_sings_242 rfl rfl ?_
    refine a_iald (pc := 243) hC (oM_1 hX) h.1 dX10_sings_243 ?_
    replace h := h.2
    refine a_iconst (pc := 244) hC dX10_sings_244 (v := 1) rfl ?_
    refine a_iadd (pc := 245) hC dX10_sings_245 ?_
    refine a_iast (pc := 246) hC (oM_1 hX) h.1 dX10_sings_246 ?_
    replace h := h.2
    replace h := h _ rfl
    refine a_aload_n (pc := 247) hC dX10_sings_247 rfl ?_
    refine a_get (pc := 248) hC cl_X10 (oM_0 hX) 0 (by decide) tw_1504 rfl dX10_sings_248 ?_
    refine a_iload_n (pc := 251) hC dX10_sings_251 rfl ?_
    refine a_callS (pc := 252) hC hR sm_X10_singerAt tw_1658 ⟨(Nat.le_of_ble_eq_true rfl), (Nat.le_of_ble_eq_true rfl), (Nat.le_of_ble_eq_true rfl), (Nat.le_of_ble_eq_true rfl)⟩ dX10_sings_252 (t_X10_singerAt hX hC.tr _ _ _ h) rfl rfl rfl (Nat.le_of_ble_eq_true rfl) (fun r37 q38 h => ?_)
    refine a_iconst (pc := 255) hC dX10_sings_255 (v := 4) rfl ?_
    refine a_iadd (pc := 256) hC dX10_sings_256 ?_
    refine a_dup2 (pc := 257) hC dX10_sings_257 rfl rfl ?_
    refine a_iald (pc := 258) hC (oM_1 hX) h.1 dX10_sings_258 ?_
    replace h := h.2
    refine a_iload (pc := 259) hC dX10_sings_259 rfl ?_
    refine a_iadd (pc := 261) hC dX10_sings_261 ?_
    refine a_iast (pc := 262) hC (oM_1 hX) h.1 dX10_sings_262 ?_
    replace h := h.2
    replace h := h _ rfl
    refine a_aload_n (pc := 263) hC dX10_sings_263 rfl ?_
    refine a_get (pc := 264) hC cl_X10 (oM_0 hX) 0 (by decide) tw_1504 rfl dX10_sings_264 ?_
    refine a_iload_n (pc := 267) hC dX10_sings_267 rfl ?_
    refine a_callS (pc := 268) hC hR sm_X10_roomAt tw_1620 ⟨(Nat.le_of_ble_eq_true rfl), (Nat.le_of_ble_eq_true rfl), (Nat.le_of_ble_eq_true rfl), (Nat.le_of_ble_eq_true rfl)⟩ dX10_sings_268 (t_X10_roomAt hX hC.tr _ _ _ h) rfl rfl rfl (Nat.le_of_ble_eq_true rfl) (fun r40 q41 h => ?_)
    refine a_iconst (pc := 271) hC dX10_sings_271 (v := 2) rfl ?_
    refine a_iadd (pc := 272) hC dX10_sings_272 ?_
    refine a_dup2 (pc := 273) hC dX10_sings_273 rfl rfl ?_
    refine a_iald (pc := 274) hC (oM_1 hX) h.1 dX10_sings_274 ?_
    replace h := h.2
    refine a_iconst (pc := 275) hC dX10_sings_275 (v := 1) rfl ?_
    refine a_iadd (pc := 276) hC dX10_sings_276 ?_
    refine a_iast (pc := 277) hC (oM_1 hX) h.1 dX10_sings_277 ?_
    replace h := h.2
    replace h := h _ rfl
    refine a_aload_n (pc := 278) hC dX10_sings_278 rfl ?_
    refine a_get (pc := 279) hC cl_X10 (oM_0 hX) 0 (by decide) tw_1504 rfl dX10_sings_279 ?_
    refine a_iload_n (pc := 282) hC dX10_sings_282 rfl ?_
    refine a_callS (pc := 283) hC hR sm_X10_roomAt tw_1620 ⟨(Nat.le_of_ble_eq_true rfl), (Nat.le_of_ble_eq_true rfl), (Nat.le_of_ble_eq_true rfl), (Nat.le_of_ble_eq_true rfl)⟩ dX10_sings_283 (t_X10_roomAt hX hC.tr _ _ _ h) rfl rfl rfl (Nat.le_of_ble_eq_true rfl) (fun r43 q44 h => ?_)
    refine a_iconst (pc := 286) hC dX10_sings_286 (v := 1) rfl ?_
    refine a_iadd (pc := 287) hC dX10_sings_287 ?_
    refine a_bipush (pc := 288) hC dX10_sings_288 (v := 9) rfl ?_
    refine a_aload_n (pc := 290) hC dX10_sings_290 rfl ?_
    refine a_get (pc := 291) hC cl_X10 (oM_0 hX) 0 (by decide) tw_1504 rfl dX10_sings_291 ?_
    refine a_iload_n (pc := 294) hC dX10_sings_294 rfl ?_
    refine a_callS (pc := 295) hC hR sm_X10_roomAt tw_1620 ⟨(Nat.le_of_ble_eq_true rfl), (Nat.le_of_ble_eq_true rfl), (Nat.le_of_ble_eq_true rfl), (Nat.le_of_ble_eq_true rfl)⟩ dX10_sings_295 (t_X10_roomAt hX hC.tr _ _ _ h) rfl rfl rfl (Nat.le_of_ble_eq_true rfl) (fun r45 q46 h => ?_)
    refine a_iconst (pc := 298) hC dX10_sings_298 (v := 1) rfl ?_
    refine a_iadd (pc := 299) hC dX10_sings_299 ?_
    refine a_iald (pc := 300) hC (oM_1 hX) h.1 dX10_sings_300 ?_
    replace h := h.2
    refine a_iconst (pc := 301) hC dX10_sings_301 (v := 1) rfl ?_
    refine a_iadd (pc := 302) hC dX10_sings_302 ?_
    refine a_mmin (pc := 303) hC hR ⟨(Nat.le_of_ble_eq_true rfl), (Nat.le_of_ble_eq_true rfl), (Nat.le_of_ble_eq_true rfl)⟩ rfl tw_1726 tw_361 tw_24 tw_362 (Nat.le_of_ble_eq_true rfl) dX10_sings_303 ?_
    refine a_iast (pc := 306) hC (oM_1 hX) h.1 dX10_sings_306 ?_
    replace h := h.2
    replace h := h _ rfl
    refine a_aload_n (pc := 307) hC dX10_sings_307 rfl ?_
    refine a_get (pc := 308) hC cl_X10 (oM_0 hX) 0 (by decide) tw_1504 rfl dX10_sings_308 ?_
    refine a_iconst (pc := 311) hC dX10_sings_311 (v := 4) rfl ?_
    refine a_dup2 (pc := 312) hC dX10_sings_312 rfl rfl ?_
    refine a_iald (pc := 313) hC (oM_1 hX) h.1 dX10_sings_313 ?_
    replace h := h.2
    refine a_iconst (pc := 314) hC dX10_sings_314 (v := 1) rfl ?_
    refine a_iadd (pc := 315) hC dX10_sings_315 ?_
    refine a_iast (pc := 316) hC (oM_1 hX) h.1 dX10_sings_316 ?_
    replace h := h.2
    replace h := h _ rfl
    refine a_aload_n (pc := 317) hC dX10_sings_317 rfl ?_
    refine a_get (pc := 318) hC cl_X10 (oM_0 hX) 0 (by decide) tw_1504 rfl dX10_sings_318 ?_
    refine a_iconst (pc := 321) hC dX10_sings_321 (v := 5) rfl ?_
    refine a_dup2 (pc := 322) hC dX10_sings_322 rfl rfl ?_
    refine a_iald (pc := 323) hC (oM_1 hX) h.1 dX10_sings_323 ?_
    replace h := h.2
    refine a_iload (pc := 324) hC dX10_sings_324 rfl ?_
    refine a_iadd (pc := 326) hC dX10_sings_326 ?_
    refine a_iast (pc := 327) hC (oM_1 hX) h.1 dX10_sings_327 ?_
    replace h := h.2
    replace h := h _ rfl
    refine a_iload (pc := 328) hC dX10_sings_328 rfl ?_
    exact a_iret (pc := 330) hC hE h (Nat.le_of_ble_eq_true rfl) (Nat.le_of_ble_eq_true rfl) dX10_sings_330
  · replace h := h.2 c
    refine a_iconst (pc := 93) hC dX10_sings_93 (v := 0) rfl ?_
    exact a_iret (pc := 94) hC hE h (Nat.le_of_ble_eq_true rfl) (Nat.le_of_ble_eq_true rfl) dX10_sings_94
set_option maxRecDepth 20000 in
theorem tJX10_sings_63 {f : aF} {g : aG} (hX : isM g) (P : Int32 → aS → Prop) (hR : f_R f = aR 3 0 0) (hC : aOK f g cX10_sings 9 RX10) (hE : aEi f g .int P (fun _ _ => False) 0 0) (j1 : Int32) (j2 : Int32) (j3 : Int32) (s0 : Int32) (q : aS) (h : JX10_sings_63 j1 j2 j3 s0 P q) : AW f g 63 [some (.ref (gAd g 0)), some (.int j1), some (.int j2), some (.int j3), none, none, none, none, none] [.int s0, .ref (gAd g 0)] q 0 0 := by
  unfold JX10_sings_63 at h
  refine a_bipush (pc := 63) hC dX10_sings_63 (v := 10) rfl ?_
  refine a_iload_n (pc := 65) hC dX10_sings_65 rfl ?_
  refine a_callVv (pc := 66) hC hR vm_X10_hinders tw_1616 cl_X10 (oM_0 hX) ⟨(Nat.le_of_ble_eq_true rfl), (Nat.le_of_ble_eq_true rfl), (Nat.le_of_ble_eq_true rfl), (Nat.le_of_ble_eq_true rfl)⟩ dX10_sings_66 (t_X10_hinders hX hC.tr _ _ _ _ _ h) rfl rfl rfl (Nat.le_of_ble_eq_true rfl) (fun q13 h => ?_)
  refine a_aload_n (pc := 69) hC dX10_sings_69 rfl ?_
  refine a_iload_n (pc := 70) hC dX10_sings_70 rfl ?_
  refine a_iconst (pc := 71) hC dX10_sings_71 (v := 1) rfl ?_
  refine a_icmp_ge (pc := 72) (tgt := 79) hC dX10_sings_72 (by decide) (fun c => ?_) (fun c => ?_)
  · replace h := h.1 c
    refine a_iconst (pc := 79) hC dX10_sings_79 (v := 0) rfl ?_
    exact (tJX10_sings_80 hX P hR hC hE _ _ _ _ _ h).forget ⟨rfl, rfl, rfl, rfl, trivial⟩
  · replace h := h.2 c
    refine a_iconst (pc := 75) hC dX10_sings_75 (v := 1) rfl ?_
    refine a_goto (pc := 76) (tgt := 80) hC dX10_sings_76 (by decide) ?_
    exact (tJX10_sings_80 hX P hR hC hE _ _ _ _ _ h).forget ⟨rfl, rfl, rfl, rfl, trivial⟩
set_option maxRecDepth 20000 in
theorem tJX10_sings_14 {f : aF} {g : aG} (hX : isM g) (P : Int32 → aS → Prop) (hR : f_R f = aR 3 0 0) (hC : aOK f g cX10_sings 9 RX10) (hE : aEi f g .int P (fun _ _ => False) 0 0) (j1 : Int32) (s0 : Int32) (q : aS) (h : JX10_sings_14 j1 s0 P q) : AW f g 14 [some (.ref (gAd g 0)), some (.int j1), none, none, none, none, none, none, none] [.int s0, .ref (gAd g 0)] q 0 0 := by
  unfold JX10_sings_14 at h
  refine a_iconst (pc := 14) hC dX10_sings_14 (v := 2) rfl ?_
  refine a_iload_n (pc := 15) hC dX10_sings_15 rfl ?_
  refine a_callVv (pc := 16) hC hR vm_X10_hinders tw_1616 cl_X10 (oM_0 hX) ⟨(Nat.le_of_ble_eq_true rfl), (Nat.le_of_ble_eq_true rfl), (Nat.le_of_ble_eq_true rfl), (Nat.le_of_ble_eq_true rfl)⟩ dX10_sings_16 (t_X10_hinders hX hC.tr _ _ _ _ _ h) rfl rfl rfl (Nat.le_of_ble_eq_true rfl) (fun q5 h => ?_)
  refine a_aload_n (pc := 19) hC dX10_sings_19 rfl ?_
  refine a_get (pc := 20) hC cl_X10 (oM_0 hX) 16 (by decide) tw_1520 rfl dX10_sings_20 ?_
  refine a_if_eq (pc := 23) (tgt := 28) hC dX10_sings_23 (by decide) (fun c => ?_) (fun c => ?_)
  · replace h := h.1 c
    refine a_aload_n (pc := 28) hC dX10_sings_28 rfl ?_
    refine a_get (pc := 29) hC cl_X10 (oM_0 hX) 0 (by decide) tw_1504 rfl dX10_sings_29 ?_
    refine a_iload_n (pc := 32) hC dX10_sings_32 rfl ?_
    refine a_callS (pc := 33) hC hR sm_X10_singerAt tw_1658 ⟨(Nat.le_of_ble_eq_true rfl), (Nat.le_of_ble_eq_true rfl), (Nat.le_of_ble_eq_true rfl), (Nat.le_of_ble_eq_true rfl)⟩ dX10_sings_33 (t_X10_singerAt hX hC.tr _ _ _ h) rfl rfl rfl (Nat.le_of_ble_eq_true rfl) (fun r6 q7 h => ?_)
    refine a_iconst (pc := 36) hC dX10_sings_36 (v := 2) rfl ?_
    refine a_iadd (pc := 37) hC dX10_sings_37 ?_
    refine a_iald (pc := 38) hC (oM_1 hX) h.1 dX10_sings_38 ?_
    replace h := h.2
    refine a_istore_n (pc := 39) hC dX10_sings_39 (Nat.le_of_ble_eq_true rfl) ?_
    replace h := h _ rfl
    refine a_aload_n (pc := 40) hC dX10_sings_40 rfl ?_
    refine a_get (pc := 41) hC cl_X10 (oM_0 hX) 0 (by decide) tw_1504 rfl dX10_sings_41 ?_
    refine a_iload_n (pc := 44) hC dX10_sings_44 rfl ?_
    refine a_callS (pc := 45) hC hR sm_X10_singerAt tw_1658 ⟨(Nat.le_of_ble_eq_true rfl), (Nat.le_of_ble_eq_true rfl), (Nat.le_of_ble_eq_true rfl), (Nat.le_of_ble_eq_true rfl)⟩ dX10_sings_45 (t_X10_singerAt hX hC.tr _ _ _ h) rfl rfl rfl (Nat.le_of_ble_eq_true rfl) (fun r9 q10 h => ?_)
    refine a_iconst (pc := 48) hC dX10_sings_48 (v := 1) rfl ?_
    refine a_iadd (pc := 49) hC dX10_sings_49 ?_
    refine a_iald (pc := 50) hC (oM_1 hX) h.1 dX10_sings_50 ?_
    replace h := h.2
    refine a_istore_n (pc := 51) hC dX10_sings_51 (Nat.le_of_ble_eq_true rfl) ?_
    replace h := h _ rfl
    refine a_aload_n (pc := 52) hC dX10_sings_52 rfl ?_
    refine a_iload_n (pc := 53) hC dX10_sings_53 rfl ?_
    refine a_iconst (pc := 54) hC dX10_sings_54 (v := (-1)) rfl ?_
    refine a_icmp_ne (pc := 55) (tgt := 62) hC dX10_sings_55 (by decide) (fun c => ?_) (fun c => ?_)
    · replace h := h.1 c
      refine a_iconst (pc := 62) hC dX10_sings_62 (v := 0) rfl ?_
      exact (tJX10_sings_63 hX P hR hC hE _ _ _ _ _ h).forget ⟨rfl, rfl, rfl, rfl, trivial⟩
    · replace h := h.2 c
      refine a_iconst (pc := 58) hC dX10_sings_58 (v := 1) rfl ?_
      refine a_goto (pc := 59) (tgt := 63) hC dX10_sings_59 (by decide) ?_
      exact (tJX10_sings_63 hX P hR hC hE _ _ _ _ _ h).forget ⟨rfl, rfl, rfl, rfl, trivial⟩
  · replace h := h.2 c
    refine a_iconst (pc := 26) hC dX10_sings_26 (v := 0) rfl ?_
    exact a_iret (pc := 27) hC hE h (Nat.le_of_ble_eq_true rfl) (Nat.le_of_ble_eq_true rfl) dX10_sings_27
set_option maxRecDepth 20000 in
theorem t_X10_sings {l : Launch} {g : aG} (hX : isM g) (hl : l.stackTraces = false) (x1 : Int32) (q : aS) (P : Int32 → aS → Prop) (h : w_X10_sings x1 q P) : aMi l g yX10_sings (aWs yX10_sings cX10_sings 9 (some .int)) 3 0 0 [.ref (gAd g 0), .int x1] q P (fun _ _ => False) := by
  refine aMi_of RX10 ⟨by decide +kernel, rfl⟩ (cat_all rfl) (Nat.le_of_ble_eq_true rfl) hl hX.cl (fun f hR hC hE => ?_)
  show AW f g 0 [some (.ref (gAd g 0)), some (.int x1), none, none, none, none, none, none, none] [] q 0 0
  unfold w_X10_sings at h
  refine a_aload_n (pc := 0) hC dX10_sings_0 rfl ?_
  refine a_aload_n (pc := 1) hC dX10_sings_1 rfl ?_
  refine a_iload_n (pc := 2) hC dX10_sings_2 rfl ?_
  refine a_callV (pc := 3) hC hR vm_X10_isSinger tw_1669 cl_X10 (oM_0 hX) ⟨(Nat.le_of_ble_eq_true rfl), (Nat.le_of_ble_eq_true rfl), (Nat.le_of_ble_eq_true rfl), (Nat.le_of_ble_eq_true rfl)⟩ dX10_sings_3 (t_X10_isSinger hX hC.tr _ _ _ h) rfl rfl rfl (Nat.le_of_ble_eq_true rfl) (fun r2 q3 h => ?_)
  have z_r2 := h.1
  replace h := h.2
  refine a_if_ne (pc := 6) (tgt := 13) hC dX10_sings_6 (by decide) (fun c => ?_) (fun c => ?_)
  · replace h := h.1 c
    refine a_iconst (pc := 13) hC dX10_sings_13 (v := 0) rfl ?_
    exact (tJX10_sings_14 hX P hR hC hE _ _ _ h).forget ⟨rfl, rfl, trivial⟩
  · replace h := h.2 c
    refine a_iconst (pc := 9) hC dX10_sings_9 (v := 1) rfl ?_
    refine a_goto (pc := 10) (tgt := 14) hC dX10_sings_10 (by decide) ?_
    exact (tJX10_sings_14 hX P hR hC hE _ _ _ h).forget ⟨rfl, rfl, trivial⟩
set_option maxRecDepth 20000 in
theorem t_X10_sing {l : Launch} {g : aG} (hX : isM g) (hl : l.stackTraces = false) (x1 : Int32) (q : aS) (P : Int32 → aS → Prop) (h : w_X10_sing x1 q P) : aMi l g yX10_sing (aWs yX10_sing cX10_sing 2 (some .int)) 4 0 0 [.ref (gAd g 0), .int x1] q P (fun _ _ => False) := by
  refine aMi_of RX10 ⟨by decide +kernel, rfl⟩ (cat_all rfl) (Nat.le_of_ble_eq_true rfl) hl hX.cl (fun f hR hC hE => ?_)
  show AW f g 0 [some (.ref (gAd g 0)), some (.int x1)] [] q 0 0
  unfold w_X10_sing at h
  refine a_aload_n (pc := 0) hC dX10_sing_0 rfl ?_
  refine a_callVv (pc := 1) hC hR vm_X10_begins tw_1608 cl_X10 (oM_0 hX) ⟨(Nat.le_of_ble_eq_true rfl), (Nat.le_of_ble_eq_true rfl), (Nat.le_of_ble_eq_true rfl), (Nat.le_of_ble_eq_true rfl)⟩ dX10_sing_1 (t_X10_begins hX hC.tr _ _ h) rfl rfl rfl (Nat.le_of_ble_eq_true rfl) (fun q3 h => ?_)
  refine a_aload_n (pc := 4) hC dX10_sing_4 rfl ?_
  refine a_aload_n (pc := 5) hC dX10_sing_5 rfl ?_
  refine a_iload_n (pc := 6) hC dX10_sing_6 rfl ?_
  refine a_callV (pc := 7) hC hR vm_X10_sings tw_1740 cl_X10 (oM_0 hX) ⟨(Nat.le_of_ble_eq_true rfl), (Nat.le_of_ble_eq_true rfl), (Nat.le_of_ble_eq_true rfl), (Nat.le_of_ble_eq_true rfl)⟩ dX10_sing_7 (t_X10_sings hX hC.tr _ _ _ h) rfl rfl rfl (Nat.le_of_ble_eq_true rfl) (fun r4 q5 h => ?_)
  refine a_callV (pc := 10) hC hR vm_X10_ends tw_1623 cl_X10 (oM_0 hX) ⟨(Nat.le_of_ble_eq_true rfl), (Nat.le_of_ble_eq_true rfl), (Nat.le_of_ble_eq_true rfl), (Nat.le_of_ble_eq_true rfl)⟩ dX10_sing_10 (t_X10_ends hX hC.tr _ _ _ h) rfl rfl rfl (Nat.le_of_ble_eq_true rfl) (fun r6 q7 h => ?_)
  exact a_iret (pc := 13) hC hE h (Nat.le_of_ble_eq_true rfl) (Nat.le_of_ble_eq_true rfl) dX10_sing_13
set_option maxRecDepth 20000 in
theorem tLX10_passes_4 {f : aF} {g : aG} (hX : isM g) (P : Int32 → aS → Prop) (hR : f_R f = aR 1 0 0) (hC : aOK f g cX10_passes 4 RX10) (hE : aEi f g .int P (fun _ _ => False) 0 0) (c1 : Int32) {K : aS → Prop} (hK : ∀ (q : aS), K q → AW f g 48 [some (.ref (gAd g 0)), some (.int c1), none, none] [] q 0 0) : ∀ (N : Nat) (v2 : Int32) (q : aS), LX10_passes_4 c1 P K N v2 q → AW f g 4 [some (.ref (gAd g 0)), some (.int c1), some (.int v2), none] [] q 0 0 := by
  intro N
  induction N with
  | zero =>
    intro v2 q h
    exact h.elim
  | succ N ih =>
    intro v2 q h
    unfold LX10_passes_4 at h
    refine a_iload_n (pc := 4) hC dX10_passes_4 rfl ?_
    refine a_aload_n (pc := 5) hC dX10_passes_5 rfl ?_
    refine a_get (pc := 6) hC cl_X10 (oM_0 hX) 0 (by decide) tw_1504 rfl dX10_passes_6 ?_
    refine a_iconst (pc := 9) hC dX10_passes_9 (v := 0) rfl ?_
    refine a_iald (pc := 10) hC (oM_1 hX) h.1 dX10_passes_10 ?_
    replace h := h.2
    refine a_icmp_ge (pc := 11) (tgt := 48) hC dX10_passes_11 (by decide) (fun c => ?_) (fun c => ?_)
    · replace h := h.1 c
      exact (hK _ h).forget ⟨rfl, rfl, trivial⟩
    · replace h := h.2 c
      refine a_aload_n (pc := 14) hC dX10_passes_14 rfl ?_
      refine a_get (pc := 15) hC cl_X10 (oM_0 hX) 0 (by decide) tw_1504 rfl dX10_passes_15 ?_
      refine a_iload_n (pc := 18) hC dX10_passes_18 rfl ?_
      refine a_callS (pc := 19) hC hR sm_X10_roomAt tw_1620 ⟨(Nat.le_of_ble_eq_true rfl), (Nat.le_of_ble_eq_true rfl), (Nat.le_of_ble_eq_true rfl), (Nat.le_of_ble_eq_true rfl)⟩ dX10_passes_19 (t_X10_roomAt hX hC.tr _ _ _ h) rfl rfl rfl (Nat.le_of_ble_eq_true rfl) (fun r1 q2 h => ?_)
      refine a_iconst (pc := 22) hC dX10_passes_22 (v := 1) rfl ?_
      refine a_iadd (pc := 23) hC dX10_passes_23 ?_
      refine a_iconst (pc := 24) hC dX10_passes_24 (v := 0) rfl ?_
      refine a_aload_n (pc := 25) hC dX10_passes_25 rfl ?_
      refine a_get (pc := 26) hC cl_X10 (oM_0 hX) 0 (by decide) tw_1504 rfl dX10_passes_26 ?_
      refine a_iload_n (pc := 29) hC dX10_passes_29 rfl ?_
      refine a_callS (pc := 30) hC hR sm_X10_roomAt tw_1620 ⟨(Nat.le_of_ble_eq_true rfl), (Nat.le_of_ble_eq_true rfl), (Nat.le_of_ble_eq_true rfl), (Nat.le_of_ble_eq_true rfl)⟩ dX10_passes_30 (t_X10_roomAt hX hC.tr _ _ _ h) rfl rfl rfl (Nat.le_of_ble_eq_true rfl) (fun r3 q4 h => ?_)
      refine a_iconst (pc := 33) hC dX10_passes_33 (v := 1) rfl ?_
      refine a_iadd (pc := 34) hC dX10_passes_34 ?_
      refine a_iald (pc := 35) hC (oM_1 hX) h.1 dX10_passes_35 ?_
      replace h := h.2
      refine a_iconst (pc := 36) hC dX10_passes_36 (v := 2) rfl ?_
      refine a_isub (pc := 37) hC dX10_passes_37 ?_
      refine a_mmax (pc := 38) hC hR ⟨(Nat.le_of_ble_eq_true rfl), (Nat.le_of_ble_eq_true rfl), (Nat.le_of_ble_eq_true rfl)⟩ rfl tw_1727 tw_368 tw_24 tw_369 (Nat.le_of_ble_eq_true rfl) dX10_passes_38 ?_
      refine a_iast (pc := 41) hC (oM_1 hX) h.1 dX10_passes_41 ?_
      replace h := h.2
      replace h := h _ rfl
      refine a_iinc (pc := 42) hC dX10_passes_42 rfl (c := 1) rfl ?_
      replace h := h _ rfl
      refine a_goto (pc := 45) (tgt := 4) hC dX10_passes_45 (by decide) ?_
      exact (ih _ _ h).forget ⟨rfl, rfl, rfl, trivial⟩
set_option maxRecDepth 20000 in
theorem tLX10_passes_50 {f : aF} {g : aG} (hX : isM g) (P : Int32 → aS → Prop) (hR : f_R f = aR 1 0 0) (hC : aOK f g cX10_passes 4 RX10) (hE : aEi f g .int P (fun _ _ => False) 0 0) {K : Int32 → aS → Prop} (hK : ∀ (w1 : Int32) (q : aS), K w1 q → AW f g 113 [some (.ref (gAd g 0)), some (.int w1), none, none] [] q 0 0) : ∀ (N : Nat) (v1 : Int32) (v2 : Int32) (q : aS), LX10_passes_50 P K N v1 v2 q → AW f g 50 [some (.ref (gAd g 0)), some (.int v1), some (.int v2), none] [] q 0 0 := by
  intro N
  induction N with
  | zero =>
    intro v1 v2 q h
    exact h.elim
  | succ N ih =>
    intro v1 v2 q h
    unfold LX10_passes_50 at h
    refine a_iload_n (pc := 50) hC dX10_passes_50 rfl ?_
    refine a_aload_n (pc := 51) hC dX10_passes_51 rfl ?_
    refine a_get (pc := 52) hC cl_X10 (oM_0 hX) 0 (by decide) tw_1504 rfl dX10_passes_52 ?_
    refine a_iconst (pc := 55) hC dX10_passes_55 (v := 2) rfl ?_
    refine a_iald (pc := 56) hC (oM_1 hX) h.1 dX10_passes_56 ?_
    replace h := h.2
    refine a_icmp_ge (pc := 57) (tgt := 113) hC dX10_passes_57 (by decide) (fun c => ?_) (fun c => ?_)
    · replace h := h.1 c
      exact (hK _ _ h).forget ⟨rfl, rfl, trivial⟩
    · replace h := h.2 c
      refine a_aload_n (pc := 60) hC dX10_passes_60 rfl ?_
      refine a_get (pc := 61) hC cl_X10 (oM_0 hX) 0 (by decide) tw_1504 rfl dX10_passes_61 ?_
      refine a_iload_n (pc := 64) hC dX10_passes_64 rfl ?_
      refine a_callS (pc := 65) hC hR sm_X10_singerAt tw_1658 ⟨(Nat.le_of_ble_eq_true rfl), (Nat.le_of_ble_eq_true rfl), (Nat.le_of_ble_eq_true rfl), (Nat.le_of_ble_eq_true rfl)⟩ dX10_passes_65 (t_X10_singerAt hX hC.tr _ _ _ h) rfl rfl rfl (Nat.le_of_ble_eq_true rfl) (fun r8 q9 h => ?_)
      refine a_iconst (pc := 68) hC dX10_passes_68 (v := 1) rfl ?_
      refine a_iadd (pc := 69) hC dX10_passes_69 ?_
      refine a_iald (pc := 70) hC (oM_1 hX) h.1 dX10_passes_70 ?_
      replace h := h.2
      refine a_istore_n (pc := 71) hC dX10_passes_71 (Nat.le_of_ble_eq_true rfl) ?_
      replace h := h _ rfl
      refine a_aload_n (pc := 72) hC dX10_passes_72 rfl ?_
      refine a_get (pc := 73) hC cl_X10 (oM_0 hX) 0 (by decide) tw_1504 rfl dX10_passes_73 ?_
      refine a_iload_n (pc := 76) hC dX10_passes_76 rfl ?_
      refine a_callS (pc := 77) hC hR sm_X10_singerAt tw_1658 ⟨(Nat.le_of_ble_eq_true rfl), (Nat.le_of_ble_eq_true rfl), (Nat.le_of_ble_eq_true rfl), (Nat.le_of_ble_eq_true rfl)⟩ dX10_passes_77 (t_X10_singerAt hX hC.tr _ _ _ h) rfl rfl rfl (Nat.le_of_ble_eq_true rfl) (fun r11 q12 h => ?_)
      refine a_iconst (pc := 80) hC dX10_passes_80 (v := 1) rfl ?_
      refine a_iadd (pc := 81) hC dX10_passes_81 ?_
      refine a_bipush (pc := 82) hC dX10_passes_82 (v := 99) rfl ?_
      refine a_iload_n (pc := 84) hC dX10_passes_84 rfl ?_
      refine a_iconst (pc := 85) hC dX10_passes_85 (v := 3) rfl ?_
      refine a_iadd (pc := 86) hC dX10_passes_86 ?_
      refine a_mmin (pc := 87) hC hR ⟨(Nat.le_of_ble_eq_true rfl), (Nat.le_of_ble_eq_true rfl), (Nat.le_of_ble_eq_true rfl)⟩ rfl tw_1726 tw_361 tw_24 tw_362 (Nat.le_of_ble_eq_true rfl) dX10_passes_87 ?_
      refine a_iast (pc := 90) hC (oM_1 hX) h.1 dX10_passes_90 ?_
      replace h := h.2
      replace h := h _ rfl
      refine a_iload_n (pc := 91) hC dX10_passes_91 rfl ?_
      refine a_aload_n (pc := 92) hC dX10_passes_92 rfl ?_
      refine a_get (pc := 93) hC cl_X10 (oM_0 hX) 0 (by decide) tw_1504 rfl dX10_passes_93 ?_
      refine a_iload_n (pc := 96) hC dX10_passes_96 rfl ?_
      refine a_callS (pc := 97) hC hR sm_X10_singerAt tw_1658 ⟨(Nat.le_of_ble_eq_true rfl), (Nat.le_of_ble_eq_true rfl), (Nat.le_of_ble_eq_true rfl), (Nat.le_of_ble_eq_true rfl)⟩ dX10_passes_97 (t_X10_singerAt hX hC.tr _ _ _ h) rfl rfl rfl (Nat.le_of_ble_eq_true rfl) (fun r14 q15 h => ?_)
      refine a_iconst (pc := 100) hC dX10_passes_100 (v := 1) rfl ?_
      refine a_iadd (pc := 101) hC dX10_passes_101 ?_
      refine a_iald (pc := 102) hC (oM_1 hX) h.1 dX10_passes_102 ?_
      replace h := h.2
      refine a_iload_n (pc := 103) hC dX10_passes_103 rfl ?_
      refine a_isub (pc := 104) hC dX10_passes_104 ?_
      refine a_iadd (pc := 105) hC dX10_passes_105 ?_
      refine a_istore_n (pc := 106) hC dX10_passes_106 (Nat.le_of_ble_eq_true rfl) ?_
      replace h := h _ rfl
      refine a_iinc (pc := 107) hC dX10_passes_107 rfl (c := 1) rfl ?_
      replace h := h _ rfl
      refine a_goto (pc := 110) (tgt := 50) hC dX10_passes_110 (by decide) ?_
      exact (ih _ _ _ h).forget ⟨rfl, rfl, rfl, trivial⟩
set_option maxRecDepth 20000 in
theorem t_X10_passes {l : Launch} {g : aG} (hX : isM g) (hl : l.stackTraces = false) (q : aS) (P : Int32 → aS → Prop) (h : w_X10_passes q P) : aMi l g yX10_passes (aWs yX10_passes cX10_passes 4 (some .int)) 1 0 0 [.ref (gAd g 0)] q P (fun _ _ => False) := by
  refine aMi_of RX10 ⟨by decide +kernel, rfl⟩ (cat_all rfl) (Nat.le_of_ble_eq_true rfl) hl hX.cl (fun f hR hC hE => ?_)
  show AW f g 0 [some (.ref (gAd g 0)), none, none, none] [] q 0 0
  unfold w_X10_passes at h
  refine a_iconst (pc := 0) hC dX10_passes_0 (v := 0) rfl ?_
  refine a_istore_n (pc := 1) hC dX10_passes_1 (Nat.le_of_ble_eq_true rfl) ?_
  refine a_iconst (pc := 2) hC dX10_passes_2 (v := 0) rfl ?_
  refine a_istore_n (pc := 3) hC dX10_passes_3 (Nat.le_of_ble_eq_true rfl) ?_
  obtain ⟨N, h⟩ := h
  refine (tLX10_passes_4 hX P hR hC hE _ (fun q7 h => ?_) N _ _ h).forget ⟨rfl, rfl, rfl, trivial⟩
  refine a_iconst (pc := 48) hC dX10_passes_48 (v := 0) rfl ?_
  refine a_istore_n (pc := 49) hC dX10_passes_49 (Nat.le_of_ble_eq_true rfl) ?_
  obtain ⟨N, h⟩ := h
  refine (tLX10_passes_50 hX P hR hC hE (fun y18 q19 h => ?_) N _ _ _ h).forget ⟨rfl, rfl, rfl, trivial⟩
  refine a_aload_n (pc := 113) hC dX10_passes_113 rfl ?_
  refine a_get (pc := 114) hC cl_X10 (oM_0 hX) 0 (by decide) tw_1504 rfl dX10_passes_114 ?_
  refine a_iconst (pc := 117) hC dX10_passes_117 (v := 3) rfl ?_
  refine a_dup2 (pc := 118) hC dX10_passes_118 rfl rfl ?_
  refine a_iald (pc := 119) hC (oM_1 hX) h.1 dX10_passes_119 ?_
  replace h := h.2
  refine a_iconst (pc := 120) hC dX10_passes_120 (v := 1) rfl ?_
  refine a_iadd (pc := 121) hC dX10_passes_121 ?_
  refine a_iast (pc := 122) hC (oM_1 hX) h.1 dX10_passes_122 ?_
  replace h := h.2
  replace h := h _ rfl
  refine a_iload_n (pc := 123) hC dX10_passes_123 rfl ?_
  exact a_iret (pc := 124) hC hE h (Nat.le_of_ble_eq_true rfl) (Nat.le_of_ble_eq_true rfl) dX10_passes_124
set_option maxRecDepth 20000 in
theorem t_X10_night {l : Launch} {g : aG} (hX : isM g) (hl : l.stackTraces = false) (q : aS) (P : Int32 → aS → Prop) (h : w_X10_night q P) : aMi l g yX10_night (aWs yX10_night cX10_night 1 (some .int)) 3 0 0 [.ref (gAd g 0)] q P (fun _ _ => False) := by
  refine aMi_of RX10 ⟨by decide +kernel, rfl⟩ (cat_all rfl) (Nat.le_of_ble_eq_true rfl) hl hX.cl (fun f hR hC hE => ?_)
  show AW f g 0 [some (.ref (gAd g 0))] [] q 0 0
  unfold w_X10_night at h
  refine a_aload_n (pc := 0) hC dX10_night_0 rfl ?_
  refine a_callVv (pc := 1) hC hR vm_X10_begins tw_1608 cl_X10 (oM_0 hX) ⟨(Nat.le_of_ble_eq_true rfl), (Nat.le_of_ble_eq_true rfl), (Nat.le_of_ble_eq_true rfl), (Nat.le_of_ble_eq_true rfl)⟩ dX10_night_1 (t_X10_begins hX hC.tr _ _ h) rfl rfl rfl (Nat.le_of_ble_eq_true rfl) (fun q2 h => ?_)
  refine a_aload_n (pc := 4) hC dX10_night_4 rfl ?_
  refine a_aload_n (pc := 5) hC dX10_night_5 rfl ?_
  refine a_callV (pc := 6) hC hR vm_X10_passes tw_1748 cl_X10 (oM_0 hX) ⟨(Nat.le_of_ble_eq_true rfl), (Nat.le_of_ble_eq_true rfl), (Nat.le_of_ble_eq_true rfl), (Nat.le_of_ble_eq_true rfl)⟩ dX10_night_6 (t_X10_passes hX hC.tr _ _ h) rfl rfl rfl (Nat.le_of_ble_eq_true rfl) (fun r3 q4 h => ?_)
  refine a_callV (pc := 9) hC hR vm_X10_ends tw_1623 cl_X10 (oM_0 hX) ⟨(Nat.le_of_ble_eq_true rfl), (Nat.le_of_ble_eq_true rfl), (Nat.le_of_ble_eq_true rfl), (Nat.le_of_ble_eq_true rfl)⟩ dX10_night_9 (t_X10_ends hX hC.tr _ _ _ h) rfl rfl rfl (Nat.le_of_ble_eq_true rfl) (fun r5 q6 h => ?_)
  exact a_iret (pc := 12) hC hE h (Nat.le_of_ble_eq_true rfl) (Nat.le_of_ble_eq_true rfl) dX10_night_12
