theorem dX9_room_0 : decode cX9_room 0 = .ok (.aload_n 0, 1) := by decide +kernel
theorem dX9_room_1 : decode cX9_room 1 = .ok (.getstatic 50, 3) := by decide +kernel
theorem dX9_room_4 : decode cX9_room 4 = .ok (.iload_n 1, 1) := by decide +kernel
theorem dX9_room_5 : decode cX9_room 5 = .ok (.iconst 0, 1) := by decide +kernel
theorem dX9_room_6 : decode cX9_room 6 = .ok (.iconst 0, 1) := by decide +kernel
theorem dX9_room_7 : decode cX9_room 7 = .ok (.invokevirtual 56, 3) := by decide +kernel
theorem dX9_room_10 : decode cX9_room 10 = .ok (.ireturn, 1) := by decide +kernel
theorem vm_X9_room : aVm yX9_room RX9 cX9_room 2 (some .int) 1 := ⟨tw_682, tw_680, tw_681, tw_1, rfl, by decide +kernel, by decide +kernel, by decide +kernel⟩
theorem dX9_echo_0 : decode cX9_echo 0 = .ok (.aload_n 0, 1) := by decide +kernel
theorem dX9_echo_1 : decode cX9_echo 1 = .ok (.getstatic 60, 3) := by decide +kernel
theorem dX9_echo_4 : decode cX9_echo 4 = .ok (.iload_n 1, 1) := by decide +kernel
theorem dX9_echo_5 : decode cX9_echo 5 = .ok (.iload_n 2, 1) := by decide +kernel
theorem dX9_echo_6 : decode cX9_echo 6 = .ok (.iconst 0, 1) := by decide +kernel
theorem dX9_echo_7 : decode cX9_echo 7 = .ok (.invokevirtual 56, 3) := by decide +kernel
theorem dX9_echo_10 : decode cX9_echo 10 = .ok (.ireturn, 1) := by decide +kernel
theorem vm_X9_echo : aVm yX9_echo RX9 cX9_echo 3 (some .int) 2 := ⟨tw_853, tw_851, tw_852, tw_1, rfl, by decide +kernel, by decide +kernel, by decide +kernel⟩
theorem dX9_singer_0 : decode cX9_singer 0 = .ok (.aload_n 0, 1) := by decide +kernel
theorem dX9_singer_1 : decode cX9_singer 1 = .ok (.getstatic 63, 3) := by decide +kernel
theorem dX9_singer_4 : decode cX9_singer 4 = .ok (.iload_n 1, 1) := by decide +kernel
theorem dX9_singer_5 : decode cX9_singer 5 = .ok (.iload_n 2, 1) := by decide +kernel
theorem dX9_singer_6 : decode cX9_singer 6 = .ok (.iconst 0, 1) := by decide +kernel
theorem dX9_singer_7 : decode cX9_singer 7 = .ok (.invokevirtual 56, 3) := by decide +kernel
theorem dX9_singer_10 : decode cX9_singer 10 = .ok (.ireturn, 1) := by decide +kernel
theorem vm_X9_singer : aVm yX9_singer RX9 cX9_singer 3 (some .int) 2 := ⟨tw_859, tw_857, tw_858, tw_1, rfl, by decide +kernel, by decide +kernel, by decide +kernel⟩
theorem dX9_enter_0 : decode cX9_enter 0 = .ok (.aload_n 0, 1) := by decide +kernel
theorem dX9_enter_1 : decode cX9_enter 1 = .ok (.getstatic 66, 3) := by decide +kernel
theorem dX9_enter_4 : decode cX9_enter 4 = .ok (.iload_n 1, 1) := by decide +kernel
theorem dX9_enter_5 : decode cX9_enter 5 = .ok (.iload_n 2, 1) := by decide +kernel
theorem dX9_enter_6 : decode cX9_enter 6 = .ok (.iconst 0, 1) := by decide +kernel
theorem dX9_enter_7 : decode cX9_enter 7 = .ok (.invokevirtual 56, 3) := by decide +kernel
theorem dX9_enter_10 : decode cX9_enter 10 = .ok (.ireturn, 1) := by decide +kernel
theorem vm_X9_enter : aVm yX9_enter RX9 cX9_enter 3 (some .int) 2 := ⟨tw_865, tw_863, tw_864, tw_1, rfl, by decide +kernel, by decide +kernel, by decide +kernel⟩
theorem dX9_out_0 : decode cX9_out 0 = .ok (.aload_n 0, 1) := by decide +kernel
theorem dX9_out_1 : decode cX9_out 1 = .ok (.getstatic 69, 3) := by decide +kernel
theorem dX9_out_4 : decode cX9_out 4 = .ok (.iload_n 1, 1) := by decide +kernel
theorem dX9_out_5 : decode cX9_out 5 = .ok (.iconst 0, 1) := by decide +kernel
theorem dX9_out_6 : decode cX9_out 6 = .ok (.iconst 0, 1) := by decide +kernel
theorem dX9_out_7 : decode cX9_out 7 = .ok (.invokevirtual 56, 3) := by decide +kernel
theorem dX9_out_10 : decode cX9_out 10 = .ok (.ireturn, 1) := by decide +kernel
theorem vm_X9_out : aVm yX9_out RX9 cX9_out 2 (some .int) 1 := ⟨tw_871, tw_869, tw_870, tw_1, rfl, by decide +kernel, by decide +kernel, by decide +kernel⟩
theorem dX9_carry_0 : decode cX9_carry 0 = .ok (.aload_n 0, 1) := by decide +kernel
theorem dX9_carry_1 : decode cX9_carry 1 = .ok (.getstatic 72, 3) := by decide +kernel
theorem dX9_carry_4 : decode cX9_carry 4 = .ok (.iload_n 1, 1) := by decide +kernel
theorem dX9_carry_5 : decode cX9_carry 5 = .ok (.iload_n 2, 1) := by decide +kernel
theorem dX9_carry_6 : decode cX9_carry 6 = .ok (.iconst 0, 1) := by decide +kernel
theorem dX9_carry_7 : decode cX9_carry 7 = .ok (.invokevirtual 56, 3) := by decide +kernel
theorem dX9_carry_10 : decode cX9_carry 10 = .ok (.ireturn, 1) := by decide +kernel
theorem vm_X9_carry : aVm yX9_carry RX9 cX9_carry 3 (some .int) 2 := ⟨tw_877, tw_875, tw_876, tw_1, rfl, by decide +kernel, by decide +kernel, by decide +kernel⟩
theorem dX9_rent_0 : decode cX9_rent 0 = .ok (.aload_n 0, 1) := by decide +kernel
theorem dX9_rent_1 : decode cX9_rent 1 = .ok (.getstatic 75, 3) := by decide +kernel
theorem dX9_rent_4 : decode cX9_rent 4 = .ok (.iload_n 1, 1) := by decide +kernel
theorem dX9_rent_5 : decode cX9_rent 5 = .ok (.iload_n 2, 1) := by decide +kernel
theorem dX9_rent_6 : decode cX9_rent 6 = .ok (.iload_n 3, 1) := by decide +kernel
theorem dX9_rent_7 : decode cX9_rent 7 = .ok (.invokevirtual 56, 3) := by decide +kernel
theorem dX9_rent_10 : decode cX9_rent 10 = .ok (.ireturn, 1) := by decide +kernel
theorem vm_X9_rent : aVm yX9_rent RX9 cX9_rent 4 (some .int) 3 := ⟨tw_883, tw_881, tw_882, tw_1, rfl, by decide +kernel, by decide +kernel, by decide +kernel⟩
theorem dX9_back_0 : decode cX9_back 0 = .ok (.aload_n 0, 1) := by decide +kernel
theorem dX9_back_1 : decode cX9_back 1 = .ok (.getstatic 78, 3) := by decide +kernel
theorem dX9_back_4 : decode cX9_back 4 = .ok (.iload_n 1, 1) := by decide +kernel
theorem dX9_back_5 : decode cX9_back 5 = .ok (.iload_n 2, 1) := by decide +kernel
theorem dX9_back_6 : decode cX9_back 6 = .ok (.iconst 0, 1) := by decide +kernel
theorem dX9_back_7 : decode cX9_back 7 = .ok (.invokevirtual 56, 3) := by decide +kernel
theorem dX9_back_10 : decode cX9_back 10 = .ok (.ireturn, 1) := by decide +kernel
theorem vm_X9_back : aVm yX9_back RX9 cX9_back 3 (some .int) 2 := ⟨tw_889, tw_887, tw_888, tw_1, rfl, by decide +kernel, by decide +kernel, by decide +kernel⟩
theorem dX9_sing_0 : decode cX9_sing 0 = .ok (.aload_n 0, 1) := by decide +kernel
theorem dX9_sing_1 : decode cX9_sing 1 = .ok (.getstatic 81, 3) := by decide +kernel
theorem dX9_sing_4 : decode cX9_sing 4 = .ok (.iload_n 1, 1) := by decide +kernel
theorem dX9_sing_5 : decode cX9_sing 5 = .ok (.iconst 0, 1) := by decide +kernel
theorem dX9_sing_6 : decode cX9_sing 6 = .ok (.iconst 0, 1) := by decide +kernel
theorem dX9_sing_7 : decode cX9_sing 7 = .ok (.invokevirtual 56, 3) := by decide +kernel
theorem dX9_sing_10 : decode cX9_sing 10 = .ok (.ireturn, 1) := by decide +kernel
theorem vm_X9_sing : aVm yX9_sing RX9 cX9_sing 2 (some .int) 1 := ⟨tw_895, tw_893, tw_894, tw_1, rfl, by decide +kernel, by decide +kernel, by decide +kernel⟩
theorem dX9_night_0 : decode cX9_night 0 = .ok (.aload_n 0, 1) := by decide +kernel
theorem dX9_night_1 : decode cX9_night 1 = .ok (.getfield 25, 3) := by decide +kernel
theorem dX9_night_4 : decode cX9_night 4 = .ok (.aload_n 0, 1) := by decide +kernel
theorem dX9_night_5 : decode cX9_night 5 = .ok (.getfield 10, 3) := by decide +kernel
theorem dX9_night_8 : decode cX9_night 8 = .ok (.invokevirtual 84, 3) := by decide +kernel
theorem dX9_night_11 : decode cX9_night 11 = .ok (.aload_n 0, 1) := by decide +kernel
theorem dX9_night_12 : decode cX9_night 12 = .ok (.getfield 10, 3) := by decide +kernel
theorem dX9_night_15 : decode cX9_night 15 = .ok (.invokevirtual 88, 3) := by decide +kernel
theorem dX9_night_18 : decode cX9_night 18 = .ok (.ireturn, 1) := by decide +kernel
theorem vm_X9_night : aVm yX9_night RX9 cX9_night 1 (some .int) 0 := ⟨tw_901, tw_899, tw_900, tw_1, rfl, by decide +kernel, by decide +kernel, by decide +kernel⟩
theorem dX9_roomOf_0 : decode cX9_roomOf 0 = .ok (.aload_n 0, 1) := by decide +kernel
theorem dX9_roomOf_1 : decode cX9_roomOf 1 = .ok (.iload_n 1, 1) := by decide +kernel
theorem dX9_roomOf_2 : decode cX9_roomOf 2 = .ok (.invokevirtual 92, 3) := by decide +kernel
theorem dX9_roomOf_5 : decode cX9_roomOf 5 = .ok (.iload_n 2, 1) := by decide +kernel
theorem dX9_roomOf_6 : decode cX9_roomOf 6 = .ok (.tableswitch 124 0 5 #[38, 51, 64, 76, 88, 111], 38) := by decide +kernel
theorem dX9_roomOf_44 : decode cX9_roomOf 44 = .ok (.aload_n 0, 1) := by decide +kernel
theorem dX9_roomOf_45 : decode cX9_roomOf 45 = .ok (.getfield 10, 3) := by decide +kernel
theorem dX9_roomOf_48 : decode cX9_roomOf 48 = .ok (.getfield 96, 3) := by decide +kernel
theorem dX9_roomOf_51 : decode cX9_roomOf 51 = .ok (.getfield 100, 3) := by decide +kernel
theorem dX9_roomOf_54 : decode cX9_roomOf 54 = .ok (.iload_n 1, 1) := by decide +kernel
theorem dX9_roomOf_55 : decode cX9_roomOf 55 = .ok (.iaload, 1) := by decide +kernel
theorem dX9_roomOf_56 : decode cX9_roomOf 56 = .ok (.ireturn, 1) := by decide +kernel
theorem dX9_roomOf_57 : decode cX9_roomOf 57 = .ok (.aload_n 0, 1) := by decide +kernel
theorem dX9_roomOf_58 : decode cX9_roomOf 58 = .ok (.getfield 10, 3) := by decide +kernel
theorem dX9_roomOf_61 : decode cX9_roomOf 61 = .ok (.getfield 96, 3) := by decide +kernel
theorem dX9_roomOf_64 : decode cX9_roomOf 64 = .ok (.getfield 106, 3) := by decide +kernel
theorem dX9_roomOf_67 : decode cX9_roomOf 67 = .ok (.iload_n 1, 1) := by decide +kernel
theorem dX9_roomOf_68 : decode cX9_roomOf 68 = .ok (.iaload, 1) := by decide +kernel
theorem dX9_roomOf_69 : decode cX9_roomOf 69 = .ok (.ireturn, 1) := by decide +kernel
theorem dX9_roomOf_70 : decode cX9_roomOf 70 = .ok (.aload_n 0, 1) := by decide +kernel
theorem dX9_roomOf_71 : decode cX9_roomOf 71 = .ok (.getfield 10, 3) := by decide +kernel
theorem dX9_roomOf_74 : decode cX9_roomOf 74 = .ok (.iload_n 1, 1) := by decide +kernel
theorem dX9_roomOf_75 : decode cX9_roomOf 75 = .ok (.invokevirtual 109, 3) := by decide +kernel
theorem dX9_roomOf_78 : decode cX9_roomOf 78 = .ok (.invokestatic 113, 3) := by decide +kernel
theorem dX9_roomOf_81 : decode cX9_roomOf 81 = .ok (.ireturn, 1) := by decide +kernel
theorem dX9_roomOf_82 : decode cX9_roomOf 82 = .ok (.aload_n 0, 1) := by decide +kernel
theorem dX9_roomOf_83 : decode cX9_roomOf 83 = .ok (.getfield 10, 3) := by decide +kernel
theorem dX9_roomOf_86 : decode cX9_roomOf 86 = .ok (.iload_n 1, 1) := by decide +kernel
theorem dX9_roomOf_87 : decode cX9_roomOf 87 = .ok (.invokevirtual 118, 3) := by decide +kernel
theorem dX9_roomOf_90 : decode cX9_roomOf 90 = .ok (.invokestatic 113, 3) := by decide +kernel
theorem dX9_roomOf_93 : decode cX9_roomOf 93 = .ok (.ireturn, 1) := by decide +kernel
theorem dX9_roomOf_94 : decode cX9_roomOf 94 = .ok (.aload_n 0, 1) := by decide +kernel
theorem dX9_roomOf_95 : decode cX9_roomOf 95 = .ok (.getfield 10, 3) := by decide +kernel
theorem dX9_roomOf_98 : decode cX9_roomOf 98 = .ok (.iload_n 1, 1) := by decide +kernel
theorem dX9_roomOf_99 : decode cX9_roomOf 99 = .ok (.invokevirtual 118, 3) := by decide +kernel
theorem dX9_roomOf_102 : decode cX9_roomOf 102 = .ok (.aload_n 0, 1) := by decide +kernel
theorem dX9_roomOf_103 : decode cX9_roomOf 103 = .ok (.getfield 10, 3) := by decide +kernel
theorem dX9_roomOf_106 : decode cX9_roomOf 106 = .ok (.iload_n 1, 1) := by decide +kernel
theorem dX9_roomOf_107 : decode cX9_roomOf 107 = .ok (.invokevirtual 121, 3) := by decide +kernel
theorem dX9_roomOf_110 : decode cX9_roomOf 110 = .ok (.iconst (-1), 1) := by decide +kernel
theorem dX9_roomOf_111 : decode cX9_roomOf 111 = .ok (.ixor, 1) := by decide +kernel
theorem dX9_roomOf_112 : decode cX9_roomOf 112 = .ok (.iand, 1) := by decide +kernel
theorem dX9_roomOf_113 : decode cX9_roomOf 113 = .ok (.invokestatic 113, 3) := by decide +kernel
theorem dX9_roomOf_116 : decode cX9_roomOf 116 = .ok (.ireturn, 1) := by decide +kernel
theorem dX9_roomOf_117 : decode cX9_roomOf 117 = .ok (.aload_n 0, 1) := by decide +kernel
theorem dX9_roomOf_118 : decode cX9_roomOf 118 = .ok (.getfield 10, 3) := by decide +kernel
theorem dX9_roomOf_121 : decode cX9_roomOf 121 = .ok (.getfield 96, 3) := by decide +kernel
theorem dX9_roomOf_124 : decode cX9_roomOf 124 = .ok (.getfield 124, 3) := by decide +kernel
theorem dX9_roomOf_127 : decode cX9_roomOf 127 = .ok (.iload_n 1, 1) := by decide +kernel
theorem dX9_roomOf_128 : decode cX9_roomOf 128 = .ok (.iaload, 1) := by decide +kernel
theorem dX9_roomOf_129 : decode cX9_roomOf 129 = .ok (.ireturn, 1) := by decide +kernel
theorem dX9_roomOf_130 : decode cX9_roomOf 130 = .ok (.new 127, 3) := by decide +kernel
theorem dX9_roomOf_133 : decode cX9_roomOf 133 = .ok (.dup, 1) := by decide +kernel
theorem dX9_roomOf_134 : decode cX9_roomOf 134 = .ok (.ldc 129, 2) := by decide +kernel
theorem dX9_roomOf_136 : decode cX9_roomOf 136 = .ok (.invokespecial 131, 3) := by decide +kernel
theorem dX9_roomOf_139 : decode cX9_roomOf 139 = .ok (.athrow, 1) := by decide +kernel
theorem vm_X9_roomOf : aVm yX9_roomOf RX9 cX9_roomOf 3 (some .int) 2 := ⟨tw_465, tw_463, tw_464, tw_1, rfl, by decide +kernel, by decide +kernel, by decide +kernel⟩
theorem dX9_echoOf_0 : decode cX9_echoOf 0 = .ok (.aload_n 0, 1) := by decide +kernel
theorem dX9_echoOf_1 : decode cX9_echoOf 1 = .ok (.iload_n 1, 1) := by decide +kernel
theorem dX9_echoOf_2 : decode cX9_echoOf 2 = .ok (.invokevirtual 134, 3) := by decide +kernel
theorem dX9_echoOf_5 : decode cX9_echoOf 5 = .ok (.iload_n 2, 1) := by decide +kernel
theorem dX9_echoOf_6 : decode cX9_echoOf 6 = .ok (.tableswitch 99 0 4 #[34, 47, 60, 73, 86], 34) := by decide +kernel
theorem dX9_echoOf_40 : decode cX9_echoOf 40 = .ok (.aload_n 0, 1) := by decide +kernel
theorem dX9_echoOf_41 : decode cX9_echoOf 41 = .ok (.getfield 10, 3) := by decide +kernel
theorem dX9_echoOf_44 : decode cX9_echoOf 44 = .ok (.getfield 137, 3) := by decide +kernel
theorem dX9_echoOf_47 : decode cX9_echoOf 47 = .ok (.getfield 141, 3) := by decide +kernel
theorem dX9_echoOf_50 : decode cX9_echoOf 50 = .ok (.iload_n 1, 1) := by decide +kernel
theorem dX9_echoOf_51 : decode cX9_echoOf 51 = .ok (.iaload, 1) := by decide +kernel
theorem dX9_echoOf_52 : decode cX9_echoOf 52 = .ok (.ireturn, 1) := by decide +kernel
theorem dX9_echoOf_53 : decode cX9_echoOf 53 = .ok (.aload_n 0, 1) := by decide +kernel
theorem dX9_echoOf_54 : decode cX9_echoOf 54 = .ok (.getfield 10, 3) := by decide +kernel
theorem dX9_echoOf_57 : decode cX9_echoOf 57 = .ok (.getfield 137, 3) := by decide +kernel
theorem dX9_echoOf_60 : decode cX9_echoOf 60 = .ok (.getfield 146, 3) := by decide +kernel
theorem dX9_echoOf_63 : decode cX9_echoOf 63 = .ok (.iload_n 1, 1) := by decide +kernel
theorem dX9_echoOf_64 : decode cX9_echoOf 64 = .ok (.iaload, 1) := by decide +kernel
theorem dX9_echoOf_65 : decode cX9_echoOf 65 = .ok (.ireturn, 1) := by decide +kernel
theorem dX9_echoOf_66 : decode cX9_echoOf 66 = .ok (.aload_n 0, 1) := by decide +kernel
theorem dX9_echoOf_67 : decode cX9_echoOf 67 = .ok (.getfield 10, 3) := by decide +kernel
theorem dX9_echoOf_70 : decode cX9_echoOf 70 = .ok (.getfield 137, 3) := by decide +kernel
theorem dX9_echoOf_73 : decode cX9_echoOf 73 = .ok (.getfield 149, 3) := by decide +kernel
theorem dX9_echoOf_76 : decode cX9_echoOf 76 = .ok (.iload_n 1, 1) := by decide +kernel
theorem dX9_echoOf_77 : decode cX9_echoOf 77 = .ok (.iaload, 1) := by decide +kernel
theorem dX9_echoOf_78 : decode cX9_echoOf 78 = .ok (.ireturn, 1) := by decide +kernel
theorem dX9_echoOf_79 : decode cX9_echoOf 79 = .ok (.aload_n 0, 1) := by decide +kernel
theorem dX9_echoOf_80 : decode cX9_echoOf 80 = .ok (.getfield 10, 3) := by decide +kernel
theorem dX9_echoOf_83 : decode cX9_echoOf 83 = .ok (.getfield 137, 3) := by decide +kernel
theorem dX9_echoOf_86 : decode cX9_echoOf 86 = .ok (.getfield 152, 3) := by decide +kernel
theorem dX9_echoOf_89 : decode cX9_echoOf 89 = .ok (.iload_n 1, 1) := by decide +kernel
theorem dX9_echoOf_90 : decode cX9_echoOf 90 = .ok (.iaload, 1) := by decide +kernel
theorem dX9_echoOf_91 : decode cX9_echoOf 91 = .ok (.ireturn, 1) := by decide +kernel
theorem dX9_echoOf_92 : decode cX9_echoOf 92 = .ok (.aload_n 0, 1) := by decide +kernel
theorem dX9_echoOf_93 : decode cX9_echoOf 93 = .ok (.getfield 10, 3) := by decide +kernel
theorem dX9_echoOf_96 : decode cX9_echoOf 96 = .ok (.getfield 137, 3) := by decide +kernel
theorem dX9_echoOf_99 : decode cX9_echoOf 99 = .ok (.getfield 153, 3) := by decide +kernel
theorem dX9_echoOf_102 : decode cX9_echoOf 102 = .ok (.iload_n 1, 1) := by decide +kernel
theorem dX9_echoOf_103 : decode cX9_echoOf 103 = .ok (.iaload, 1) := by decide +kernel
theorem dX9_echoOf_104 : decode cX9_echoOf 104 = .ok (.ireturn, 1) := by decide +kernel
theorem dX9_echoOf_105 : decode cX9_echoOf 105 = .ok (.new 127, 3) := by decide +kernel
theorem dX9_echoOf_108 : decode cX9_echoOf 108 = .ok (.dup, 1) := by decide +kernel
theorem dX9_echoOf_109 : decode cX9_echoOf 109 = .ok (.ldc 156, 2) := by decide +kernel
theorem dX9_echoOf_111 : decode cX9_echoOf 111 = .ok (.invokespecial 131, 3) := by decide +kernel
theorem dX9_echoOf_114 : decode cX9_echoOf 114 = .ok (.athrow, 1) := by decide +kernel
theorem vm_X9_echoOf : aVm yX9_echoOf RX9 cX9_echoOf 3 (some .int) 2 := ⟨tw_513, tw_511, tw_512, tw_1, rfl, by decide +kernel, by decide +kernel, by decide +kernel⟩
theorem dX9_singerOf_0 : decode cX9_singerOf 0 = .ok (.aload_n 0, 1) := by decide +kernel
theorem dX9_singerOf_1 : decode cX9_singerOf 1 = .ok (.iload_n 1, 1) := by decide +kernel
theorem dX9_singerOf_2 : decode cX9_singerOf 2 = .ok (.invokevirtual 158, 3) := by decide +kernel
theorem dX9_singerOf_5 : decode cX9_singerOf 5 = .ok (.iload_n 2, 1) := by decide +kernel
theorem dX9_singerOf_6 : decode cX9_singerOf 6 = .ok (.tableswitch 125 0 6 #[42, 55, 68, 81, 90, 103, 116], 42) := by decide +kernel
theorem dX9_singerOf_48 : decode cX9_singerOf 48 = .ok (.aload_n 0, 1) := by decide +kernel
theorem dX9_singerOf_49 : decode cX9_singerOf 49 = .ok (.getfield 10, 3) := by decide +kernel
theorem dX9_singerOf_52 : decode cX9_singerOf 52 = .ok (.getfield 161, 3) := by decide +kernel
theorem dX9_singerOf_55 : decode cX9_singerOf 55 = .ok (.getfield 165, 3) := by decide +kernel
theorem dX9_singerOf_58 : decode cX9_singerOf 58 = .ok (.iload_n 1, 1) := by decide +kernel
theorem dX9_singerOf_59 : decode cX9_singerOf 59 = .ok (.iaload, 1) := by decide +kernel
theorem dX9_singerOf_60 : decode cX9_singerOf 60 = .ok (.ireturn, 1) := by decide +kernel
theorem dX9_singerOf_61 : decode cX9_singerOf 61 = .ok (.aload_n 0, 1) := by decide +kernel
theorem dX9_singerOf_62 : decode cX9_singerOf 62 = .ok (.getfield 10, 3) := by decide +kernel
theorem dX9_singerOf_65 : decode cX9_singerOf 65 = .ok (.getfield 161, 3) := by decide +kernel
theorem dX9_singerOf_68 : decode cX9_singerOf 68 = .ok (.getfield 170, 3) := by decide +kernel
theorem dX9_singerOf_71 : decode cX9_singerOf 71 = .ok (.iload_n 1, 1) := by decide +kernel
theorem dX9_singerOf_72 : decode cX9_singerOf 72 = .ok (.iaload, 1) := by decide +kernel
theorem dX9_singerOf_73 : decode cX9_singerOf 73 = .ok (.ireturn, 1) := by decide +kernel
theorem dX9_singerOf_74 : decode cX9_singerOf 74 = .ok (.aload_n 0, 1) := by decide +kernel
theorem dX9_singerOf_75 : decode cX9_singerOf 75 = .ok (.getfield 10, 3) := by decide +kernel
theorem dX9_singerOf_78 : decode cX9_singerOf 78 = .ok (.getfield 161, 3) := by decide +kernel
theorem dX9_singerOf_81 : decode cX9_singerOf 81 = .ok (.getfield 173, 3) := by decide +kernel
theorem dX9_singerOf_84 : decode cX9_singerOf 84 = .ok (.iload_n 1, 1) := by decide +kernel
theorem dX9_singerOf_85 : decode cX9_singerOf 85 = .ok (.iaload, 1) := by decide +kernel
theorem dX9_singerOf_86 : decode cX9_singerOf 86 = .ok (.ireturn, 1) := by decide +kernel
theorem dX9_singerOf_87 : decode cX9_singerOf 87 = .ok (.aload_n 0, 1) := by decide +kernel
theorem dX9_singerOf_88 : decode cX9_singerOf 88 = .ok (.getfield 10, 3) := by decide +kernel
theorem dX9_singerOf_91 : decode cX9_singerOf 91 = .ok (.iload_n 1, 1) := by decide +kernel
theorem dX9_singerOf_92 : decode cX9_singerOf 92 = .ok (.invokevirtual 174, 3) := by decide +kernel
theorem dX9_singerOf_95 : decode cX9_singerOf 95 = .ok (.ireturn, 1) := by decide +kernel
theorem dX9_singerOf_96 : decode cX9_singerOf 96 = .ok (.aload_n 0, 1) := by decide +kernel
theorem dX9_singerOf_97 : decode cX9_singerOf 97 = .ok (.getfield 10, 3) := by decide +kernel
theorem dX9_singerOf_100 : decode cX9_singerOf 100 = .ok (.getfield 161, 3) := by decide +kernel
theorem dX9_singerOf_103 : decode cX9_singerOf 103 = .ok (.getfield 177, 3) := by decide +kernel
theorem dX9_singerOf_106 : decode cX9_singerOf 106 = .ok (.iload_n 1, 1) := by decide +kernel
theorem dX9_singerOf_107 : decode cX9_singerOf 107 = .ok (.iaload, 1) := by decide +kernel
theorem dX9_singerOf_108 : decode cX9_singerOf 108 = .ok (.ireturn, 1) := by decide +kernel
theorem dX9_singerOf_109 : decode cX9_singerOf 109 = .ok (.aload_n 0, 1) := by decide +kernel
theorem dX9_singerOf_110 : decode cX9_singerOf 110 = .ok (.getfield 10, 3) := by decide +kernel
theorem dX9_singerOf_113 : decode cX9_singerOf 113 = .ok (.getfield 161, 3) := by decide +kernel
theorem dX9_singerOf_116 : decode cX9_singerOf 116 = .ok (.getfield 178, 3) := by decide +kernel
theorem dX9_singerOf_119 : decode cX9_singerOf 119 = .ok (.iload_n 1, 1) := by decide +kernel
theorem dX9_singerOf_120 : decode cX9_singerOf 120 = .ok (.iaload, 1) := by decide +kernel
theorem dX9_singerOf_121 : decode cX9_singerOf 121 = .ok (.ireturn, 1) := by decide +kernel
theorem dX9_singerOf_122 : decode cX9_singerOf 122 = .ok (.aload_n 0, 1) := by decide +kernel
theorem dX9_singerOf_123 : decode cX9_singerOf 123 = .ok (.getfield 10, 3) := by decide +kernel
theorem dX9_singerOf_126 : decode cX9_singerOf 126 = .ok (.iload_n 1, 1) := by decide +kernel
theorem dX9_singerOf_127 : decode cX9_singerOf 127 = .ok (.invokevirtual 179, 3) := by decide +kernel
theorem dX9_singerOf_130 : decode cX9_singerOf 130 = .ok (.ireturn, 1) := by decide +kernel
theorem dX9_singerOf_131 : decode cX9_singerOf 131 = .ok (.new 127, 3) := by decide +kernel
theorem dX9_singerOf_134 : decode cX9_singerOf 134 = .ok (.dup, 1) := by decide +kernel
theorem dX9_singerOf_135 : decode cX9_singerOf 135 = .ok (.ldc 182, 2) := by decide +kernel
theorem dX9_singerOf_137 : decode cX9_singerOf 137 = .ok (.invokespecial 131, 3) := by decide +kernel
theorem dX9_singerOf_140 : decode cX9_singerOf 140 = .ok (.athrow, 1) := by decide +kernel
theorem vm_X9_singerOf : aVm yX9_singerOf RX9 cX9_singerOf 3 (some .int) 2 := ⟨tw_527, tw_525, tw_526, tw_1, rfl, by decide +kernel, by decide +kernel, by decide +kernel⟩
theorem dX9_tones_0 : decode cX9_tones 0 = .ok (.aload_n 0, 1) := by decide +kernel
theorem dX9_tones_1 : decode cX9_tones 1 = .ok (.iload_n 1, 1) := by decide +kernel
theorem dX9_tones_2 : decode cX9_tones 2 = .ok (.invokevirtual 184, 3) := by decide +kernel
theorem dX9_tones_5 : decode cX9_tones 5 = .ok (.aload_n 0, 1) := by decide +kernel
theorem dX9_tones_6 : decode cX9_tones 6 = .ok (.getfield 10, 3) := by decide +kernel
theorem dX9_tones_9 : decode cX9_tones 9 = .ok (.iload_n 1, 1) := by decide +kernel
theorem dX9_tones_10 : decode cX9_tones 10 = .ok (.aload_n 0, 1) := by decide +kernel
theorem dX9_tones_11 : decode cX9_tones 11 = .ok (.getfield 10, 3) := by decide +kernel
theorem dX9_tones_14 : decode cX9_tones 14 = .ok (.getfield 161, 3) := by decide +kernel
theorem dX9_tones_17 : decode cX9_tones 17 = .ok (.getfield 173, 3) := by decide +kernel
theorem dX9_tones_20 : decode cX9_tones 20 = .ok (.iload_n 1, 1) := by decide +kernel
theorem dX9_tones_21 : decode cX9_tones 21 = .ok (.iaload, 1) := by decide +kernel
theorem dX9_tones_22 : decode cX9_tones 22 = .ok (.invokevirtual 187, 3) := by decide +kernel
theorem dX9_tones_25 : decode cX9_tones 25 = .ok (.ireturn, 1) := by decide +kernel
theorem vm_X9_tones : aVm yX9_tones RX9 cX9_tones 2 (some .int) 1 := ⟨tw_543, tw_541, tw_542, tw_1, rfl, by decide +kernel, by decide +kernel, by decide +kernel⟩
theorem dX9_tonesAgain_0 : decode cX9_tonesAgain 0 = .ok (.aload_n 0, 1) := by decide +kernel
theorem dX9_tonesAgain_1 : decode cX9_tonesAgain 1 = .ok (.iload_n 1, 1) := by decide +kernel
theorem dX9_tonesAgain_2 : decode cX9_tonesAgain 2 = .ok (.invokevirtual 184, 3) := by decide +kernel
theorem dX9_tonesAgain_5 : decode cX9_tonesAgain 5 = .ok (.aload_n 0, 1) := by decide +kernel
theorem dX9_tonesAgain_6 : decode cX9_tonesAgain 6 = .ok (.getfield 10, 3) := by decide +kernel
theorem dX9_tonesAgain_9 : decode cX9_tonesAgain 9 = .ok (.iload_n 1, 1) := by decide +kernel
theorem dX9_tonesAgain_10 : decode cX9_tonesAgain 10 = .ok (.invokevirtual 191, 3) := by decide +kernel
theorem dX9_tonesAgain_13 : decode cX9_tonesAgain 13 = .ok (.ireturn, 1) := by decide +kernel
theorem vm_X9_tonesAgain : aVm yX9_tonesAgain RX9 cX9_tonesAgain 2 (some .int) 1 := ⟨tw_1025, tw_1023, tw_1024, tw_1, rfl, by decide +kernel, by decide +kernel, by decide +kernel⟩
theorem dX9_verses_0 : decode cX9_verses 0 = .ok (.aload_n 0, 1) := by decide +kernel
theorem dX9_verses_1 : decode cX9_verses 1 = .ok (.iload_n 1, 1) := by decide +kernel
theorem dX9_verses_2 : decode cX9_verses 2 = .ok (.invokevirtual 184, 3) := by decide +kernel
theorem dX9_verses_5 : decode cX9_verses 5 = .ok (.aload_n 0, 1) := by decide +kernel
theorem dX9_verses_6 : decode cX9_verses 6 = .ok (.getfield 10, 3) := by decide +kernel
theorem dX9_verses_9 : decode cX9_verses 9 = .ok (.iload_n 1, 1) := by decide +kernel
theorem dX9_verses_10 : decode cX9_verses 10 = .ok (.invokevirtual 194, 3) := by decide +kernel
theorem dX9_verses_13 : decode cX9_verses 13 = .ok (.ireturn, 1) := by decide +kernel
theorem vm_X9_verses : aVm yX9_verses RX9 cX9_verses 2 (some .int) 1 := ⟨tw_586, tw_584, tw_585, tw_1, rfl, by decide +kernel, by decide +kernel, by decide +kernel⟩
theorem dX9_versesAgain_0 : decode cX9_versesAgain 0 = .ok (.aload_n 0, 1) := by decide +kernel
theorem dX9_versesAgain_1 : decode cX9_versesAgain 1 = .ok (.iload_n 1, 1) := by decide +kernel
theorem dX9_versesAgain_2 : decode cX9_versesAgain 2 = .ok (.invokevirtual 184, 3) := by decide +kernel
theorem dX9_versesAgain_5 : decode cX9_versesAgain 5 = .ok (.aload_n 0, 1) := by decide +kernel
theorem dX9_versesAgain_6 : decode cX9_versesAgain 6 = .ok (.getfield 10, 3) := by decide +kernel
theorem dX9_versesAgain_9 : decode cX9_versesAgain 9 = .ok (.iload_n 1, 1) := by decide +kernel
theorem dX9_versesAgain_10 : decode cX9_versesAgain 10 = .ok (.invokevirtual 197, 3) := by decide +kernel
theorem dX9_versesAgain_13 : decode cX9_versesAgain 13 = .ok (.ireturn, 1) := by decide +kernel
theorem vm_X9_versesAgain : aVm yX9_versesAgain RX9 cX9_versesAgain 2 (some .int) 1 := ⟨tw_1037, tw_1035, tw_1036, tw_1, rfl, by decide +kernel, by decide +kernel, by decide +kernel⟩
theorem dX9_would_0 : decode cX9_would 0 = .ok (.aload_n 0, 1) := by decide +kernel
theorem dX9_would_1 : decode cX9_would 1 = .ok (.iload_n 1, 1) := by decide +kernel
theorem dX9_would_2 : decode cX9_would 2 = .ok (.invokevirtual 158, 3) := by decide +kernel
theorem dX9_would_5 : decode cX9_would 5 = .ok (.aload_n 0, 1) := by decide +kernel
theorem dX9_would_6 : decode cX9_would 6 = .ok (.iload_n 2, 1) := by decide +kernel
theorem dX9_would_7 : decode cX9_would 7 = .ok (.invokevirtual 92, 3) := by decide +kernel
theorem dX9_would_10 : decode cX9_would 10 = .ok (.aload_n 0, 1) := by decide +kernel
theorem dX9_would_11 : decode cX9_would 11 = .ok (.getfield 10, 3) := by decide +kernel
theorem dX9_would_14 : decode cX9_would 14 = .ok (.iload_n 1, 1) := by decide +kernel
theorem dX9_would_15 : decode cX9_would 15 = .ok (.iload_n 2, 1) := by decide +kernel
theorem dX9_would_16 : decode cX9_would 16 = .ok (.invokevirtual 187, 3) := by decide +kernel
theorem dX9_would_19 : decode cX9_would 19 = .ok (.ireturn, 1) := by decide +kernel
theorem vm_X9_would : aVm yX9_would RX9 cX9_would 3 (some .int) 2 := ⟨tw_601, tw_599, tw_600, tw_1, rfl, by decide +kernel, by decide +kernel, by decide +kernel⟩
theorem dX9_bestRoom_0 : decode cX9_bestRoom 0 = .ok (.aload_n 0, 1) := by decide +kernel
theorem dX9_bestRoom_1 : decode cX9_bestRoom 1 = .ok (.iload_n 1, 1) := by decide +kernel
theorem dX9_bestRoom_2 : decode cX9_bestRoom 2 = .ok (.invokevirtual 158, 3) := by decide +kernel
theorem dX9_bestRoom_5 : decode cX9_bestRoom 5 = .ok (.aload_n 0, 1) := by decide +kernel
theorem dX9_bestRoom_6 : decode cX9_bestRoom 6 = .ok (.getfield 10, 3) := by decide +kernel
theorem dX9_bestRoom_9 : decode cX9_bestRoom 9 = .ok (.getfield 96, 3) := by decide +kernel
theorem dX9_bestRoom_12 : decode cX9_bestRoom 12 = .ok (.getfield 200, 3) := by decide +kernel
theorem dX9_bestRoom_15 : decode cX9_bestRoom 15 = .ok (.ifCond .ne 13, 3) := by decide +kernel
theorem dX9_bestRoom_18 : decode cX9_bestRoom 18 = .ok (.new 204, 3) := by decide +kernel
theorem dX9_bestRoom_21 : decode cX9_bestRoom 21 = .ok (.dup, 1) := by decide +kernel
theorem dX9_bestRoom_22 : decode cX9_bestRoom 22 = .ok (.ldc 206, 2) := by decide +kernel
theorem dX9_bestRoom_24 : decode cX9_bestRoom 24 = .ok (.invokespecial 208, 3) := by decide +kernel
theorem dX9_bestRoom_27 : decode cX9_bestRoom 27 = .ok (.athrow, 1) := by decide +kernel
theorem dX9_bestRoom_28 : decode cX9_bestRoom 28 = .ok (.iconst 0, 1) := by decide +kernel
theorem dX9_bestRoom_29 : decode cX9_bestRoom 29 = .ok (.istore_n 2, 1) := by decide +kernel
theorem dX9_bestRoom_30 : decode cX9_bestRoom 30 = .ok (.iconst 1, 1) := by decide +kernel
theorem dX9_bestRoom_31 : decode cX9_bestRoom 31 = .ok (.istore_n 3, 1) := by decide +kernel
theorem dX9_bestRoom_32 : decode cX9_bestRoom 32 = .ok (.iload_n 3, 1) := by decide +kernel
theorem dX9_bestRoom_33 : decode cX9_bestRoom 33 = .ok (.aload_n 0, 1) := by decide +kernel
theorem dX9_bestRoom_34 : decode cX9_bestRoom 34 = .ok (.getfield 10, 3) := by decide +kernel
theorem dX9_bestRoom_37 : decode cX9_bestRoom 37 = .ok (.getfield 96, 3) := by decide +kernel
theorem dX9_bestRoom_40 : decode cX9_bestRoom 40 = .ok (.getfield 200, 3) := by decide +kernel
theorem dX9_bestRoom_43 : decode cX9_bestRoom 43 = .ok (.if_icmp .ge 32, 3) := by decide +kernel
theorem dX9_bestRoom_46 : decode cX9_bestRoom 46 = .ok (.aload_n 0, 1) := by decide +kernel
theorem dX9_bestRoom_47 : decode cX9_bestRoom 47 = .ok (.getfield 10, 3) := by decide +kernel
theorem dX9_bestRoom_50 : decode cX9_bestRoom 50 = .ok (.iload_n 1, 1) := by decide +kernel
theorem dX9_bestRoom_51 : decode cX9_bestRoom 51 = .ok (.iload_n 3, 1) := by decide +kernel
theorem dX9_bestRoom_52 : decode cX9_bestRoom 52 = .ok (.invokevirtual 187, 3) := by decide +kernel
theorem dX9_bestRoom_55 : decode cX9_bestRoom 55 = .ok (.aload_n 0, 1) := by decide +kernel
theorem dX9_bestRoom_56 : decode cX9_bestRoom 56 = .ok (.getfield 10, 3) := by decide +kernel
theorem dX9_bestRoom_59 : decode cX9_bestRoom 59 = .ok (.iload_n 1, 1) := by decide +kernel
theorem dX9_bestRoom_60 : decode cX9_bestRoom 60 = .ok (.iload_n 2, 1) := by decide +kernel
theorem dX9_bestRoom_61 : decode cX9_bestRoom 61 = .ok (.invokevirtual 187, 3) := by decide +kernel
theorem dX9_bestRoom_64 : decode cX9_bestRoom 64 = .ok (.if_icmp .le 5, 3) := by decide +kernel
theorem dX9_bestRoom_67 : decode cX9_bestRoom 67 = .ok (.iload_n 3, 1) := by decide +kernel
theorem dX9_bestRoom_68 : decode cX9_bestRoom 68 = .ok (.istore_n 2, 1) := by decide +kernel
theorem dX9_bestRoom_69 : decode cX9_bestRoom 69 = .ok (.iinc 3 1, 3) := by decide +kernel
theorem dX9_bestRoom_72 : decode cX9_bestRoom 72 = .ok (.goto (-40), 3) := by decide +kernel
theorem dX9_bestRoom_75 : decode cX9_bestRoom 75 = .ok (.iload_n 2, 1) := by decide +kernel
theorem dX9_bestRoom_76 : decode cX9_bestRoom 76 = .ok (.ireturn, 1) := by decide +kernel
theorem vm_X9_bestRoom : aVm yX9_bestRoom RX9 cX9_bestRoom 4 (some .int) 1 := ⟨tw_605, tw_603, tw_604, tw_1, rfl, by decide +kernel, by decide +kernel, by decide +kernel⟩
theorem dX9_canEnter_0 : decode cX9_canEnter 0 = .ok (.aload_n 0, 1) := by decide +kernel
theorem dX9_canEnter_1 : decode cX9_canEnter 1 = .ok (.iload_n 1, 1) := by decide +kernel
theorem dX9_canEnter_2 : decode cX9_canEnter 2 = .ok (.invokevirtual 158, 3) := by decide +kernel
theorem dX9_canEnter_5 : decode cX9_canEnter 5 = .ok (.aload_n 0, 1) := by decide +kernel
theorem dX9_canEnter_6 : decode cX9_canEnter 6 = .ok (.iload_n 2, 1) := by decide +kernel
theorem dX9_canEnter_7 : decode cX9_canEnter 7 = .ok (.invokevirtual 92, 3) := by decide +kernel
theorem dX9_canEnter_10 : decode cX9_canEnter 10 = .ok (.aload_n 0, 1) := by decide +kernel
theorem dX9_canEnter_11 : decode cX9_canEnter 11 = .ok (.getfield 10, 3) := by decide +kernel
theorem dX9_canEnter_14 : decode cX9_canEnter 14 = .ok (.getfield 161, 3) := by decide +kernel
theorem dX9_canEnter_17 : decode cX9_canEnter 17 = .ok (.getfield 173, 3) := by decide +kernel
theorem dX9_canEnter_20 : decode cX9_canEnter 20 = .ok (.iload_n 1, 1) := by decide +kernel
theorem dX9_canEnter_21 : decode cX9_canEnter 21 = .ok (.iaload, 1) := by decide +kernel
theorem dX9_canEnter_22 : decode cX9_canEnter 22 = .ok (.iload_n 2, 1) := by decide +kernel
theorem dX9_canEnter_23 : decode cX9_canEnter 23 = .ok (.if_icmp .eq 30, 3) := by decide +kernel
theorem dX9_canEnter_26 : decode cX9_canEnter 26 = .ok (.aload_n 0, 1) := by decide +kernel
theorem dX9_canEnter_27 : decode cX9_canEnter 27 = .ok (.getfield 10, 3) := by decide +kernel
theorem dX9_canEnter_30 : decode cX9_canEnter 30 = .ok (.iload_n 2, 1) := by decide +kernel
theorem dX9_canEnter_31 : decode cX9_canEnter 31 = .ok (.invokevirtual 209, 3) := by decide +kernel
theorem dX9_canEnter_34 : decode cX9_canEnter 34 = .ok (.ifCond .ne 19, 3) := by decide +kernel
theorem dX9_canEnter_37 : decode cX9_canEnter 37 = .ok (.aload_n 0, 1) := by decide +kernel
theorem dX9_canEnter_38 : decode cX9_canEnter 38 = .ok (.getfield 10, 3) := by decide +kernel
theorem dX9_canEnter_41 : decode cX9_canEnter 41 = .ok (.iload_n 1, 1) := by decide +kernel
theorem dX9_canEnter_42 : decode cX9_canEnter 42 = .ok (.iload_n 2, 1) := by decide +kernel
theorem dX9_canEnter_43 : decode cX9_canEnter 43 = .ok (.invokevirtual 213, 3) := by decide +kernel
theorem dX9_canEnter_46 : decode cX9_canEnter 46 = .ok (.ifCond .ne 7, 3) := by decide +kernel
theorem dX9_canEnter_49 : decode cX9_canEnter 49 = .ok (.iconst 1, 1) := by decide +kernel
theorem dX9_canEnter_50 : decode cX9_canEnter 50 = .ok (.goto 4, 3) := by decide +kernel
theorem dX9_canEnter_53 : decode cX9_canEnter 53 = .ok (.iconst 0, 1) := by decide +kernel
theorem dX9_canEnter_54 : decode cX9_canEnter 54 = .ok (.ireturn, 1) := by decide +kernel
theorem vm_X9_canEnter : aVm yX9_canEnter RX9 cX9_canEnter 3 (some .boolean) 2 := ⟨tw_1017, tw_1015, tw_1016, tw_1, rfl, by decide +kernel, by decide +kernel, by decide +kernel⟩
theorem dX9_canRent_0 : decode cX9_canRent 0 = .ok (.aload_n 0, 1) := by decide +kernel
theorem dX9_canRent_1 : decode cX9_canRent 1 = .ok (.iload_n 1, 1) := by decide +kernel
theorem dX9_canRent_2 : decode cX9_canRent 2 = .ok (.invokevirtual 158, 3) := by decide +kernel
theorem dX9_canRent_5 : decode cX9_canRent 5 = .ok (.aload_n 0, 1) := by decide +kernel
theorem dX9_canRent_6 : decode cX9_canRent 6 = .ok (.iload_n 2, 1) := by decide +kernel
theorem dX9_canRent_7 : decode cX9_canRent 7 = .ok (.invokevirtual 134, 3) := by decide +kernel
theorem dX9_canRent_10 : decode cX9_canRent 10 = .ok (.aload_n 0, 1) := by decide +kernel
theorem dX9_canRent_11 : decode cX9_canRent 11 = .ok (.getfield 10, 3) := by decide +kernel
theorem dX9_canRent_14 : decode cX9_canRent 14 = .ok (.iload_n 2, 1) := by decide +kernel
theorem dX9_canRent_15 : decode cX9_canRent 15 = .ok (.invokevirtual 217, 3) := by decide +kernel
theorem dX9_canRent_18 : decode cX9_canRent 18 = .ok (.ifCond .ne 31, 3) := by decide +kernel
theorem dX9_canRent_21 : decode cX9_canRent 21 = .ok (.aload_n 0, 1) := by decide +kernel
theorem dX9_canRent_22 : decode cX9_canRent 22 = .ok (.getfield 10, 3) := by decide +kernel
theorem dX9_canRent_25 : decode cX9_canRent 25 = .ok (.iload_n 1, 1) := by decide +kernel
theorem dX9_canRent_26 : decode cX9_canRent 26 = .ok (.iload_n 2, 1) := by decide +kernel
theorem dX9_canRent_27 : decode cX9_canRent 27 = .ok (.invokevirtual 220, 3) := by decide +kernel
theorem dX9_canRent_30 : decode cX9_canRent 30 = .ok (.ifCond .eq 19, 3) := by decide +kernel
theorem dX9_canRent_33 : decode cX9_canRent 33 = .ok (.aload_n 0, 1) := by decide +kernel
theorem dX9_canRent_34 : decode cX9_canRent 34 = .ok (.getfield 10, 3) := by decide +kernel
theorem dX9_canRent_37 : decode cX9_canRent 37 = .ok (.iload_n 1, 1) := by decide +kernel
theorem dX9_canRent_38 : decode cX9_canRent 38 = .ok (.iload_n 2, 1) := by decide +kernel
theorem dX9_canRent_39 : decode cX9_canRent 39 = .ok (.invokevirtual 223, 3) := by decide +kernel
theorem dX9_canRent_42 : decode cX9_canRent 42 = .ok (.ifCond .eq 7, 3) := by decide +kernel
theorem dX9_canRent_45 : decode cX9_canRent 45 = .ok (.iconst 1, 1) := by decide +kernel
theorem dX9_canRent_46 : decode cX9_canRent 46 = .ok (.goto 4, 3) := by decide +kernel
theorem dX9_canRent_49 : decode cX9_canRent 49 = .ok (.iconst 0, 1) := by decide +kernel
theorem dX9_canRent_50 : decode cX9_canRent 50 = .ok (.ireturn, 1) := by decide +kernel
theorem vm_X9_canRent : aVm yX9_canRent RX9 cX9_canRent 3 (some .boolean) 2 := ⟨tw_1009, tw_1007, tw_1008, tw_1, rfl, by decide +kernel, by decide +kernel, by decide +kernel⟩
theorem dX9_backFor_0 : decode cX9_backFor 0 = .ok (.aload_n 0, 1) := by decide +kernel
theorem dX9_backFor_1 : decode cX9_backFor 1 = .ok (.iload_n 1, 1) := by decide +kernel
theorem dX9_backFor_2 : decode cX9_backFor 2 = .ok (.invokevirtual 134, 3) := by decide +kernel
theorem dX9_backFor_5 : decode cX9_backFor 5 = .ok (.aload_n 0, 1) := by decide +kernel
theorem dX9_backFor_6 : decode cX9_backFor 6 = .ok (.getfield 10, 3) := by decide +kernel
theorem dX9_backFor_9 : decode cX9_backFor 9 = .ok (.iload_n 1, 1) := by decide +kernel
theorem dX9_backFor_10 : decode cX9_backFor 10 = .ok (.invokevirtual 217, 3) := by decide +kernel
theorem dX9_backFor_13 : decode cX9_backFor 13 = .ok (.ifCond .ne 13, 3) := by decide +kernel
theorem dX9_backFor_16 : decode cX9_backFor 16 = .ok (.new 204, 3) := by decide +kernel
theorem dX9_backFor_19 : decode cX9_backFor 19 = .ok (.dup, 1) := by decide +kernel
theorem dX9_backFor_20 : decode cX9_backFor 20 = .ok (.ldc 226, 2) := by decide +kernel
theorem dX9_backFor_22 : decode cX9_backFor 22 = .ok (.invokespecial 208, 3) := by decide +kernel
theorem dX9_backFor_25 : decode cX9_backFor 25 = .ok (.athrow, 1) := by decide +kernel
theorem dX9_backFor_26 : decode cX9_backFor 26 = .ok (.aload_n 0, 1) := by decide +kernel
theorem dX9_backFor_27 : decode cX9_backFor 27 = .ok (.getfield 10, 3) := by decide +kernel
theorem dX9_backFor_30 : decode cX9_backFor 30 = .ok (.iload_n 1, 1) := by decide +kernel
theorem dX9_backFor_31 : decode cX9_backFor 31 = .ok (.invokevirtual 228, 3) := by decide +kernel
theorem dX9_backFor_34 : decode cX9_backFor 34 = .ok (.ireturn, 1) := by decide +kernel
theorem vm_X9_backFor : aVm yX9_backFor RX9 cX9_backFor 2 (some .int) 1 := ⟨tw_610, tw_608, tw_609, tw_1, rfl, by decide +kernel, by decide +kernel, by decide +kernel⟩
theorem dX9_others_0 : decode cX9_others 0 = .ok (.aload_n 0, 1) := by decide +kernel
theorem dX9_others_1 : decode cX9_others 1 = .ok (.iload_n 1, 1) := by decide +kernel
theorem dX9_others_2 : decode cX9_others 2 = .ok (.invokevirtual 92, 3) := by decide +kernel
theorem dX9_others_5 : decode cX9_others 5 = .ok (.aload_n 0, 1) := by decide +kernel
theorem dX9_others_6 : decode cX9_others 6 = .ok (.getfield 10, 3) := by decide +kernel
theorem dX9_others_9 : decode cX9_others 9 = .ok (.iload_n 1, 1) := by decide +kernel
theorem dX9_others_10 : decode cX9_others 10 = .ok (.invokevirtual 109, 3) := by decide +kernel
theorem dX9_others_13 : decode cX9_others 13 = .ok (.ireturn, 1) := by decide +kernel
theorem vm_X9_others : aVm yX9_others RX9 cX9_others 2 (some .int) 1 := ⟨tw_1048, tw_1046, tw_1047, tw_1, rfl, by decide +kernel, by decide +kernel, by decide +kernel⟩
theorem dX9_free_0 : decode cX9_free 0 = .ok (.aload_n 0, 1) := by decide +kernel
theorem dX9_free_1 : decode cX9_free 1 = .ok (.iload_n 1, 1) := by decide +kernel
theorem dX9_free_2 : decode cX9_free 2 = .ok (.invokevirtual 92, 3) := by decide +kernel
theorem dX9_free_5 : decode cX9_free 5 = .ok (.aload_n 0, 1) := by decide +kernel
theorem dX9_free_6 : decode cX9_free 6 = .ok (.getfield 10, 3) := by decide +kernel
theorem dX9_free_9 : decode cX9_free 9 = .ok (.iload_n 1, 1) := by decide +kernel
theorem dX9_free_10 : decode cX9_free 10 = .ok (.invokevirtual 121, 3) := by decide +kernel
theorem dX9_free_13 : decode cX9_free 13 = .ok (.ireturn, 1) := by decide +kernel
theorem vm_X9_free : aVm yX9_free RX9 cX9_free 2 (some .int) 1 := ⟨tw_1052, tw_1050, tw_1051, tw_1, rfl, by decide +kernel, by decide +kernel, by decide +kernel⟩
theorem dX9_dryIn_0 : decode cX9_dryIn 0 = .ok (.aload_n 0, 1) := by decide +kernel
theorem dX9_dryIn_1 : decode cX9_dryIn 1 = .ok (.iload_n 1, 1) := by decide +kernel
theorem dX9_dryIn_2 : decode cX9_dryIn 2 = .ok (.invokevirtual 92, 3) := by decide +kernel
theorem dX9_dryIn_5 : decode cX9_dryIn 5 = .ok (.aload_n 0, 1) := by decide +kernel
theorem dX9_dryIn_6 : decode cX9_dryIn 6 = .ok (.getfield 10, 3) := by decide +kernel
theorem dX9_dryIn_9 : decode cX9_dryIn 9 = .ok (.getfield 96, 3) := by decide +kernel
theorem dX9_dryIn_12 : decode cX9_dryIn 12 = .ok (.getfield 106, 3) := by decide +kernel
theorem dX9_dryIn_15 : decode cX9_dryIn 15 = .ok (.iload_n 1, 1) := by decide +kernel
theorem dX9_dryIn_16 : decode cX9_dryIn 16 = .ok (.iaload, 1) := by decide +kernel
theorem dX9_dryIn_17 : decode cX9_dryIn 17 = .ok (.iconst 2, 1) := by decide +kernel
theorem dX9_dryIn_18 : decode cX9_dryIn 18 = .ok (.iadd, 1) := by decide +kernel
theorem dX9_dryIn_19 : decode cX9_dryIn 19 = .ok (.iconst 1, 1) := by decide +kernel
theorem dX9_dryIn_20 : decode cX9_dryIn 20 = .ok (.isub, 1) := by decide +kernel
theorem dX9_dryIn_21 : decode cX9_dryIn 21 = .ok (.iconst 2, 1) := by decide +kernel
theorem dX9_dryIn_22 : decode cX9_dryIn 22 = .ok (.idiv, 1) := by decide +kernel
theorem dX9_dryIn_23 : decode cX9_dryIn 23 = .ok (.ireturn, 1) := by decide +kernel
theorem vm_X9_dryIn : aVm yX9_dryIn RX9 cX9_dryIn 2 (some .int) 1 := ⟨tw_1056, tw_1054, tw_1055, tw_1, rfl, by decide +kernel, by decide +kernel, by decide +kernel⟩
def w_X9_room (x1 : Int32) (q : aS) (P : Int32 → aS → Prop) (X : String → aS → Prop) : Prop := w_X9_change 0 x1 0 0 q (fun r2 q3 => P r2 q3) X
def w_X9_echo (x1 : Int32) (x2 : Int32) (q : aS) (P : Int32 → aS → Prop) (X : String → aS → Prop) : Prop := w_X9_change 1 x1 x2 0 q (fun r3 q4 => P r3 q4) X
def w_X9_singer (x1 : Int32) (x2 : Int32) (q : aS) (P : Int32 → aS → Prop) (X : String → aS → Prop) : Prop := w_X9_change 2 x1 x2 0 q (fun r3 q4 => P r3 q4) X
def w_X9_enter (x1 : Int32) (x2 : Int32) (q : aS) (P : Int32 → aS → Prop) (X : String → aS → Prop) : Prop := w_X9_change 3 x1 x2 0 q (fun r3 q4 => P r3 q4) X
def w_X9_out (x1 : Int32) (q : aS) (P : Int32 → aS → Prop) (X : String → aS → Prop) : Prop := w_X9_change 4 x1 0 0 q (fun r2 q3 => P r2 q3) X
def w_X9_carry (x1 : Int32) (x2 : Int32) (q : aS) (P : Int32 → aS → Prop) (X : String → aS → Prop) : Prop := w_X9_change 5 x1 x2 0 q (fun r3 q4 => P r3 q4) X
def w_X9_rent (x1 : Int32) (x2 : Int32) (x3 : Int32) (q : aS) (P : Int32 → aS → Prop) (X : String → aS → Prop) : Prop := w_X9_change 6 x1 x2 x3 q (fun r4 q5 => P r4 q5) X
def w_X9_back (x1 : Int32) (x2 : Int32) (q : aS) (P : Int32 → aS → Prop) (X : String → aS → Prop) : Prop := w_X9_change 7 x1 x2 0 q (fun r3 q4 => P r3 q4) X
def w_X9_sing (x1 : Int32) (q : aS) (P : Int32 → aS → Prop) (X : String → aS → Prop) : Prop := w_X9_change 8 x1 0 0 q (fun r2 q3 => P r2 q3) X
def w_X9_night (q : aS) (P : Int32 → aS → Prop) : Prop := w_X4_keep 1 q (fun _ q2 => w_X8_letNightPass q2 (fun r3 q4 => P r3 q4))
def w_X9_roomOf (x1 : Int32) (x2 : Int32) (q : aS) (P : Int32 → aS → Prop) (X : String → aS → Prop) : Prop := w_X9_checkRoom x1 q (fun _ q4 => ((x2 = 0 → (vp_in x1 6 ∧ P (q4.1 3 (Int32.toNatClampNeg x1)) q4)) ∧ (¬ x2 = 0 → ((x2 = 1 → (vp_in x1 6 ∧ P (q4.1 4 (Int32.toNatClampNeg x1)) q4)) ∧ (¬ x2 = 1 → ((x2 = 2 → w_X8_singersIn x1 q4 (fun r5 q6 => w_J6_bitCount_0f7a4 r5 q6 (fun r7 q8 => P r7 q8))) ∧ (¬ x2 = 2 → ((x2 = 3 → w_X8_echoesIn x1 q4 (fun r9 q10 => w_J6_bitCount_0f7a4 r9 q10 (fun r11 q12 => P r11 q12))) ∧ (¬ x2 = 3 → ((x2 = 4 → w_X8_echoesIn x1 q4 (fun r13 q14 => w_X8_freeIn x1 q14 (fun r15 q16 => w_J6_bitCount_0f7a4 (r13 &&& (r15 ^^^ (-1))) q16 (fun r17 q18 => P r17 q18)))) ∧ (¬ x2 = 4 → ((x2 = 5 → (vp_in x1 6 ∧ P (q4.1 5 (Int32.toNatClampNeg x1)) q4)) ∧ (¬ x2 = 5 → X "java/lang/IllegalArgumentException" q4))))))))))))) X
def w_X9_echoOf (x1 : Int32) (x2 : Int32) (q : aS) (P : Int32 → aS → Prop) (X : String → aS → Prop) : Prop := w_X9_checkEcho x1 q (fun _ q4 => ((x2 = 0 → (vp_in x1 8 ∧ P (q4.1 7 (Int32.toNatClampNeg x1)) q4)) ∧ (¬ x2 = 0 → ((x2 = 1 → (vp_in x1 8 ∧ P (q4.1 8 (Int32.toNatClampNeg x1)) q4)) ∧ (¬ x2 = 1 → ((x2 = 2 → (vp_in x1 8 ∧ P (q4.1 9 (Int32.toNatClampNeg x1)) q4)) ∧ (¬ x2 = 2 → ((x2 = 3 → (vp_in x1 8 ∧ P (q4.1 10 (Int32.toNatClampNeg x1)) q4)) ∧ (¬ x2 = 3 → ((x2 = 4 → (vp_in x1 8 ∧ P (q4.1 11 (Int32.toNatClampNeg x1)) q4)) ∧ (¬ x2 = 4 → X "java/lang/IllegalArgumentException" q4))))))))))) X
def w_X9_singerOf (x1 : Int32) (x2 : Int32) (q : aS) (P : Int32 → aS → Prop) (X : String → aS → Prop) : Prop := w_X9_checkSinger x1 q (fun _ q4 => ((x2 = 0 → (vp_in x1 6 ∧ P (q4.1 13 (Int32.toNatClampNeg x1)) q4)) ∧ (¬ x2 = 0 → ((x2 = 1 → (vp_in x1 6 ∧ P (q4.1 14 (Int32.toNatClampNeg x1)) q4)) ∧ (¬ x2 = 1 → ((x2 = 2 → (vp_in x1 6 ∧ P (q4.1 15 (Int32.toNatClampNeg x1)) q4)) ∧ (¬ x2 = 2 → ((x2 = 3 → w_X8_countLetTo x1 q4 (fun r5 q6 => P r5 q6)) ∧ (¬ x2 = 3 → ((x2 = 4 → (vp_in x1 6 ∧ P (q4.1 16 (Int32.toNatClampNeg x1)) q4)) ∧ (¬ x2 = 4 → ((x2 = 5 → (vp_in x1 6 ∧ P (q4.1 17 (Int32.toNatClampNeg x1)) q4)) ∧ (¬ x2 = 5 → ((x2 = 6 → w_X8_heldOf x1 q4 (fun r7 q8 => P r7 q8)) ∧ (¬ x2 = 6 → X "java/lang/IllegalArgumentException" q4))))))))))))))) X
def w_X9_tones (x1 : Int32) (q : aS) (P : Int32 → aS → Prop) (X : String → aS → Prop) : Prop := w_X9_checkSingerInside x1 q (fun _ q3 => (vp_in x1 6 ∧ w_X8_tonesInRoom x1 (q3.1 15 (Int32.toNatClampNeg x1)) q3 (fun r4 q5 => P r4 q5))) X
def w_X9_tonesAgain (x1 : Int32) (q : aS) (P : Int32 → aS → Prop) (X : String → aS → Prop) : Prop := w_X9_checkSingerInside x1 q (fun _ q3 => w_X8_tonesByStrength x1 q3 (fun r4 q5 => P r4 q5)) X
def w_X9_verses (x1 : Int32) (q : aS) (P : Int32 → aS → Prop) (X : String → aS → Prop) : Prop := w_X9_checkSingerInside x1 q (fun _ q3 => w_X8_versesInThought x1 q3 (fun r4 q5 => P r4 q5)) X
def w_X9_versesAgain (x1 : Int32) (q : aS) (P : Int32 → aS → Prop) (X : String → aS → Prop) : Prop := w_X9_checkSingerInside x1 q (fun _ q3 => w_X8_versesByEcho x1 q3 (fun r4 q5 => P r4 q5)) X
def w_X9_would (x1 : Int32) (x2 : Int32) (q : aS) (P : Int32 → aS → Prop) (X : String → aS → Prop) : Prop := w_X9_checkSinger x1 q (fun _ q4 => w_X9_checkRoom x2 q4 (fun _ q6 => w_X8_tonesInRoom x1 x2 q6 (fun r7 q8 => P r7 q8)) X) X
def LX9_bestRoom_32 (c1 : Int32) (P : Int32 → aS → Prop) (X : String → aS → Prop) (K : Int32 → aS → Prop) : Nat → Int32 → Int32 → aS → Prop
  | 0, _, _, _ => False
  | N + 1, v2, v3, q => (((q.1 2 0) ≤ v3 → K v2 q) ∧ (¬ (q.1 2 0) ≤ v3 → w_X8_tonesInRoom c1 v3 q (fun r4 q5 => w_X8_tonesInRoom c1 v2 q5 (fun r6 q7 => ((r4 ≤ r6 → ∀ x8 : Int32, x8 = v3 + 1 → (LX9_bestRoom_32 c1 P X K N) v2 x8 q7) ∧ (¬ r4 ≤ r6 → ∀ x9 : Int32, x9 = v3 + 1 → (LX9_bestRoom_32 c1 P X K N) v3 x9 q7))))))
def w_X9_bestRoom (x1 : Int32) (q : aS) (P : Int32 → aS → Prop) (X : String → aS → Prop) : Prop := w_X9_checkSinger x1 q (fun _ q3 => ((¬ (q3.1 2 0) = 0 → ∃ M12, LX9_bestRoom_32 x1 P X (fun y10 q11 => P y10 q11) M12 0 1 q3) ∧ ((q3.1 2 0) = 0 → X "java/util/NoSuchElementException" q3))) X
def w_X9_canEnter (x1 : Int32) (x2 : Int32) (q : aS) (P : Int32 → aS → Prop) (X : String → aS → Prop) : Prop := w_X9_checkSinger x1 q (fun _ q4 => w_X9_checkRoom x2 q4 (fun _ q6 => (vp_in x1 6 ∧ (((q6.1 15 (Int32.toNatClampNeg x1)) = x2 → P 0 q6) ∧ (¬ (q6.1 15 (Int32.toNatClampNeg x1)) = x2 → w_X8_isFull x2 q6 (fun r7 q8 => ((¬ r7 = 0 → P 0 q8) ∧ (r7 = 0 → w_X8_isTooShyFor x1 x2 q8 (fun r9 q10 => ((¬ r9 = 0 → P 0 q10) ∧ (r9 = 0 → P 1 q10)))))))))) X) X
def w_X9_canRent (x1 : Int32) (x2 : Int32) (q : aS) (P : Int32 → aS → Prop) (X : String → aS → Prop) : Prop := w_X9_checkSinger x1 q (fun _ q4 => w_X9_checkEcho x2 q4 (fun _ q6 => w_X8_isLet x2 q6 (fun r7 q8 => ((¬ r7 = 0 → P 0 q8) ∧ (r7 = 0 → w_X8_isWithEcho x1 x2 q8 (fun r9 q10 => ((r9 = 0 → P 0 q10) ∧ (¬ r9 = 0 → w_X8_canPayFor x1 x2 q10 (fun r11 q12 => ((r11 = 0 → P 0 q12) ∧ (¬ r11 = 0 → P 1 q12)))))))))) X) X
def w_X9_backFor (x1 : Int32) (q : aS) (P : Int32 → aS → Prop) (X : String → aS → Prop) : Prop := w_X9_checkEcho x1 q (fun _ q3 => w_X8_isLet x1 q3 (fun r4 q5 => ((¬ r4 = 0 → w_X8_aboveDamp x1 q5 (fun r6 q7 => P r6 q7)) ∧ (r4 = 0 → X "java/util/NoSuchElementException" q5)))) X
def w_X9_others (x1 : Int32) (q : aS) (P : Int32 → aS → Prop) (X : String → aS → Prop) : Prop := w_X9_checkRoom x1 q (fun _ q3 => w_X8_singersIn x1 q3 (fun r4 q5 => P r4 q5)) X
def w_X9_free (x1 : Int32) (q : aS) (P : Int32 → aS → Prop) (X : String → aS → Prop) : Prop := w_X9_checkRoom x1 q (fun _ q3 => w_X8_freeIn x1 q3 (fun r4 q5 => P r4 q5)) X
def w_X9_dryIn (x1 : Int32) (q : aS) (P : Int32 → aS → Prop) (X : String → aS → Prop) : Prop := w_X9_checkRoom x1 q (fun _ q3 => (vp_in x1 6 ∧ P ((((q3.1 4 (Int32.toNatClampNeg x1)) + 2) - 1) / 2) q3)) X
set_option maxRecDepth 20000 in
theorem t_X9_room {l : Launch} {g : aG} (hX : isX g) (hl : l.stackTraces = false) (x1 : Int32) (q : aS) (P : Int32 → aS → Prop) (X : String → aS → Prop) (h : w_X9_room x1 q P X) : aMi l g yX9_room (aWs yX9_room cX9_room 2 (some .int)) 9 1 6 [.ref (gAd g 0), .int x1] q P X := by
  refine aMi_of RX9 ⟨by decide +kernel, rfl⟩ (cat_all rfl) (Nat.le_of_ble_eq_true rfl) hl hX.cl (fun f hR hC hE => ?_)
  show AW f g 0 [some (.ref (gAd g 0)), some (.int x1)] [] q 0 0
  unfold w_X9_room at h
  refine a_aload_n (pc := 0) hC dX9_room_0 rfl ?_
  refine a_kst (pc := 1) hX hC 0 (by decide) rfl tw_683 dX9_room_1 ?_
  refine a_iload_n (pc := 4) hC dX9_room_4 rfl ?_
  refine a_iconst (pc := 5) hC dX9_room_5 (v := 0) rfl ?_
  refine a_iconst (pc := 6) hC dX9_room_6 (v := 0) rfl ?_
  refine a_callVx (pc := 7) hC hR hE.1 ⟨(Nat.le_of_ble_eq_true rfl), (Nat.le_of_ble_eq_true rfl)⟩ vm_X9_change tw_685 cl_X9 (oX_0 hX) ⟨(Nat.le_of_ble_eq_true rfl), (Nat.le_of_ble_eq_true rfl), (Nat.le_of_ble_eq_true rfl), (Nat.le_of_ble_eq_true rfl)⟩ dX9_room_7 (t_X9_change hX _ (by decide) hC.tr _ _ _ _ _ _ h) rfl rfl rfl (Nat.le_of_ble_eq_true rfl) (fun r2 q3 h => ?_)
  exact a_iret (pc := 10) hC hE h (Nat.le_of_ble_eq_true rfl) (Nat.le_of_ble_eq_true rfl) dX9_room_10
set_option maxRecDepth 20000 in
theorem t_X9_echo {l : Launch} {g : aG} (hX : isX g) (hl : l.stackTraces = false) (x1 : Int32) (x2 : Int32) (q : aS) (P : Int32 → aS → Prop) (X : String → aS → Prop) (h : w_X9_echo x1 x2 q P X) : aMi l g yX9_echo (aWs yX9_echo cX9_echo 3 (some .int)) 9 1 6 [.ref (gAd g 0), .int x1, .int x2] q P X := by
  refine aMi_of RX9 ⟨by decide +kernel, rfl⟩ (cat_all rfl) (Nat.le_of_ble_eq_true rfl) hl hX.cl (fun f hR hC hE => ?_)
  show AW f g 0 [some (.ref (gAd g 0)), some (.int x1), some (.int x2)] [] q 0 0
  unfold w_X9_echo at h
  refine a_aload_n (pc := 0) hC dX9_echo_0 rfl ?_
  refine a_kst (pc := 1) hX hC 1 (by decide) rfl tw_854 dX9_echo_1 ?_
  refine a_iload_n (pc := 4) hC dX9_echo_4 rfl ?_
  refine a_iload_n (pc := 5) hC dX9_echo_5 rfl ?_
  refine a_iconst (pc := 6) hC dX9_echo_6 (v := 0) rfl ?_
  refine a_callVx (pc := 7) hC hR hE.1 ⟨(Nat.le_of_ble_eq_true rfl), (Nat.le_of_ble_eq_true rfl)⟩ vm_X9_change tw_685 cl_X9 (oX_0 hX) ⟨(Nat.le_of_ble_eq_true rfl), (Nat.le_of_ble_eq_true rfl), (Nat.le_of_ble_eq_true rfl), (Nat.le_of_ble_eq_true rfl)⟩ dX9_echo_7 (t_X9_change hX _ (by decide) hC.tr _ _ _ _ _ _ h) rfl rfl rfl (Nat.le_of_ble_eq_true rfl) (fun r3 q4 h => ?_)
  exact a_iret (pc := 10) hC hE h (Nat.le_of_ble_eq_true rfl) (Nat.le_of_ble_eq_true rfl) dX9_echo_10
set_option maxRecDepth 20000 in
theorem t_X9_singer {l : Launch} {g : aG} (hX : isX g) (hl : l.stackTraces = false) (x1 : Int32) (x2 : Int32) (q : aS) (P : Int32 → aS → Prop) (X : String → aS → Prop) (h : w_X9_singer x1 x2 q P X) : aMi l g yX9_singer (aWs yX9_singer cX9_singer 3 (some .int)) 9 1 6 [.ref (gAd g 0), .int x1, .int x2] q P X := by
  refine aMi_of RX9 ⟨by decide +kernel, rfl⟩ (cat_all rfl) (Nat.le_of_ble_eq_true rfl) hl hX.cl (fun f hR hC hE => ?_)
  show AW f g 0 [some (.ref (gAd g 0)), some (.int x1), some (.int x2)] [] q 0 0
  unfold w_X9_singer at h
  refine a_aload_n (pc := 0) hC dX9_singer_0 rfl ?_
  refine a_kst (pc := 1) hX hC 2 (by decide) rfl tw_860 dX9_singer_1 ?_
  refine a_iload_n (pc := 4) hC dX9_singer_4 rfl ?_
  refine a_iload_n (pc := 5) hC dX9_singer_5 rfl ?_
  refine a_iconst (pc := 6) hC dX9_singer_6 (v := 0) rfl ?_
  refine a_callVx (pc := 7) hC hR hE.1 ⟨(Nat.le_of_ble_eq_true rfl), (Nat.le_of_ble_eq_true rfl)⟩ vm_X9_change tw_685 cl_X9 (oX_0 hX) ⟨(Nat.le_of_ble_eq_true rfl), (Nat.le_of_ble_eq_true rfl), (Nat.le_of_ble_eq_true rfl), (Nat.le_of_ble_eq_true rfl)⟩ dX9_singer_7 (t_X9_change hX _ (by decide) hC.tr _ _ _ _ _ _ h) rfl rfl rfl (Nat.le_of_ble_eq_true rfl) (fun r3 q4 h => ?_)
  exact a_iret (pc := 10) hC hE h (Nat.le_of_ble_eq_true rfl) (Nat.le_of_ble_eq_true rfl) dX9_singer_10
set_option maxRecDepth 20000 in
theorem t_X9_enter {l : Launch} {g : aG} (hX : isX g) (hl : l.stackTraces = false) (x1 : Int32) (x2 : Int32) (q : aS) (P : Int32 → aS → Prop) (X : String → aS → Prop) (h : w_X9_enter x1 x2 q P X) : aMi l g yX9_enter (aWs yX9_enter cX9_enter 3 (some .int)) 9 1 6 [.ref (gAd g 0), .int x1, .int x2] q P X := by
  refine aMi_of RX9 ⟨by decide +kernel, rfl⟩ (cat_all rfl) (Nat.le_of_ble_eq_true rfl) hl hX.cl (fun f hR hC hE => ?_)
  show AW f g 0 [some (.ref (gAd g 0)), some (.int x1), some (.int x2)] [] q 0 0
  unfold w_X9_enter at h
  refine a_aload_n (pc := 0) hC dX9_enter_0 rfl ?_
  refine a_kst (pc := 1) hX hC 3 (by decide) rfl tw_866 dX9_enter_1 ?_
  refine a_iload_n (pc := 4) hC dX9_enter_4 rfl ?_
  refine a_iload_n (pc := 5) hC dX9_enter_5 rfl ?_
  refine a_iconst (pc := 6) hC dX9_enter_6 (v := 0) rfl ?_
  refine a_callVx (pc := 7) hC hR hE.1 ⟨(Nat.le_of_ble_eq_true rfl), (Nat.le_of_ble_eq_true rfl)⟩ vm_X9_change tw_685 cl_X9 (oX_0 hX) ⟨(Nat.le_of_ble_eq_true rfl), (Nat.le_of_ble_eq_true rfl), (Nat.le_of_ble_eq_true rfl), (Nat.le_of_ble_eq_true rfl)⟩ dX9_enter_7 (t_X9_change hX _ (by decide) hC.tr _ _ _ _ _ _ h) rfl rfl rfl (Nat.le_of_ble_eq_true rfl) (fun r3 q4 h => ?_)
  exact a_iret (pc := 10) hC hE h (Nat.le_of_ble_eq_true rfl) (Nat.le_of_ble_eq_true rfl) dX9_enter_10
set_option maxRecDepth 20000 in
theorem t_X9_out {l : Launch} {g : aG} (hX : isX g) (hl : l.stackTraces = false) (x1 : Int32) (q : aS) (P : Int32 → aS → Prop) (X : String → aS → Prop) (h : w_X9_out x1 q P X) : aMi l g yX9_out (aWs yX9_out cX9_out 2 (some .int)) 9 1 6 [.ref (gAd g 0), .int x1] q P X := by
  refine aMi_of RX9 ⟨by decide +kernel, rfl⟩ (cat_all rfl) (Nat.le_of_ble_eq_true rfl) hl hX.cl (fun f hR hC hE => ?_)
  show AW f g 0 [some (.ref (gAd g 0)), some (.int x1)] [] q 0 0
  unfold w_X9_out at h
  refine a_aload_n (pc := 0) hC dX9_out_0 rfl ?_
  refine a_kst (pc := 1) hX hC 4 (by decide) rfl tw_872 dX9_out_1 ?_
  refine a_iload_n (pc := 4) hC dX9_out_4 rfl ?_
  refine a_iconst (pc := 5) hC dX9_out_5 (v := 0) rfl ?_
  refine a_iconst (pc := 6) hC dX9_out_6 (v := 0) rfl ?_
  refine a_callVx (pc := 7) hC hR hE.1 ⟨(Nat.le_of_ble_eq_true rfl), (Nat.le_of_ble_eq_true rfl)⟩ vm_X9_change tw_685 cl_X9 (oX_0 hX) ⟨(Nat.le_of_ble_eq_true rfl), (Nat.le_of_ble_eq_true rfl), (Nat.le_of_ble_eq_true rfl), (Nat.le_of_ble_eq_true rfl)⟩ dX9_out_7 (t_X9_change hX _ (by decide) hC.tr _ _ _ _ _ _ h) rfl rfl rfl (Nat.le_of_ble_eq_true rfl) (fun r2 q3 h => ?_)
  exact a_iret (pc := 10) hC hE h (Nat.le_of_ble_eq_true rfl) (Nat.le_of_ble_eq_true rfl) dX9_out_10
set_option maxRecDepth 20000 in
theorem t_X9_carry {l : Launch} {g : aG} (hX : isX g) (hl : l.stackTraces = false) (x1 : Int32) (x2 : Int32) (q : aS) (P : Int32 → aS → Prop) (X : String → aS → Prop) (h : w_X9_carry x1 x2 q P X) : aMi l g yX9_carry (aWs yX9_carry cX9_carry 3 (some .int)) 9 1 6 [.ref (gAd g 0), .int x1, .int x2] q P X := by
  refine aMi_of RX9 ⟨by decide +kernel, rfl⟩ (cat_all rfl) (Nat.le_of_ble_eq_true rfl) hl hX.cl (fun f hR hC hE => ?_)
  show AW f g 0 [some (.ref (gAd g 0)), some (.int x1), some (.int x2)] [] q 0 0
  unfold w_X9_carry at h
  refine a_aload_n (pc := 0) hC dX9_carry_0 rfl ?_
  refine a_kst (pc := 1) hX hC 5 (by decide) rfl tw_878 dX9_carry_1 ?_
  refine a_iload_n (pc := 4) hC dX9_carry_4 rfl ?_
  refine a_iload_n (pc := 5) hC dX9_carry_5 rfl ?_
  refine a_iconst (pc := 6) hC dX9_carry_6 (v := 0) rfl ?_
  refine a_callVx (pc := 7) hC hR hE.1 ⟨(Nat.le_of_ble_eq_true rfl), (Nat.le_of_ble_eq_true rfl)⟩ vm_X9_change tw_685 cl_X9 (oX_0 hX) ⟨(Nat.le_of_ble_eq_true rfl), (Nat.le_of_ble_eq_true rfl), (Nat.le_of_ble_eq_true rfl), (Nat.le_of_ble_eq_true rfl)⟩ dX9_carry_7 (t_X9_change hX _ (by decide) hC.tr _ _ _ _ _ _ h) rfl rfl rfl (Nat.le_of_ble_eq_true rfl) (fun r3 q4 h => ?_)
  exact a_iret (pc := 10) hC hE h (Nat.le_of_ble_eq_true rfl) (Nat.le_of_ble_eq_true rfl) dX9_carry_10
set_option maxRecDepth 20000 in
theorem t_X9_rent {l : Launch} {g : aG} (hX : isX g) (hl : l.stackTraces = false) (x1 : Int32) (x2 : Int32) (x3 : Int32) (q : aS) (P : Int32 → aS → Prop) (X : String → aS → Prop) (h : w_X9_rent x1 x2 x3 q P X) : aMi l g yX9_rent (aWs yX9_rent cX9_rent 4 (some .int)) 9 1 6 [.ref (gAd g 0), .int x1, .int x2, .int x3] q P X := by
  refine aMi_of RX9 ⟨by decide +kernel, rfl⟩ (cat_all rfl) (Nat.le_of_ble_eq_true rfl) hl hX.cl (fun f hR hC hE => ?_)
  show AW f g 0 [some (.ref (gAd g 0)), some (.int x1), some (.int x2), some (.int x3)] [] q 0 0
  unfold w_X9_rent at h
  refine a_aload_n (pc := 0) hC dX9_rent_0 rfl ?_
  refine a_kst (pc := 1) hX hC 6 (by decide) rfl tw_884 dX9_rent_1 ?_
  refine a_iload_n (pc := 4) hC dX9_rent_4 rfl ?_
  refine a_iload_n (pc := 5) hC dX9_rent_5 rfl ?_
  refine a_iload_n (pc := 6) hC dX9_rent_6 rfl ?_
  refine a_callVx (pc := 7) hC hR hE.1 ⟨(Nat.le_of_ble_eq_true rfl), (Nat.le_of_ble_eq_true rfl)⟩ vm_X9_change tw_685 cl_X9 (oX_0 hX) ⟨(Nat.le_of_ble_eq_true rfl), (Nat.le_of_ble_eq_true rfl), (Nat.le_of_ble_eq_true rfl), (Nat.le_of_ble_eq_true rfl)⟩ dX9_rent_7 (t_X9_change hX _ (by decide) hC.tr _ _ _ _ _ _ h) rfl rfl rfl (Nat.le_of_ble_eq_true rfl) (fun r4 q5 h => ?_)
  exact a_iret (pc := 10) hC hE h (Nat.le_of_ble_eq_true rfl) (Nat.le_of_ble_eq_true rfl) dX9_rent_10
set_option maxRecDepth 20000 in
theorem t_X9_back {l : Launch} {g : aG} (hX : isX g) (hl : l.stackTraces = false) (x1 : Int32) (x2 : Int32) (q : aS) (P : Int32 → aS → Prop) (X : String → aS → Prop) (h : w_X9_back x1 x2 q P X) : aMi l g yX9_back (aWs yX9_back cX9_back 3 (some .int)) 9 1 6 [.ref (gAd g 0), .int x1, .int x2] q P X := by
  refine aMi_of RX9 ⟨by decide +kernel, rfl⟩ (cat_all rfl) (Nat.le_of_ble_eq_true rfl) hl hX.cl (fun f hR hC hE => ?_)
  show AW f g 0 [some (.ref (gAd g 0)), some (.int x1), some (.int x2)] [] q 0 0
  unfold w_X9_back at h
  refine a_aload_n (pc := 0) hC dX9_back_0 rfl ?_
  refine a_kst (pc := 1) hX hC 7 (by decide) rfl tw_890 dX9_back_1 ?_
  refine a_iload_n (pc := 4) hC dX9_back_4 rfl ?_
  refine a_iload_n (pc := 5) hC dX9_back_5 rfl ?_
  refine a_iconst (pc := 6) hC dX9_back_6 (v := 0) rfl ?_
  refine a_callVx (pc := 7) hC hR hE.1 ⟨(Nat.le_of_ble_eq_true rfl), (Nat.le_of_ble_eq_true rfl)⟩ vm_X9_change tw_685 cl_X9 (oX_0 hX) ⟨(Nat.le_of_ble_eq_true rfl), (Nat.le_of_ble_eq_true rfl), (Nat.le_of_ble_eq_true rfl), (Nat.le_of_ble_eq_true rfl)⟩ dX9_back_7 (t_X9_change hX _ (by decide) hC.tr _ _ _ _ _ _ h) rfl rfl rfl (Nat.le_of_ble_eq_true rfl) (fun r3 q4 h => ?_)
  exact a_iret (pc := 10) hC hE h (Nat.le_of_ble_eq_true rfl) (Nat.le_of_ble_eq_true rfl) dX9_back_10
set_option maxRecDepth 20000 in
theorem t_X9_sing {l : Launch} {g : aG} (hX : isX g) (hl : l.stackTraces = false) (x1 : Int32) (q : aS) (P : Int32 → aS → Prop) (X : String → aS → Prop) (h : w_X9_sing x1 q P X) : aMi l g yX9_sing (aWs yX9_sing cX9_sing 2 (some .int)) 9 1 6 [.ref (gAd g 0), .int x1] q P X := by
  refine aMi_of RX9 ⟨by decide +kernel, rfl⟩ (cat_all rfl) (Nat.le_of_ble_eq_true rfl) hl hX.cl (fun f hR hC hE => ?_)
  show AW f g 0 [some (.ref (gAd g 0)), some (.int x1)] [] q 0 0
  unfold w_X9_sing at h
  refine a_aload_n (pc := 0) hC dX9_sing_0 rfl ?_
  refine a_kst (pc := 1) hX hC 8 (by decide) rfl tw_896 dX9_sing_1 ?_
  refine a_iload_n (pc := 4) hC dX9_sing_4 rfl ?_
  refine a_iconst (pc := 5) hC dX9_sing_5 (v := 0) rfl ?_
  refine a_iconst (pc := 6) hC dX9_sing_6 (v := 0) rfl ?_
  refine a_callVx (pc := 7) hC hR hE.1 ⟨(Nat.le_of_ble_eq_true rfl), (Nat.le_of_ble_eq_true rfl)⟩ vm_X9_change tw_685 cl_X9 (oX_0 hX) ⟨(Nat.le_of_ble_eq_true rfl), (Nat.le_of_ble_eq_true rfl), (Nat.le_of_ble_eq_true rfl), (Nat.le_of_ble_eq_true rfl)⟩ dX9_sing_7 (t_X9_change hX _ (by decide) hC.tr _ _ _ _ _ _ h) rfl rfl rfl (Nat.le_of_ble_eq_true rfl) (fun r2 q3 h => ?_)
  exact a_iret (pc := 10) hC hE h (Nat.le_of_ble_eq_true rfl) (Nat.le_of_ble_eq_true rfl) dX9_sing_10
set_option maxRecDepth 20000 in
theorem t_X9_night {l : Launch} {g : aG} (hX : isX g) (hl : l.stackTraces = false) (q : aS) (P : Int32 → aS → Prop) (h : w_X9_night q P) : aMi l g yX9_night (aWs yX9_night cX9_night 1 (some .int)) 4 0 0 [.ref (gAd g 0)] q P (fun _ _ => False) := by
  refine aMi_of RX9 ⟨by decide +kernel, rfl⟩ (cat_all rfl) (Nat.le_of_ble_eq_true rfl) hl hX.cl (fun f hR hC hE => ?_)
  show AW f g 0 [some (.ref (gAd g 0))] [] q 0 0
  unfold w_X9_night at h
  refine a_aload_n (pc := 0) hC dX9_night_0 rfl ?_
  refine a_get (pc := 1) hC cl_X9 (oX_0 hX) 4 (by decide) tw_306 rfl dX9_night_1 ?_
  refine a_aload_n (pc := 4) hC dX9_night_4 rfl ?_
  refine a_get (pc := 5) hC cl_X9 (oX_0 hX) 0 (by decide) tw_303 rfl dX9_night_5 ?_
  refine a_callVv (pc := 8) hC hR vm_X4_keep tw_775 cl_X4 (oX_52 hX) ⟨(Nat.le_of_ble_eq_true rfl), (Nat.le_of_ble_eq_true rfl), (Nat.le_of_ble_eq_true rfl), (Nat.le_of_ble_eq_true rfl)⟩ dX9_night_8 (t_X4_keep hX _ (Or.inl rfl) hC.tr _ _ h) rfl rfl rfl (Nat.le_of_ble_eq_true rfl) (fun q2 h => ?_)
  refine a_aload_n (pc := 11) hC dX9_night_11 rfl ?_
  refine a_get (pc := 12) hC cl_X9 (oX_0 hX) 0 (by decide) tw_303 rfl dX9_night_12 ?_
  refine a_callV (pc := 15) hC hR vm_X8_letNightPass tw_846 cl_X8 (oX_1 hX) ⟨(Nat.le_of_ble_eq_true rfl), (Nat.le_of_ble_eq_true rfl), (Nat.le_of_ble_eq_true rfl), (Nat.le_of_ble_eq_true rfl)⟩ dX9_night_15 (t_X8_letNightPass hX hC.tr _ _ h) rfl rfl rfl (Nat.le_of_ble_eq_true rfl) (fun r3 q4 h => ?_)
  exact a_iret (pc := 18) hC hE h (Nat.le_of_ble_eq_true rfl) (Nat.le_of_ble_eq_true rfl) dX9_night_18
set_option maxRecDepth 20000 in
theorem t_X9_roomOf {l : Launch} {g : aG} (hX : isX g) (hl : l.stackTraces = false) (x1 : Int32) (x2 : Int32) (q : aS) (P : Int32 → aS → Prop) (X : String → aS → Prop) (h : w_X9_roomOf x1 x2 q P X) : aMi l g yX9_roomOf (aWs yX9_roomOf cX9_roomOf 3 (some .int)) 9 2 12 [.ref (gAd g 0), .int x1, .int x2] q P X := by
  refine aMi_of RX9 ⟨by decide +kernel, rfl⟩ (cat_all rfl) (Nat.le_of_ble_eq_true rfl) hl hX.cl (fun f hR hC hE => ?_)
  show AW f g 0 [some (.ref (gAd g 0)), some (.int x1), some (.int x2)] [] q 0 0
  unfold w_X9_roomOf at h
  refine a_aload_n (pc := 0) hC dX9_roomOf_0 rfl ?_
  refine a_iload_n (pc := 1) hC dX9_roomOf_1 rfl ?_
  refine a_callVvx (pc := 2) hC hR hE.1 ⟨(Nat.le_of_ble_eq_true rfl), (Nat.le_of_ble_eq_true rfl)⟩ vm_X9_checkRoom tw_466 cl_X9 (oX_0 hX) ⟨(Nat.le_of_ble_eq_true rfl), (Nat.le_of_ble_eq_true rfl), (Nat.le_of_ble_eq_true rfl), (Nat.le_of_ble_eq_true rfl)⟩ dX9_roomOf_2 (t_X9_checkRoom hX hC.tr _ _ _ _ h) rfl rfl rfl (Nat.le_of_ble_eq_true rfl) (fun q4 h => ?_)
  refine a_iload_n (pc := 5) hC dX9_roomOf_5 rfl ?_
  refine tab_or (fun c0 => ?_) (fun c0 => ?_) h
  · intro h
    refine a_tabIn (pc := 6) (tgt := 44) hC dX9_roomOf_6 (by rw [c0]; decide) (by rw [c0]; decide) (by rw [c0]; rfl) (by decide) ?_
    refine a_aload_n (pc := 44) hC dX9_roomOf_44 rfl ?_
    refine a_get (pc := 45) hC cl_X9 (oX_0 hX) 0 (by decide) tw_303 rfl dX9_roomOf_45 ?_
    refine a_get (pc := 48) hC cl_X8 (oX_1 hX) 0 (by decide) tw_151 rfl dX9_roomOf_48 ?_
    refine a_get (pc := 51) hC cl_X6 (oX_2 hX) 1 (by decide) tw_59 rfl dX9_roomOf_51 ?_
    refine a_iload_n (pc := 54) hC dX9_roomOf_54 rfl ?_
    refine a_iald (pc := 55) hC (oX_3 hX) h.1 dX9_roomOf_55 ?_
    replace h := h.2
    exact a_iret (pc := 56) hC hE h (Nat.le_of_ble_eq_true rfl) (Nat.le_of_ble_eq_true rfl) dX9_roomOf_56
  intro h
  refine tab_or (fun c1 => ?_) (fun c1 => ?_) h
  · intro h
    refine a_tabIn (pc := 6) (tgt := 57) hC dX9_roomOf_6 (by rw [c1]; decide) (by rw [c1]; decide) (by rw [c1]; rfl) (by decide) ?_
    refine a_aload_n (pc := 57) hC dX9_roomOf_57 rfl ?_
    refine a_get (pc := 58) hC cl_X9 (oX_0 hX) 0 (by decide) tw_303 rfl dX9_roomOf_58 ?_
    refine a_get (pc := 61) hC cl_X8 (oX_1 hX) 0 (by decide) tw_151 rfl dX9_roomOf_61 ?_
    refine a_get (pc := 64) hC cl_X6 (oX_2 hX) 2 (by decide) tw_61 rfl dX9_roomOf_64 ?_
    refine a_iload_n (pc := 67) hC dX9_roomOf_67 rfl ?_
    refine a_iald (pc := 68) hC (oX_4 hX) h.1 dX9_roomOf_68 ?_
    replace h := h.2
    exact a_iret (pc := 69) hC hE h (Nat.le_of_ble_eq_true rfl) (Nat.le_of_ble_eq_true rfl) dX9_roomOf_69
  intro h
  refine tab_or (fun c2 => ?_) (fun c2 => ?_) h
  · intro h
    refine a_tabIn (pc := 6) (tgt := 70) hC dX9_roomOf_6 (by rw [c2]; decide) (by rw [c2]; decide) (by rw [c2]; rfl) (by decide) ?_
    refine a_aload_n (pc := 70) hC dX9_roomOf_70 rfl ?_
    refine a_get (pc := 71) hC cl_X9 (oX_0 hX) 0 (by decide) tw_303 rfl dX9_roomOf_71 ?_
    refine a_iload_n (pc := 74) hC dX9_roomOf_74 rfl ?_
    refine a_callV (pc := 75) hC hR vm_X8_singersIn tw_487 cl_X8 (oX_1 hX) ⟨(Nat.le_of_ble_eq_true rfl), (Nat.le_of_ble_eq_true rfl), (Nat.le_of_ble_eq_true rfl), (Nat.le_of_ble_eq_true rfl)⟩ dX9_roomOf_75 (t_X8_singersIn hX hC.tr _ _ _ h) rfl rfl rfl (Nat.le_of_ble_eq_true rfl) (fun r5 q6 h => ?_)
    refine a_callS (pc := 78) hC hR sm_J6_bitCount_0f7a4 tw_491 ⟨(Nat.le_of_ble_eq_true rfl), (Nat.le_of_ble_eq_true rfl), (Nat.le_of_ble_eq_true rfl), (Nat.le_of_ble_eq_true rfl)⟩ dX9_roomOf_78 (t_J6_bitCount_0f7a4 hX.cl hC.tr _ _ _ h) rfl rfl rfl (Nat.le_of_ble_eq_true rfl) (fun r7 q8 h => ?_)
    exact a_iret (pc := 81) hC hE h (Nat.le_of_ble_eq_true rfl) (Nat.le_of_ble_eq_true rfl) dX9_roomOf_81
  intro h
  refine tab_or (fun c3 => ?_) (fun c3 => ?_) h
  · intro h
    refine a_tabIn (pc := 6) (tgt := 82) hC dX9_roomOf_6 (by rw [c3]; decide) (by rw [c3]; decide) (by rw [c3]; rfl) (by decide) ?_
    refine a_aload_n (pc := 82) hC dX9_roomOf_82 rfl ?_
    refine a_get (pc := 83) hC cl_X9 (oX_0 hX) 0 (by decide) tw_303 rfl dX9_roomOf_83 ?_
    refine a_iload_n (pc := 86) hC dX9_roomOf_86 rfl ?_
    refine a_callV (pc := 87) hC hR vm_X8_echoesIn tw_497 cl_X8 (oX_1 hX) ⟨(Nat.le_of_ble_eq_true rfl), (Nat.le_of_ble_eq_true rfl), (Nat.le_of_ble_eq_true rfl), (Nat.le_of_ble_eq_true rfl)⟩ dX9_roomOf_87 (t_X8_echoesIn hX hC.tr _ _ _ h) rfl rfl rfl (Nat.le_of_ble_eq_true rfl) (fun r9 q10 h => ?_)
    refine a_callS (pc := 90) hC hR sm_J6_bitCount_0f7a4 tw_491 ⟨(Nat.le_of_ble_eq_true rfl), (Nat.le_of_ble_eq_true rfl), (Nat.le_of_ble_eq_true rfl), (Nat.le_of_ble_eq_true rfl)⟩ dX9_roomOf_90 (t_J6_bitCount_0f7a4 hX.cl hC.tr _ _ _ h) rfl rfl rfl (Nat.le_of_ble_eq_true rfl) (fun r11 q12 h => ?_)
    exact a_iret (pc := 93) hC hE h (Nat.le_of_ble_eq_true rfl) (Nat.le_of_ble_eq_true rfl) dX9_roomOf_93
  intro h
  refine tab_or (fun c4 => ?_) (fun c4 => ?_) h
  · intro h
    refine a_tabIn (pc := 6) (tgt := 94) hC dX9_roomOf_6 (by rw [c4]; decide) (by rw [c4]; decide) (by rw [c4]; rfl) (by decide) ?_
    refine a_aload_n (pc := 94) hC dX9_roomOf_94 rfl ?_
    refine a_get (pc := 95) hC cl_X9 (oX_0 hX) 0 (by decide) tw_303 rfl dX9_roomOf_95 ?_
    refine a_iload_n (pc := 98) hC dX9_roomOf_98 rfl ?_
    refine a_callV (pc := 99) hC hR vm_X8_echoesIn tw_497 cl_X8 (oX_1 hX) ⟨(Nat.le_of_ble_eq_true rfl), (Nat.le_of_ble_eq_true rfl), (Nat.le_of_ble_eq_true rfl), (Nat.le_of_ble_eq_true rfl)⟩ dX9_roomOf_99 (t_X8_echoesIn hX hC.tr _ _ _ h) rfl rfl rfl (Nat.le_of_ble_eq_true rfl) (fun r13 q14 h => ?_)
    refine a_aload_n (pc := 102) hC dX9_roomOf_102 rfl ?_
    refine a_get (pc := 103) hC cl_X9 (oX_0 hX) 0 (by decide) tw_303 rfl dX9_roomOf_103 ?_
    refine a_iload_n (pc := 106) hC dX9_roomOf_106 rfl ?_
    refine a_callV (pc := 107) hC hR vm_X8_freeIn tw_501 cl_X8 (oX_1 hX) ⟨(Nat.le_of_ble_eq_true rfl), (Nat.le_of_ble_eq_true rfl), (Nat.le_of_ble_eq_true rfl), (Nat.le_of_ble_eq_true rfl)⟩ dX9_roomOf_107 (t_X8_freeIn hX hC.tr _ _ _ h) rfl rfl rfl (Nat.le_of_ble_eq_true rfl) (fun r15 q16 h => ?_)
    refine a_iconst (pc := 110) hC dX9_roomOf_110 (v := (-1)) rfl ?_
    refine a_ixor (pc := 111) hC dX9_roomOf_111 ?_
    refine a_iand (pc := 112) hC dX9_roomOf_112 ?_
    refine a_callS (pc := 113) hC hR sm_J6_bitCount_0f7a4 tw_491 ⟨(Nat.le_of_ble_eq_true rfl), (Nat.le_of_ble_eq_true rfl), (Nat.le_of_ble_eq_true rfl), (Nat.le_of_ble_eq_true rfl)⟩ dX9_roomOf_113 (t_J6_bitCount_0f7a4 hX.cl hC.tr _ _ _ h) rfl rfl rfl (Nat.le_of_ble_eq_true rfl) (fun r17 q18 h => ?_)
    exact a_iret (pc := 116) hC hE h (Nat.le_of_ble_eq_true rfl) (Nat.le_of_ble_eq_true rfl) dX9_roomOf_116
  intro h
  refine tab_or (fun c5 => ?_) (fun c5 => ?_) h
  · intro h
    refine a_tabIn (pc := 6) (tgt := 117) hC dX9_roomOf_6 (by rw [c5]; decide) (by rw [c5]; decide) (by rw [c5]; rfl) (by decide) ?_
    refine a_aload_n (pc := 117) hC dX9_roomOf_117 rfl ?_
    refine a_get (pc := 118) hC cl_X9 (oX_0 hX) 0 (by decide) tw_303 rfl dX9_roomOf_118 ?_
    refine a_get (pc := 121) hC cl_X8 (oX_1 hX) 0 (by decide) tw_151 rfl dX9_roomOf_121 ?_
    refine a_get (pc := 124) hC cl_X6 (oX_2 hX) 3 (by decide) tw_64 rfl dX9_roomOf_124 ?_
    refine a_iload_n (pc := 127) hC dX9_roomOf_127 rfl ?_
    refine a_iald (pc := 128) hC (oX_5 hX) h.1 dX9_roomOf_128 ?_
    replace h := h.2
    exact a_iret (pc := 129) hC hE h (Nat.le_of_ble_eq_true rfl) (Nat.le_of_ble_eq_true rfl) dX9_roomOf_129
  intro h
  refine a_tabOut (pc := 6) (tgt := 130) hC dX9_roomOf_6 (by have e0 := tab_ne (z := 0) rfl c0; have e1 := tab_ne (z := 1) rfl c1; have e2 := tab_ne (z := 2) rfl c2; have e3 := tab_ne (z := 3) rfl c3; have e4 := tab_ne (z := 4) rfl c4; have e5 := tab_ne (z := 5) rfl c5; omega) (by decide) ?_
  exact a_throw (pc := 130) hX hC hR hE.1 ex_127 mm_129 rfl ⟨(Nat.le_of_ble_eq_true rfl), (Nat.le_of_ble_eq_true rfl), (Nat.le_of_ble_eq_true rfl), (Nat.le_of_ble_eq_true rfl), (Nat.le_of_ble_eq_true rfl)⟩ (Nat.le_of_ble_eq_true rfl) dX9_roomOf_130 dX9_roomOf_133 dX9_roomOf_134 dX9_roomOf_136 dX9_roomOf_139 h
set_option maxRecDepth 20000 in
theorem t_X9_echoOf {l : Launch} {g : aG} (hX : isX g) (hl : l.stackTraces = false) (x1 : Int32) (x2 : Int32) (q : aS) (P : Int32 → aS → Prop) (X : String → aS → Prop) (h : w_X9_echoOf x1 x2 q P X) : aMi l g yX9_echoOf (aWs yX9_echoOf cX9_echoOf 3 (some .int)) 9 2 12 [.ref (gAd g 0), .int x1, .int x2] q P X := by
  refine aMi_of RX9 ⟨by decide +kernel, rfl⟩ (cat_all rfl) (Nat.le_of_ble_eq_true rfl) hl hX.cl (fun f hR hC hE => ?_)
  show AW f g 0 [some (.ref (gAd g 0)), some (.int x1), some (.int x2)] [] q 0 0
  unfold w_X9_echoOf at h
  refine a_aload_n (pc := 0) hC dX9_echoOf_0 rfl ?_
  refine a_iload_n (pc := 1) hC dX9_echoOf_1 rfl ?_
  refine a_callVvx (pc := 2) hC hR hE.1 ⟨(Nat.le_of_ble_eq_true rfl), (Nat.le_of_ble_eq_true rfl)⟩ vm_X9_checkEcho tw_514 cl_X9 (oX_0 hX) ⟨(Nat.le_of_ble_eq_true rfl), (Nat.le_of_ble_eq_true rfl), (Nat.le_of_ble_eq_true rfl), (Nat.le_of_ble_eq_true rfl)⟩ dX9_echoOf_2 (t_X9_checkEcho hX hC.tr _ _ _ _ h) rfl rfl rfl (Nat.le_of_ble_eq_true rfl) (fun q4 h => ?_)
  refine a_iload_n (pc := 5) hC dX9_echoOf_5 rfl ?_
  refine tab_or (fun c0 => ?_) (fun c0 => ?_) h
  · intro h
    refine a_tabIn (pc := 6) (tgt := 40) hC dX9_echoOf_6 (by rw [c0]; decide) (by rw [c0]; decide) (by rw [c0]; rfl) (by decide) ?_
    refine a_aload_n (pc := 40) hC dX9_echoOf_40 rfl ?_
    refine a_get (pc := 41) hC cl_X9 (oX_0 hX) 0 (by decide) tw_303 rfl dX9_echoOf_41 ?_
    refine a_get (pc := 44) hC cl_X8 (oX_1 hX) 1 (by decide) tw_153 rfl dX9_echoOf_44 ?_
    refine a_get (pc := 47) hC cl_X1 (oX_6 hX) 1 (by decide) tw_87 rfl dX9_echoOf_47 ?_
    refine a_iload_n (pc := 50) hC dX9_echoOf_50 rfl ?_
    refine a_iald (pc := 51) hC (oX_7 hX) h.1 dX9_echoOf_51 ?_
    replace h := h.2
    exact a_iret (pc := 52) hC hE h (Nat.le_of_ble_eq_true rfl) (Nat.le_of_ble_eq_true rfl) dX9_echoOf_52
  intro h
  refine tab_or (fun c1 => ?_) (fun c1 => ?_) h
  · intro h
    refine a_tabIn (pc := 6) (tgt := 53) hC dX9_echoOf_6 (by rw [c1]; decide) (by rw [c1]; decide) (by rw [c1]; rfl) (by decide) ?_
    refine a_aload_n (pc := 53) hC dX9_echoOf_53 rfl ?_
    refine a_get (pc := 54) hC cl_X9 (oX_0 hX) 0 (by decide) tw_303 rfl dX9_echoOf_54 ?_
    refine a_get (pc := 57) hC cl_X8 (oX_1 hX) 1 (by decide) tw_153 rfl dX9_echoOf_57 ?_
    refine a_get (pc := 60) hC cl_X1 (oX_6 hX) 2 (by decide) tw_90 rfl dX9_echoOf_60 ?_
    refine a_iload_n (pc := 63) hC dX9_echoOf_63 rfl ?_
    refine a_iald (pc := 64) hC (oX_8 hX) h.1 dX9_echoOf_64 ?_
    replace h := h.2
    exact a_iret (pc := 65) hC hE h (Nat.le_of_ble_eq_true rfl) (Nat.le_of_ble_eq_true rfl) dX9_echoOf_65
  intro h
  refine tab_or (fun c2 => ?_) (fun c2 => ?_) h
  · intro h
    refine a_tabIn (pc := 6) (tgt := 66) hC dX9_echoOf_6 (by rw [c2]; decide) (by rw [c2]; decide) (by rw [c2]; rfl) (by decide) ?_
    refine a_aload_n (pc := 66) hC dX9_echoOf_66 rfl ?_
    refine a_get (pc := 67) hC cl_X9 (oX_0 hX) 0 (by decide) tw_303 rfl dX9_echoOf_67 ?_
    refine a_get (pc := 70) hC cl_X8 (oX_1 hX) 1 (by decide) tw_153 rfl dX9_echoOf_70 ?_
    refine a_get (pc := 73) hC cl_X1 (oX_6 hX) 3 (by decide) tw_93 rfl dX9_echoOf_73 ?_
    refine a_iload_n (pc := 76) hC dX9_echoOf_76 rfl ?_
    refine a_iald (pc := 77) hC (oX_9 hX) h.1 dX9_echoOf_77 ?_
    replace h := h.2
    exact a_iret (pc := 78) hC hE h (Nat.le_of_ble_eq_true rfl) (Nat.le_of_ble_eq_true rfl) dX9_echoOf_78
  intro h
  refine tab_or (fun c3 => ?_) (fun c3 => ?_) h
  · intro h
    refine a_tabIn (pc := 6) (tgt := 79) hC dX9_echoOf_6 (by rw [c3]; decide) (by rw [c3]; decide) (by rw [c3]; rfl) (by decide) ?_
    refine a_aload_n (pc := 79) hC dX9_echoOf_79 rfl ?_
    refine a_get (pc := 80) hC cl_X9 (oX_0 hX) 0 (by decide) tw_303 rfl dX9_echoOf_80 ?_
    refine a_get (pc := 83) hC cl_X8 (oX_1 hX) 1 (by decide) tw_153 rfl dX9_echoOf_83 ?_
    refine a_get (pc := 86) hC cl_X1 (oX_6 hX) 4 (by decide) tw_95 rfl dX9_echoOf_86 ?_
    refine a_iload_n (pc := 89) hC dX9_echoOf_89 rfl ?_
    refine a_iald (pc := 90) hC (oX_10 hX) h.1 dX9_echoOf_90 ?_
    replace h := h.2
    exact a_iret (pc := 91) hC hE h (Nat.le_of_ble_eq_true rfl) (Nat.le_of_ble_eq_true rfl) dX9_echoOf_91
  intro h
  refine tab_or (fun c4 => ?_) (fun c4 => ?_) h
  · intro h
    refine a_tabIn (pc := 6) (tgt := 92) hC dX9_echoOf_6 (by rw [c4]; decide) (by rw [c4]; decide) (by rw [c4]; rfl) (by decide) ?_
    refine a_aload_n (pc := 92) hC dX9_echoOf_92 rfl ?_
    refine a_get (pc := 93) hC cl_X9 (oX_0 hX) 0 (by decide) tw_303 rfl dX9_echoOf_93 ?_
    refine a_get (pc := 96) hC cl_X8 (oX_1 hX) 1 (by decide) tw_153 rfl dX9_echoOf_96 ?_
    refine a_get (pc := 99) hC cl_X1 (oX_6 hX) 5 (by decide) tw_98 rfl dX9_echoOf_99 ?_
    refine a_iload_n (pc := 102) hC dX9_echoOf_102 rfl ?_
    refine a_iald (pc := 103) hC (oX_11 hX) h.1 dX9_echoOf_103 ?_
    replace h := h.2
    exact a_iret (pc := 104) hC hE h (Nat.le_of_ble_eq_true rfl) (Nat.le_of_ble_eq_true rfl) dX9_echoOf_104
  intro h
  refine a_tabOut (pc := 6) (tgt := 105) hC dX9_echoOf_6 (by have e0 := tab_ne (z := 0) rfl c0; have e1 := tab_ne (z := 1) rfl c1; have e2 := tab_ne (z := 2) rfl c2; have e3 := tab_ne (z := 3) rfl c3; have e4 := tab_ne (z := 4) rfl c4; omega) (by decide) ?_
  exact a_throw (pc := 105) hX hC hR hE.1 ex_127 mm_156 rfl ⟨(Nat.le_of_ble_eq_true rfl), (Nat.le_of_ble_eq_true rfl), (Nat.le_of_ble_eq_true rfl), (Nat.le_of_ble_eq_true rfl), (Nat.le_of_ble_eq_true rfl)⟩ (Nat.le_of_ble_eq_true rfl) dX9_echoOf_105 dX9_echoOf_108 dX9_echoOf_109 dX9_echoOf_111 dX9_echoOf_114 h
set_option maxRecDepth 20000 in
theorem t_X9_singerOf {l : Launch} {g : aG} (hX : isX g) (hl : l.stackTraces = false) (x1 : Int32) (x2 : Int32) (q : aS) (P : Int32 → aS → Prop) (X : String → aS → Prop) (h : w_X9_singerOf x1 x2 q P X) : aMi l g yX9_singerOf (aWs yX9_singerOf cX9_singerOf 3 (some .int)) 9 2 12 [.ref (gAd g 0), .int x1, .int x2] q P X := by
  refine aMi_of RX9 ⟨by decide +kernel, rfl⟩ (cat_all rfl) (Nat.le_of_ble_eq_true rfl) hl hX.cl (fun f hR hC hE => ?_)
  show AW f g 0 [some (.ref (gAd g 0)), some (.int x1), some (.int x2)] [] q 0 0
  unfold w_X9_singerOf at h
  refine a_aload_n (pc := 0) hC dX9_singerOf_0 rfl ?_
  refine a_iload_n (pc := 1) hC dX9_singerOf_1 rfl ?_
  refine a_callVvx (pc := 2) hC hR hE.1 ⟨(Nat.le_of_ble_eq_true rfl), (Nat.le_of_ble_eq_true rfl)⟩ vm_X9_checkSinger tw_528 cl_X9 (oX_0 hX) ⟨(Nat.le_of_ble_eq_true rfl), (Nat.le_of_ble_eq_true rfl), (Nat.le_of_ble_eq_true rfl), (Nat.le_of_ble_eq_true rfl)⟩ dX9_singerOf_2 (t_X9_checkSinger hX hC.tr _ _ _ _ h) rfl rfl rfl (Nat.le_of_ble_eq_true rfl) (fun q4 h => ?_)
  refine a_iload_n (pc := 5) hC dX9_singerOf_5 rfl ?_
  refine tab_or (fun c0 => ?_) (fun c0 => ?_) h
  · intro h
    refine a_tabIn (pc := 6) (tgt := 48) hC dX9_singerOf_6 (by rw [c0]; decide) (by rw [c0]; decide) (by rw [c0]; rfl) (by decide) ?_
    refine a_aload_n (pc := 48) hC dX9_singerOf_48 rfl ?_
    refine a_get (pc := 49) hC cl_X9 (oX_0 hX) 0 (by decide) tw_303 rfl dX9_singerOf_49 ?_
    refine a_get (pc := 52) hC cl_X8 (oX_1 hX) 2 (by decide) tw_155 rfl dX9_singerOf_52 ?_
    refine a_get (pc := 55) hC cl_X7 (oX_12 hX) 1 (by decide) tw_124 rfl dX9_singerOf_55 ?_
    refine a_iload_n (pc := 58) hC dX9_singerOf_58 rfl ?_
    refine a_iald (pc := 59) hC (oX_13 hX) h.1 dX9_singerOf_59 ?_
    replace h := h.2
    exact a_iret (pc := 60) hC hE h (Nat.le_of_ble_eq_true rfl) (Nat.le_of_ble_eq_true rfl) dX9_singerOf_60
  intro h
  refine tab_or (fun c1 => ?_) (fun c1 => ?_) h
  · intro h
    refine a_tabIn (pc := 6) (tgt := 61) hC dX9_singerOf_6 (by rw [c1]; decide) (by rw [c1]; decide) (by rw [c1]; rfl) (by decide) ?_
    refine a_aload_n (pc := 61) hC dX9_singerOf_61 rfl ?_
    refine a_get (pc := 62) hC cl_X9 (oX_0 hX) 0 (by decide) tw_303 rfl dX9_singerOf_62 ?_
    refine a_get (pc := 65) hC cl_X8 (oX_1 hX) 2 (by decide) tw_155 rfl dX9_singerOf_65 ?_
    refine a_get (pc := 68) hC cl_X7 (oX_12 hX) 2 (by decide) tw_127 rfl dX9_singerOf_68 ?_
    refine a_iload_n (pc := 71) hC dX9_singerOf_71 rfl ?_
    refine a_iald (pc := 72) hC (oX_14 hX) h.1 dX9_singerOf_72 ?_
    replace h := h.2
    exact a_iret (pc := 73) hC hE h (Nat.le_of_ble_eq_true rfl) (Nat.le_of_ble_eq_true rfl) dX9_singerOf_73
  intro h
  refine tab_or (fun c2 => ?_) (fun c2 => ?_) h
  · intro h
    refine a_tabIn (pc := 6) (tgt := 74) hC dX9_singerOf_6 (by rw [c2]; decide) (by rw [c2]; decide) (by rw [c2]; rfl) (by decide) ?_
    refine a_aload_n (pc := 74) hC dX9_singerOf_74 rfl ?_
    refine a_get (pc := 75) hC cl_X9 (oX_0 hX) 0 (by decide) tw_303 rfl dX9_singerOf_75 ?_
    refine a_get (pc := 78) hC cl_X8 (oX_1 hX) 2 (by decide) tw_155 rfl dX9_singerOf_78 ?_
    refine a_get (pc := 81) hC cl_X7 (oX_12 hX) 3 (by decide) tw_130 rfl dX9_singerOf_81 ?_
    refine a_iload_n (pc := 84) hC dX9_singerOf_84 rfl ?_
    refine a_iald (pc := 85) hC (oX_15 hX) h.1 dX9_singerOf_85 ?_
    replace h := h.2
    exact a_iret (pc := 86) hC hE h (Nat.le_of_ble_eq_true rfl) (Nat.le_of_ble_eq_true rfl) dX9_singerOf_86
  intro h
  refine tab_or (fun c3 => ?_) (fun c3 => ?_) h
  · intro h
    refine a_tabIn (pc := 6) (tgt := 87) hC dX9_singerOf_6 (by rw [c3]; decide) (by rw [c3]; decide) (by rw [c3]; rfl) (by decide) ?_
    refine a_aload_n (pc := 87) hC dX9_singerOf_87 rfl ?_
    refine a_get (pc := 88) hC cl_X9 (oX_0 hX) 0 (by decide) tw_303 rfl dX9_singerOf_88 ?_
    refine a_iload_n (pc := 91) hC dX9_singerOf_91 rfl ?_
    refine a_callV (pc := 92) hC hR vm_X8_countLetTo tw_537 cl_X8 (oX_1 hX) ⟨(Nat.le_of_ble_eq_true rfl), (Nat.le_of_ble_eq_true rfl), (Nat.le_of_ble_eq_true rfl), (Nat.le_of_ble_eq_true rfl)⟩ dX9_singerOf_92 (t_X8_countLetTo hX hC.tr _ _ _ h) rfl rfl rfl (Nat.le_of_ble_eq_true rfl) (fun r5 q6 h => ?_)
    exact a_iret (pc := 95) hC hE h (Nat.le_of_ble_eq_true rfl) (Nat.le_of_ble_eq_true rfl) dX9_singerOf_95
  intro h
  refine tab_or (fun c4 => ?_) (fun c4 => ?_) h
  · intro h
    refine a_tabIn (pc := 6) (tgt := 96) hC dX9_singerOf_6 (by rw [c4]; decide) (by rw [c4]; decide) (by rw [c4]; rfl) (by decide) ?_
    refine a_aload_n (pc := 96) hC dX9_singerOf_96 rfl ?_
    refine a_get (pc := 97) hC cl_X9 (oX_0 hX) 0 (by decide) tw_303 rfl dX9_singerOf_97 ?_
    refine a_get (pc := 100) hC cl_X8 (oX_1 hX) 2 (by decide) tw_155 rfl dX9_singerOf_100 ?_
    refine a_get (pc := 103) hC cl_X7 (oX_12 hX) 4 (by decide) tw_132 rfl dX9_singerOf_103 ?_
    refine a_iload_n (pc := 106) hC dX9_singerOf_106 rfl ?_
    refine a_iald (pc := 107) hC (oX_16 hX) h.1 dX9_singerOf_107 ?_
    replace h := h.2
    exact a_iret (pc := 108) hC hE h (Nat.le_of_ble_eq_true rfl) (Nat.le_of_ble_eq_true rfl) dX9_singerOf_108
  intro h
  refine tab_or (fun c5 => ?_) (fun c5 => ?_) h
  · intro h
    refine a_tabIn (pc := 6) (tgt := 109) hC dX9_singerOf_6 (by rw [c5]; decide) (by rw [c5]; decide) (by rw [c5]; rfl) (by decide) ?_
    refine a_aload_n (pc := 109) hC dX9_singerOf_109 rfl ?_
    refine a_get (pc := 110) hC cl_X9 (oX_0 hX) 0 (by decide) tw_303 rfl dX9_singerOf_110 ?_
    refine a_get (pc := 113) hC cl_X8 (oX_1 hX) 2 (by decide) tw_155 rfl dX9_singerOf_113 ?_
    refine a_get (pc := 116) hC cl_X7 (oX_12 hX) 5 (by decide) tw_135 rfl dX9_singerOf_116 ?_
    refine a_iload_n (pc := 119) hC dX9_singerOf_119 rfl ?_
    refine a_iald (pc := 120) hC (oX_17 hX) h.1 dX9_singerOf_120 ?_
    replace h := h.2
    exact a_iret (pc := 121) hC hE h (Nat.le_of_ble_eq_true rfl) (Nat.le_of_ble_eq_true rfl) dX9_singerOf_121
  intro h
  refine tab_or (fun c6 => ?_) (fun c6 => ?_) h
  · intro h
    refine a_tabIn (pc := 6) (tgt := 122) hC dX9_singerOf_6 (by rw [c6]; decide) (by rw [c6]; decide) (by rw [c6]; rfl) (by decide) ?_
    refine a_aload_n (pc := 122) hC dX9_singerOf_122 rfl ?_
    refine a_get (pc := 123) hC cl_X9 (oX_0 hX) 0 (by decide) tw_303 rfl dX9_singerOf_123 ?_
    refine a_iload_n (pc := 126) hC dX9_singerOf_126 rfl ?_
    refine a_callV (pc := 127) hC hR vm_X8_heldOf tw_538 cl_X8 (oX_1 hX) ⟨(Nat.le_of_ble_eq_true rfl), (Nat.le_of_ble_eq_true rfl), (Nat.le_of_ble_eq_true rfl), (Nat.le_of_ble_eq_true rfl)⟩ dX9_singerOf_127 (t_X8_heldOf hX hC.tr _ _ _ h) rfl rfl rfl (Nat.le_of_ble_eq_true rfl) (fun r7 q8 h => ?_)
    exact a_iret (pc := 130) hC hE h (Nat.le_of_ble_eq_true rfl) (Nat.le_of_ble_eq_true rfl) dX9_singerOf_130
  intro h
  refine a_tabOut (pc := 6) (tgt := 131) hC dX9_singerOf_6 (by have e0 := tab_ne (z := 0) rfl c0; have e1 := tab_ne (z := 1) rfl c1; have e2 := tab_ne (z := 2) rfl c2; have e3 := tab_ne (z := 3) rfl c3; have e4 := tab_ne (z := 4) rfl c4; have e5 := tab_ne (z := 5) rfl c5; have e6 := tab_ne (z := 6) rfl c6; omega) (by decide) ?_
  exact a_throw (pc := 131) hX hC hR hE.1 ex_127 mm_182 rfl ⟨(Nat.le_of_ble_eq_true rfl), (Nat.le_of_ble_eq_true rfl), (Nat.le_of_ble_eq_true rfl), (Nat.le_of_ble_eq_true rfl), (Nat.le_of_ble_eq_true rfl)⟩ (Nat.le_of_ble_eq_true rfl) dX9_singerOf_131 dX9_singerOf_134 dX9_singerOf_135 dX9_singerOf_137 dX9_singerOf_140 h
set_option maxRecDepth 20000 in
theorem t_X9_tones {l : Launch} {g : aG} (hX : isX g) (hl : l.stackTraces = false) (x1 : Int32) (q : aS) (P : Int32 → aS → Prop) (X : String → aS → Prop) (h : w_X9_tones x1 q P X) : aMi l g yX9_tones (aWs yX9_tones cX9_tones 2 (some .int)) 10 2 12 [.ref (gAd g 0), .int x1] q P X := by
  refine aMi_of RX9 ⟨by decide +kernel, rfl⟩ (cat_all rfl) (Nat.le_of_ble_eq_true rfl) hl hX.cl (fun f hR hC hE => ?_)
  show AW f g 0 [some (.ref (gAd g 0)), some (.int x1)] [] q 0 0
  unfold w_X9_tones at h
  refine a_aload_n (pc := 0) hC dX9_tones_0 rfl ?_
  refine a_iload_n (pc := 1) hC dX9_tones_1 rfl ?_
  refine a_callVvx (pc := 2) hC hR hE.1 ⟨(Nat.le_of_ble_eq_true rfl), (Nat.le_of_ble_eq_true rfl)⟩ vm_X9_checkSingerInside tw_544 cl_X9 (oX_0 hX) ⟨(Nat.le_of_ble_eq_true rfl), (Nat.le_of_ble_eq_true rfl), (Nat.le_of_ble_eq_true rfl), (Nat.le_of_ble_eq_true rfl)⟩ dX9_tones_2 (t_X9_checkSingerInside hX hC.tr _ _ _ _ h) rfl rfl rfl (Nat.le_of_ble_eq_true rfl) (fun q3 h => ?_)
  refine a_aload_n (pc := 5) hC dX9_tones_5 rfl ?_
  refine a_get (pc := 6) hC cl_X9 (oX_0 hX) 0 (by decide) tw_303 rfl dX9_tones_6 ?_
  refine a_iload_n (pc := 9) hC dX9_tones_9 rfl ?_
  refine a_aload_n (pc := 10) hC dX9_tones_10 rfl ?_
  refine a_get (pc := 11) hC cl_X9 (oX_0 hX) 0 (by decide) tw_303 rfl dX9_tones_11 ?_
  refine a_get (pc := 14) hC cl_X8 (oX_1 hX) 2 (by decide) tw_155 rfl dX9_tones_14 ?_
  refine a_get (pc := 17) hC cl_X7 (oX_12 hX) 3 (by decide) tw_130 rfl dX9_tones_17 ?_
  refine a_iload_n (pc := 20) hC dX9_tones_20 rfl ?_
  refine a_iald (pc := 21) hC (oX_15 hX) h.1 dX9_tones_21 ?_
  replace h := h.2
  refine a_callV (pc := 22) hC hR vm_X8_tonesInRoom tw_568 cl_X8 (oX_1 hX) ⟨(Nat.le_of_ble_eq_true rfl), (Nat.le_of_ble_eq_true rfl), (Nat.le_of_ble_eq_true rfl), (Nat.le_of_ble_eq_true rfl)⟩ dX9_tones_22 (t_X8_tonesInRoom hX hC.tr _ _ _ _ h) rfl rfl rfl (Nat.le_of_ble_eq_true rfl) (fun r4 q5 h => ?_)
  exact a_iret (pc := 25) hC hE h (Nat.le_of_ble_eq_true rfl) (Nat.le_of_ble_eq_true rfl) dX9_tones_25
set_option maxRecDepth 20000 in
theorem t_X9_tonesAgain {l : Launch} {g : aG} (hX : isX g) (hl : l.stackTraces = false) (x1 : Int32) (q : aS) (P : Int32 → aS → Prop) (X : String → aS → Prop) (h : w_X9_tonesAgain x1 q P X) : aMi l g yX9_tonesAgain (aWs yX9_tonesAgain cX9_tonesAgain 2 (some .int)) 10 2 12 [.ref (gAd g 0), .int x1] q P X := by
  refine aMi_of RX9 ⟨by decide +kernel, rfl⟩ (cat_all rfl) (Nat.le_of_ble_eq_true rfl) hl hX.cl (fun f hR hC hE => ?_)
  show AW f g 0 [some (.ref (gAd g 0)), some (.int x1)] [] q 0 0
  unfold w_X9_tonesAgain at h
  refine a_aload_n (pc := 0) hC dX9_tonesAgain_0 rfl ?_
  refine a_iload_n (pc := 1) hC dX9_tonesAgain_1 rfl ?_
  refine a_callVvx (pc := 2) hC hR hE.1 ⟨(Nat.le_of_ble_eq_true rfl), (Nat.le_of_ble_eq_true rfl)⟩ vm_X9_checkSingerInside tw_544 cl_X9 (oX_0 hX) ⟨(Nat.le_of_ble_eq_true rfl), (Nat.le_of_ble_eq_true rfl), (Nat.le_of_ble_eq_true rfl), (Nat.le_of_ble_eq_true rfl)⟩ dX9_tonesAgain_2 (t_X9_checkSingerInside hX hC.tr _ _ _ _ h) rfl rfl rfl (Nat.le_of_ble_eq_true rfl) (fun q3 h => ?_)
  refine a_aload_n (pc := 5) hC dX9_tonesAgain_5 rfl ?_
  refine a_get (pc := 6) hC cl_X9 (oX_0 hX) 0 (by decide) tw_303 rfl dX9_tonesAgain_6 ?_
  refine a_iload_n (pc := 9) hC dX9_tonesAgain_9 rfl ?_
  refine a_callV (pc := 10) hC hR vm_X8_tonesByStrength tw_1026 cl_X8 (oX_1 hX) ⟨(Nat.le_of_ble_eq_true rfl), (Nat.le_of_ble_eq_true rfl), (Nat.le_of_ble_eq_true rfl), (Nat.le_of_ble_eq_true rfl)⟩ dX9_tonesAgain_10 (t_X8_tonesByStrength hX hC.tr _ _ _ h) rfl rfl rfl (Nat.le_of_ble_eq_true rfl) (fun r4 q5 h => ?_)
  exact a_iret (pc := 13) hC hE h (Nat.le_of_ble_eq_true rfl) (Nat.le_of_ble_eq_true rfl) dX9_tonesAgain_13
set_option maxRecDepth 20000 in
theorem t_X9_verses {l : Launch} {g : aG} (hX : isX g) (hl : l.stackTraces = false) (x1 : Int32) (q : aS) (P : Int32 → aS → Prop) (X : String → aS → Prop) (h : w_X9_verses x1 q P X) : aMi l g yX9_verses (aWs yX9_verses cX9_verses 2 (some .int)) 10 2 12 [.ref (gAd g 0), .int x1] q P X := by
  refine aMi_of RX9 ⟨by decide +kernel, rfl⟩ (cat_all rfl) (Nat.le_of_ble_eq_true rfl) hl hX.cl (fun f hR hC hE => ?_)
  show AW f g 0 [some (.ref (gAd g 0)), some (.int x1)] [] q 0 0
  unfold w_X9_verses at h
  refine a_aload_n (pc := 0) hC dX9_verses_0 rfl ?_
  refine a_iload_n (pc := 1) hC dX9_verses_1 rfl ?_
  refine a_callVvx (pc := 2) hC hR hE.1 ⟨(Nat.le_of_ble_eq_true rfl), (Nat.le_of_ble_eq_true rfl)⟩ vm_X9_checkSingerInside tw_544 cl_X9 (oX_0 hX) ⟨(Nat.le_of_ble_eq_true rfl), (Nat.le_of_ble_eq_true rfl), (Nat.le_of_ble_eq_true rfl), (Nat.le_of_ble_eq_true rfl)⟩ dX9_verses_2 (t_X9_checkSingerInside hX hC.tr _ _ _ _ h) rfl rfl rfl (Nat.le_of_ble_eq_true rfl) (fun q3 h => ?_)
  refine a_aload_n (pc := 5) hC dX9_verses_5 rfl ?_
  refine a_get (pc := 6) hC cl_X9 (oX_0 hX) 0 (by decide) tw_303 rfl dX9_verses_6 ?_
  refine a_iload_n (pc := 9) hC dX9_verses_9 rfl ?_
  refine a_callV (pc := 10) hC hR vm_X8_versesInThought tw_587 cl_X8 (oX_1 hX) ⟨(Nat.le_of_ble_eq_true rfl), (Nat.le_of_ble_eq_true rfl), (Nat.le_of_ble_eq_true rfl), (Nat.le_of_ble_eq_true rfl)⟩ dX9_verses_10 (t_X8_versesInThought hX hC.tr _ _ _ h) rfl rfl rfl (Nat.le_of_ble_eq_true rfl) (fun r4 q5 h => ?_)
  exact a_iret (pc := 13) hC hE h (Nat.le_of_ble_eq_true rfl) (Nat.le_of_ble_eq_true rfl) dX9_verses_13
set_option maxRecDepth 20000 in
theorem t_X9_versesAgain {l : Launch} {g : aG} (hX : isX g) (hl : l.stackTraces = false) (x1 : Int32) (q : aS) (P : Int32 → aS → Prop) (X : String → aS → Prop) (h : w_X9_versesAgain x1 q P X) : aMi l g yX9_versesAgain (aWs yX9_versesAgain cX9_versesAgain 2 (some .int)) 10 2 12 [.ref (gAd g 0), .int x1] q P X := by
  refine aMi_of RX9 ⟨by decide +kernel, rfl⟩ (cat_all rfl) (Nat.le_of_ble_eq_true rfl) hl hX.cl (fun f hR hC hE => ?_)
  show AW f g 0 [some (.ref (gAd g 0)), some (.int x1)] [] q 0 0
  unfold w_X9_versesAgain at h
  refine a_aload_n (pc := 0) hC dX9_versesAgain_0 rfl ?_
  refine a_iload_n (pc := 1) hC dX9_versesAgain_1 rfl ?_
  refine a_callVvx (pc := 2) hC hR hE.1 ⟨(Nat.le_of_ble_eq_true rfl), (Nat.le_of_ble_eq_true rfl)⟩ vm_X9_checkSingerInside tw_544 cl_X9 (oX_0 hX) ⟨(Nat.le_of_ble_eq_true rfl), (Nat.le_of_ble_eq_true rfl), (Nat.le_of_ble_eq_true rfl), (Nat.le_of_ble_eq_true rfl)⟩ dX9_versesAgain_2 (t_X9_checkSingerInside hX hC.tr _ _ _ _ h) rfl rfl rfl (Nat.le_of_ble_eq_true rfl) (fun q3 h => ?_)
  refine a_aload_n (pc := 5) hC dX9_versesAgain_5 rfl ?_
  refine a_get (pc := 6) hC cl_X9 (oX_0 hX) 0 (by decide) tw_303 rfl dX9_versesAgain_6 ?_
  refine a_iload_n (pc := 9) hC dX9_versesAgain_9 rfl ?_
  refine a_callV (pc := 10) hC hR vm_X8_versesByEcho tw_1038 cl_X8 (oX_1 hX) ⟨(Nat.le_of_ble_eq_true rfl), (Nat.le_of_ble_eq_true rfl), (Nat.le_of_ble_eq_true rfl), (Nat.le_of_ble_eq_true rfl)⟩ dX9_versesAgain_10 (t_X8_versesByEcho hX hC.tr _ _ _ h) rfl rfl rfl (Nat.le_of_ble_eq_true rfl) (fun r4 q5 h => ?_)
  exact a_iret (pc := 13) hC hE h (Nat.le_of_ble_eq_true rfl) (Nat.le_of_ble_eq_true rfl) dX9_versesAgain_13
set_option maxRecDepth 20000 in
theorem t_X9_would {l : Launch} {g : aG} (hX : isX g) (hl : l.stackTraces = false) (x1 : Int32) (x2 : Int32) (q : aS) (P : Int32 → aS → Prop) (X : String → aS → Prop) (h : w_X9_would x1 x2 q P X) : aMi l g yX9_would (aWs yX9_would cX9_would 3 (some .int)) 9 2 12 [.ref (gAd g 0), .int x1, .int x2] q P X := by
  refine aMi_of RX9 ⟨by decide +kernel, rfl⟩ (cat_all rfl) (Nat.le_of_ble_eq_true rfl) hl hX.cl (fun f hR hC hE => ?_)
  show AW f g 0 [some (.ref (gAd g 0)), some (.int x1), some (.int x2)] [] q 0 0
  unfold w_X9_would at h
  refine a_aload_n (pc := 0) hC dX9_would_0 rfl ?_
  refine a_iload_n (pc := 1) hC dX9_would_1 rfl ?_
  refine a_callVvx (pc := 2) hC hR hE.1 ⟨(Nat.le_of_ble_eq_true rfl), (Nat.le_of_ble_eq_true rfl)⟩ vm_X9_checkSinger tw_528 cl_X9 (oX_0 hX) ⟨(Nat.le_of_ble_eq_true rfl), (Nat.le_of_ble_eq_true rfl), (Nat.le_of_ble_eq_true rfl), (Nat.le_of_ble_eq_true rfl)⟩ dX9_would_2 (t_X9_checkSinger hX hC.tr _ _ _ _ h) rfl rfl rfl (Nat.le_of_ble_eq_true rfl) (fun q4 h => ?_)
  refine a_aload_n (pc := 5) hC dX9_would_5 rfl ?_
  refine a_iload_n (pc := 6) hC dX9_would_6 rfl ?_
  refine a_callVvx (pc := 7) hC hR hE.1 ⟨(Nat.le_of_ble_eq_true rfl), (Nat.le_of_ble_eq_true rfl)⟩ vm_X9_checkRoom tw_466 cl_X9 (oX_0 hX) ⟨(Nat.le_of_ble_eq_true rfl), (Nat.le_of_ble_eq_true rfl), (Nat.le_of_ble_eq_true rfl), (Nat.le_of_ble_eq_true rfl)⟩ dX9_would_7 (t_X9_checkRoom hX hC.tr _ _ _ _ h) rfl rfl rfl (Nat.le_of_ble_eq_true rfl) (fun q6 h => ?_)
  refine a_aload_n (pc := 10) hC dX9_would_10 rfl ?_
  refine a_get (pc := 11) hC cl_X9 (oX_0 hX) 0 (by decide) tw_303 rfl dX9_would_11 ?_
  refine a_iload_n (pc := 14) hC dX9_would_14 rfl ?_
  refine a_iload_n (pc := 15) hC dX9_would_15 rfl ?_
  refine a_callV (pc := 16) hC hR vm_X8_tonesInRoom tw_568 cl_X8 (oX_1 hX) ⟨(Nat.le_of_ble_eq_true rfl), (Nat.le_of_ble_eq_true rfl), (Nat.le_of_ble_eq_true rfl), (Nat.le_of_ble_eq_true rfl)⟩ dX9_would_16 (t_X8_tonesInRoom hX hC.tr _ _ _ _ h) rfl rfl rfl (Nat.le_of_ble_eq_true rfl) (fun r7 q8 h => ?_)
  exact a_iret (pc := 19) hC hE h (Nat.le_of_ble_eq_true rfl) (Nat.le_of_ble_eq_true rfl) dX9_would_19
set_option maxRecDepth 20000 in
theorem tLX9_bestRoom_32 {f : aF} {g : aG} (hX : isX g) (P : Int32 → aS → Prop) (X : String → aS → Prop) (hR : f_R f = aR 9 2 12) (hC : aOK f g cX9_bestRoom 4 RX9) (hE : aEi f g .int P X 2 12) (c1 : Int32) {K : Int32 → aS → Prop} (hK : ∀ (w2 : Int32) (q : aS), K w2 q → AW f g 75 [none, none, some (.int w2), none] [] q 1 6) : ∀ (N : Nat) (v2 : Int32) (v3 : Int32) (q : aS), LX9_bestRoom_32 c1 P X K N v2 v3 q → AW f g 32 [some (.ref (gAd g 0)), some (.int c1), some (.int v2), some (.int v3)] [] q 1 6 := by
  intro N
  induction N with
  | zero =>
    intro v2 v3 q h
    exact h.elim
  | succ N ih =>
    intro v2 v3 q h
    unfold LX9_bestRoom_32 at h
    refine a_iload_n (pc := 32) hC dX9_bestRoom_32 rfl ?_
    refine a_aload_n (pc := 33) hC dX9_bestRoom_33 rfl ?_
    refine a_get (pc := 34) hC cl_X9 (oX_0 hX) 0 (by decide) tw_303 rfl dX9_bestRoom_34 ?_
    refine a_get (pc := 37) hC cl_X8 (oX_1 hX) 0 (by decide) tw_151 rfl dX9_bestRoom_37 ?_
    refine a_get (pc := 40) hC cl_X6 (oX_2 hX) 0 (by decide) tw_56 rfl dX9_bestRoom_40 ?_
    refine a_icmp_ge (pc := 43) (tgt := 75) hC dX9_bestRoom_43 (by decide) (fun c => ?_) (fun c => ?_)
    · replace h := h.1 c
      exact (hK _ _ h).forget ⟨rfl, trivial⟩
    · replace h := h.2 c
      refine a_aload_n (pc := 46) hC dX9_bestRoom_46 rfl ?_
      refine a_get (pc := 47) hC cl_X9 (oX_0 hX) 0 (by decide) tw_303 rfl dX9_bestRoom_47 ?_
      refine a_iload_n (pc := 50) hC dX9_bestRoom_50 rfl ?_
      refine a_iload_n (pc := 51) hC dX9_bestRoom_51 rfl ?_
      refine a_callV (pc := 52) hC hR vm_X8_tonesInRoom tw_568 cl_X8 (oX_1 hX) ⟨(Nat.le_of_ble_eq_true rfl), (Nat.le_of_ble_eq_true rfl), (Nat.le_of_ble_eq_true rfl), (Nat.le_of_ble_eq_true rfl)⟩ dX9_bestRoom_52 (t_X8_tonesInRoom hX hC.tr _ _ _ _ h) rfl rfl rfl (Nat.le_of_ble_eq_true rfl) (fun r4 q5 h => ?_)
      refine a_aload_n (pc := 55) hC dX9_bestRoom_55 rfl ?_
      refine a_get (pc := 56) hC cl_X9 (oX_0 hX) 0 (by decide) tw_303 rfl dX9_bestRoom_56 ?_
      refine a_iload_n (pc := 59) hC dX9_bestRoom_59 rfl ?_
      refine a_iload_n (pc := 60) hC dX9_bestRoom_60 rfl ?_
      refine a_callV (pc := 61) hC hR vm_X8_tonesInRoom tw_568 cl_X8 (oX_1 hX) ⟨(Nat.le_of_ble_eq_true rfl), (Nat.le_of_ble_eq_true rfl), (Nat.le_of_ble_eq_true rfl), (Nat.le_of_ble_eq_true rfl)⟩ dX9_bestRoom_61 (t_X8_tonesInRoom hX hC.tr _ _ _ _ h) rfl rfl rfl (Nat.le_of_ble_eq_true rfl) (fun r6 q7 h => ?_)
      refine a_icmp_le (pc := 64) (tgt := 69) hC dX9_bestRoom_64 (by decide) (fun c => ?_) (fun c => ?_)
      · replace h := h.1 c
        refine a_iinc (pc := 69) hC dX9_bestRoom_69 rfl (c := 1) rfl ?_
        replace h := h _ rfl
        refine a_goto (pc := 72) (tgt := 32) hC dX9_bestRoom_72 (by decide) ?_
        exact (ih _ _ _ h).forget ⟨rfl, rfl, rfl, rfl, trivial⟩
      · replace h := h.2 c
        refine a_iload_n (pc := 67) hC dX9_bestRoom_67 rfl ?_
        refine a_istore_n (pc := 68) hC dX9_bestRoom_68 (Nat.le_of_ble_eq_true rfl) ?_
        refine a_iinc (pc := 69) hC dX9_bestRoom_69 rfl (c := 1) rfl ?_
        replace h := h _ rfl
        refine a_goto (pc := 72) (tgt := 32) hC dX9_bestRoom_72 (by decide) ?_
        exact (ih _ _ _ h).forget ⟨rfl, rfl, rfl, rfl, trivial⟩
set_option maxRecDepth 20000 in
theorem t_X9_bestRoom {l : Launch} {g : aG} (hX : isX g) (hl : l.stackTraces = false) (x1 : Int32) (q : aS) (P : Int32 → aS → Prop) (X : String → aS → Prop) (h : w_X9_bestRoom x1 q P X) : aMi l g yX9_bestRoom (aWs yX9_bestRoom cX9_bestRoom 4 (some .int)) 9 2 12 [.ref (gAd g 0), .int x1] q P X := by
  refine aMi_of RX9 ⟨by decide +kernel, rfl⟩ (cat_all rfl) (Nat.le_of_ble_eq_true rfl) hl hX.cl (fun f hR hC hE => ?_)
  show AW f g 0 [some (.ref (gAd g 0)), some (.int x1), none, none] [] q 0 0
  unfold w_X9_bestRoom at h
  refine a_aload_n (pc := 0) hC dX9_bestRoom_0 rfl ?_
  refine a_iload_n (pc := 1) hC dX9_bestRoom_1 rfl ?_
  refine a_callVvx (pc := 2) hC hR hE.1 ⟨(Nat.le_of_ble_eq_true rfl), (Nat.le_of_ble_eq_true rfl)⟩ vm_X9_checkSinger tw_528 cl_X9 (oX_0 hX) ⟨(Nat.le_of_ble_eq_true rfl), (Nat.le_of_ble_eq_true rfl), (Nat.le_of_ble_eq_true rfl), (Nat.le_of_ble_eq_true rfl)⟩ dX9_bestRoom_2 (t_X9_checkSinger hX hC.tr _ _ _ _ h) rfl rfl rfl (Nat.le_of_ble_eq_true rfl) (fun q3 h => ?_)
  refine a_aload_n (pc := 5) hC dX9_bestRoom_5 rfl ?_
  refine a_get (pc := 6) hC cl_X9 (oX_0 hX) 0 (by decide) tw_303 rfl dX9_bestRoom_6 ?_
  refine a_get (pc := 9) hC cl_X8 (oX_1 hX) 0 (by decide) tw_151 rfl dX9_bestRoom_9 ?_
  refine a_get (pc := 12) hC cl_X6 (oX_2 hX) 0 (by decide) tw_56 rfl dX9_bestRoom_12 ?_
  refine a_if_ne (pc := 15) (tgt := 28) hC dX9_bestRoom_15 (by decide) (fun c => ?_) (fun c => ?_)
  · replace h := h.1 c
    refine a_iconst (pc := 28) hC dX9_bestRoom_28 (v := 0) rfl ?_
    refine a_istore_n (pc := 29) hC dX9_bestRoom_29 (Nat.le_of_ble_eq_true rfl) ?_
    refine a_iconst (pc := 30) hC dX9_bestRoom_30 (v := 1) rfl ?_
    refine a_istore_n (pc := 31) hC dX9_bestRoom_31 (Nat.le_of_ble_eq_true rfl) ?_
    obtain ⟨N, h⟩ := h
    refine (tLX9_bestRoom_32 hX P X hR hC hE _ (fun y10 q11 h => ?_) N _ _ _ h).forget ⟨rfl, rfl, rfl, rfl, trivial⟩
    refine a_iload_n (pc := 75) hC dX9_bestRoom_75 rfl ?_
    exact a_iret (pc := 76) hC hE h (Nat.le_of_ble_eq_true rfl) (Nat.le_of_ble_eq_true rfl) dX9_bestRoom_76
  · replace h := h.2 c
    exact a_throwN (pc := 18) false hX hC hR hE.1 ex_204 mm_206 rfl ⟨(Nat.le_of_ble_eq_true rfl), (Nat.le_of_ble_eq_true rfl), (Nat.le_of_ble_eq_true rfl), (Nat.le_of_ble_eq_true rfl), (Nat.le_of_ble_eq_true rfl)⟩ (Nat.le_of_ble_eq_true rfl) dX9_bestRoom_18 dX9_bestRoom_21 dX9_bestRoom_22 dX9_bestRoom_24 dX9_bestRoom_27 h
set_option maxRecDepth 20000 in
theorem t_X9_canEnter {l : Launch} {g : aG} (hX : isX g) (hl : l.stackTraces = false) (x1 : Int32) (x2 : Int32) (q : aS) (P : Int32 → aS → Prop) (X : String → aS → Prop) (h : w_X9_canEnter x1 x2 q P X) : aMi l g yX9_canEnter (aWs yX9_canEnter cX9_canEnter 3 (some .boolean)) 9 2 12 [.ref (gAd g 0), .int x1, .int x2] q (fun r u => (r = 0 ∨ r = 1) ∧ P r u) X := by
  refine aMi_of RX9 ⟨by decide +kernel, rfl⟩ (cat_all rfl) (Nat.le_of_ble_eq_true rfl) hl hX.cl (fun f hR hC hE => ?_)
  show AW f g 0 [some (.ref (gAd g 0)), some (.int x1), some (.int x2)] [] q 0 0
  unfold w_X9_canEnter at h
  refine a_aload_n (pc := 0) hC dX9_canEnter_0 rfl ?_
  refine a_iload_n (pc := 1) hC dX9_canEnter_1 rfl ?_
  refine a_callVvx (pc := 2) hC hR hE.1 ⟨(Nat.le_of_ble_eq_true rfl), (Nat.le_of_ble_eq_true rfl)⟩ vm_X9_checkSinger tw_528 cl_X9 (oX_0 hX) ⟨(Nat.le_of_ble_eq_true rfl), (Nat.le_of_ble_eq_true rfl), (Nat.le_of_ble_eq_true rfl), (Nat.le_of_ble_eq_true rfl)⟩ dX9_canEnter_2 (t_X9_checkSinger hX hC.tr _ _ _ _ h) rfl rfl rfl (Nat.le_of_ble_eq_true rfl) (fun q4 h => ?_)
  refine a_aload_n (pc := 5) hC dX9_canEnter_5 rfl ?_
  refine a_iload_n (pc := 6) hC dX9_canEnter_6 rfl ?_
  refine a_callVvx (pc := 7) hC hR hE.1 ⟨(Nat.le_of_ble_eq_true rfl), (Nat.le_of_ble_eq_true rfl)⟩ vm_X9_checkRoom tw_466 cl_X9 (oX_0 hX) ⟨(Nat.le_of_ble_eq_true rfl), (Nat.le_of_ble_eq_true rfl), (Nat.le_of_ble_eq_true rfl), (Nat.le_of_ble_eq_true rfl)⟩ dX9_canEnter_7 (t_X9_checkRoom hX hC.tr _ _ _ _ h) rfl rfl rfl (Nat.le_of_ble_eq_true rfl) (fun q6 h => ?_)
  refine a_aload_n (pc := 10) hC dX9_canEnter_10 rfl ?_
  refine a_get (pc := 11) hC cl_X9 (oX_0 hX) 0 (by decide) tw_303 rfl dX9_canEnter_11 ?_
  refine a_get (pc := 14) hC cl_X8 (oX_1 hX) 2 (by decide) tw_155 rfl dX9_canEnter_14 ?_
  refine a_get (pc := 17) hC cl_X7 (oX_12 hX) 3 (by decide) tw_130 rfl dX9_canEnter_17 ?_
  refine a_iload_n (pc := 20) hC dX9_canEnter_20 rfl ?_
  refine a_iald (pc := 21) hC (oX_15 hX) h.1 dX9_canEnter_21 ?_
  replace h := h.2
  refine a_iload_n (pc := 22) hC dX9_canEnter_22 rfl ?_
  refine a_icmp_eq (pc := 23) (tgt := 53) hC dX9_canEnter_23 (by decide) (fun c => ?_) (fun c => ?_)
  · replace h := h.1 c
    refine a_iconst (pc := 53) hC dX9_canEnter_53 (v := 0) rfl ?_
    exact a_bret (pc := 54) hC hE (Or.inl rfl) h (Nat.le_of_ble_eq_true rfl) (Nat.le_of_ble_eq_true rfl) dX9_canEnter_54
  · replace h := h.2 c
    refine a_aload_n (pc := 26) hC dX9_canEnter_26 rfl ?_
    refine a_get (pc := 27) hC cl_X9 (oX_0 hX) 0 (by decide) tw_303 rfl dX9_canEnter_27 ?_
    refine a_iload_n (pc := 30) hC dX9_canEnter_30 rfl ?_
    refine a_callV (pc := 31) hC hR vm_X8_isFull tw_721 cl_X8 (oX_1 hX) ⟨(Nat.le_of_ble_eq_true rfl), (Nat.le_of_ble_eq_true rfl), (Nat.le_of_ble_eq_true rfl), (Nat.le_of_ble_eq_true rfl)⟩ dX9_canEnter_31 (t_X8_isFull hX hC.tr _ _ _ h) rfl rfl rfl (Nat.le_of_ble_eq_true rfl) (fun r7 q8 h => ?_)
    have z_r7 := h.1
    replace h := h.2
    refine a_if_ne (pc := 34) (tgt := 53) hC dX9_canEnter_34 (by decide) (fun c => ?_) (fun c => ?_)
    · replace h := h.1 c
      refine a_iconst (pc := 53) hC dX9_canEnter_53 (v := 0) rfl ?_
      exact a_bret (pc := 54) hC hE (Or.inl rfl) h (Nat.le_of_ble_eq_true rfl) (Nat.le_of_ble_eq_true rfl) dX9_canEnter_54
    · replace h := h.2 c
      refine a_aload_n (pc := 37) hC dX9_canEnter_37 rfl ?_
      refine a_get (pc := 38) hC cl_X9 (oX_0 hX) 0 (by decide) tw_303 rfl dX9_canEnter_38 ?_
      refine a_iload_n (pc := 41) hC dX9_canEnter_41 rfl ?_
      refine a_iload_n (pc := 42) hC dX9_canEnter_42 rfl ?_
      refine a_callV (pc := 43) hC hR vm_X8_isTooShyFor tw_727 cl_X8 (oX_1 hX) ⟨(Nat.le_of_ble_eq_true rfl), (Nat.le_of_ble_eq_true rfl), (Nat.le_of_ble_eq_true rfl), (Nat.le_of_ble_eq_true rfl)⟩ dX9_canEnter_43 (t_X8_isTooShyFor hX hC.tr _ _ _ _ h) rfl rfl rfl (Nat.le_of_ble_eq_true rfl) (fun r9 q10 h => ?_)
      have z_r9 := h.1
      replace h := h.2
      refine a_if_ne (pc := 46) (tgt := 53) hC dX9_canEnter_46 (by decide) (fun c => ?_) (fun c => ?_)
      · replace h := h.1 c
        refine a_iconst (pc := 53) hC dX9_canEnter_53 (v := 0) rfl ?_
        exact a_bret (pc := 54) hC hE (Or.inl rfl) h (Nat.le_of_ble_eq_true rfl) (Nat.le_of_ble_eq_true rfl) dX9_canEnter_54
      · replace h := h.2 c
        refine a_iconst (pc := 49) hC dX9_canEnter_49 (v := 1) rfl ?_
        refine a_goto (pc := 50) (tgt := 54) hC dX9_canEnter_50 (by decide) ?_
        exact a_bret (pc := 54) hC hE (Or.inr rfl) h (Nat.le_of_ble_eq_true rfl) (Nat.le_of_ble_eq_true rfl) dX9_canEnter_54
set_option maxRecDepth 20000 in
theorem t_X9_canRent {l : Launch} {g : aG} (hX : isX g) (hl : l.stackTraces = false) (x1 : Int32) (x2 : Int32) (q : aS) (P : Int32 → aS → Prop) (X : String → aS → Prop) (h : w_X9_canRent x1 x2 q P X) : aMi l g yX9_canRent (aWs yX9_canRent cX9_canRent 3 (some .boolean)) 9 2 12 [.ref (gAd g 0), .int x1, .int x2] q (fun r u => (r = 0 ∨ r = 1) ∧ P r u) X := by
  refine aMi_of RX9 ⟨by decide +kernel, rfl⟩ (cat_all rfl) (Nat.le_of_ble_eq_true rfl) hl hX.cl (fun f hR hC hE => ?_)
  show AW f g 0 [some (.ref (gAd g 0)), some (.int x1), some (.int x2)] [] q 0 0
  unfold w_X9_canRent at h
  refine a_aload_n (pc := 0) hC dX9_canRent_0 rfl ?_
  refine a_iload_n (pc := 1) hC dX9_canRent_1 rfl ?_
  refine a_callVvx (pc := 2) hC hR hE.1 ⟨(Nat.le_of_ble_eq_true rfl), (Nat.le_of_ble_eq_true rfl)⟩ vm_X9_checkSinger tw_528 cl_X9 (oX_0 hX) ⟨(Nat.le_of_ble_eq_true rfl), (Nat.le_of_ble_eq_true rfl), (Nat.le_of_ble_eq_true rfl), (Nat.le_of_ble_eq_true rfl)⟩ dX9_canRent_2 (t_X9_checkSinger hX hC.tr _ _ _ _ h) rfl rfl rfl (Nat.le_of_ble_eq_true rfl) (fun q4 h => ?_)
  refine a_aload_n (pc := 5) hC dX9_canRent_5 rfl ?_
  refine a_iload_n (pc := 6) hC dX9_canRent_6 rfl ?_
  refine a_callVvx (pc := 7) hC hR hE.1 ⟨(Nat.le_of_ble_eq_true rfl), (Nat.le_of_ble_eq_true rfl)⟩ vm_X9_checkEcho tw_514 cl_X9 (oX_0 hX) ⟨(Nat.le_of_ble_eq_true rfl), (Nat.le_of_ble_eq_true rfl), (Nat.le_of_ble_eq_true rfl), (Nat.le_of_ble_eq_true rfl)⟩ dX9_canRent_7 (t_X9_checkEcho hX hC.tr _ _ _ _ h) rfl rfl rfl (Nat.le_of_ble_eq_true rfl) (fun q6 h => ?_)
  refine a_aload_n (pc := 10) hC dX9_canRent_10 rfl ?_
  refine a_get (pc := 11) hC cl_X9 (oX_0 hX) 0 (by decide) tw_303 rfl dX9_canRent_11 ?_
  refine a_iload_n (pc := 14) hC dX9_canRent_14 rfl ?_
  refine a_callV (pc := 15) hC hR vm_X8_isLet tw_611 cl_X8 (oX_1 hX) ⟨(Nat.le_of_ble_eq_true rfl), (Nat.le_of_ble_eq_true rfl), (Nat.le_of_ble_eq_true rfl), (Nat.le_of_ble_eq_true rfl)⟩ dX9_canRent_15 (t_X8_isLet hX hC.tr _ _ _ h) rfl rfl rfl (Nat.le_of_ble_eq_true rfl) (fun r7 q8 h => ?_)
  have z_r7 := h.1
  replace h := h.2
  refine a_if_ne (pc := 18) (tgt := 49) hC dX9_canRent_18 (by decide) (fun c => ?_) (fun c => ?_)
  · replace h := h.1 c
    refine a_iconst (pc := 49) hC dX9_canRent_49 (v := 0) rfl ?_
    exact a_bret (pc := 50) hC hE (Or.inl rfl) h (Nat.le_of_ble_eq_true rfl) (Nat.le_of_ble_eq_true rfl) dX9_canRent_50
  · replace h := h.2 c
    refine a_aload_n (pc := 21) hC dX9_canRent_21 rfl ?_
    refine a_get (pc := 22) hC cl_X9 (oX_0 hX) 0 (by decide) tw_303 rfl dX9_canRent_22 ?_
    refine a_iload_n (pc := 25) hC dX9_canRent_25 rfl ?_
    refine a_iload_n (pc := 26) hC dX9_canRent_26 rfl ?_
    refine a_callV (pc := 27) hC hR vm_X8_isWithEcho tw_743 cl_X8 (oX_1 hX) ⟨(Nat.le_of_ble_eq_true rfl), (Nat.le_of_ble_eq_true rfl), (Nat.le_of_ble_eq_true rfl), (Nat.le_of_ble_eq_true rfl)⟩ dX9_canRent_27 (t_X8_isWithEcho hX hC.tr _ _ _ _ h) rfl rfl rfl (Nat.le_of_ble_eq_true rfl) (fun r9 q10 h => ?_)
    have z_r9 := h.1
    replace h := h.2
    refine a_if_eq (pc := 30) (tgt := 49) hC dX9_canRent_30 (by decide) (fun c => ?_) (fun c => ?_)
    · replace h := h.1 c
      refine a_iconst (pc := 49) hC dX9_canRent_49 (v := 0) rfl ?_
      exact a_bret (pc := 50) hC hE (Or.inl rfl) h (Nat.le_of_ble_eq_true rfl) (Nat.le_of_ble_eq_true rfl) dX9_canRent_50
    · replace h := h.2 c
      refine a_aload_n (pc := 33) hC dX9_canRent_33 rfl ?_
      refine a_get (pc := 34) hC cl_X9 (oX_0 hX) 0 (by decide) tw_303 rfl dX9_canRent_34 ?_
      refine a_iload_n (pc := 37) hC dX9_canRent_37 rfl ?_
      refine a_iload_n (pc := 38) hC dX9_canRent_38 rfl ?_
      refine a_callV (pc := 39) hC hR vm_X8_canPayFor tw_747 cl_X8 (oX_1 hX) ⟨(Nat.le_of_ble_eq_true rfl), (Nat.le_of_ble_eq_true rfl), (Nat.le_of_ble_eq_true rfl), (Nat.le_of_ble_eq_true rfl)⟩ dX9_canRent_39 (t_X8_canPayFor hX hC.tr _ _ _ _ h) rfl rfl rfl (Nat.le_of_ble_eq_true rfl) (fun r11 q12 h => ?_)
      have z_r11 := h.1
      replace h := h.2
      refine a_if_eq (pc := 42) (tgt := 49) hC dX9_canRent_42 (by decide) (fun c => ?_) (fun c => ?_)
      · replace h := h.1 c
        refine a_iconst (pc := 49) hC dX9_canRent_49 (v := 0) rfl ?_
        exact a_bret (pc := 50) hC hE (Or.inl rfl) h (Nat.le_of_ble_eq_true rfl) (Nat.le_of_ble_eq_true rfl) dX9_canRent_50
      · replace h := h.2 c
        refine a_iconst (pc := 45) hC dX9_canRent_45 (v := 1) rfl ?_
        refine a_goto (pc := 46) (tgt := 50) hC dX9_canRent_46 (by decide) ?_
        exact a_bret (pc := 50) hC hE (Or.inr rfl) h (Nat.le_of_ble_eq_true rfl) (Nat.le_of_ble_eq_true rfl) dX9_canRent_50
set_option maxRecDepth 20000 in
theorem t_X9_backFor {l : Launch} {g : aG} (hX : isX g) (hl : l.stackTraces = false) (x1 : Int32) (q : aS) (P : Int32 → aS → Prop) (X : String → aS → Prop) (h : w_X9_backFor x1 q P X) : aMi l g yX9_backFor (aWs yX9_backFor cX9_backFor 2 (some .int)) 9 2 12 [.ref (gAd g 0), .int x1] q P X := by
  refine aMi_of RX9 ⟨by decide +kernel, rfl⟩ (cat_all rfl) (Nat.le_of_ble_eq_true rfl) hl hX.cl (fun f hR hC hE => ?_)
  show AW f g 0 [some (.ref (gAd g 0)), some (.int x1)] [] q 0 0
  unfold w_X9_backFor at h
  refine a_aload_n (pc := 0) hC dX9_backFor_0 rfl ?_
  refine a_iload_n (pc := 1) hC dX9_backFor_1 rfl ?_
  refine a_callVvx (pc := 2) hC hR hE.1 ⟨(Nat.le_of_ble_eq_true rfl), (Nat.le_of_ble_eq_true rfl)⟩ vm_X9_checkEcho tw_514 cl_X9 (oX_0 hX) ⟨(Nat.le_of_ble_eq_true rfl), (Nat.le_of_ble_eq_true rfl), (Nat.le_of_ble_eq_true rfl), (Nat.le_of_ble_eq_true rfl)⟩ dX9_backFor_2 (t_X9_checkEcho hX hC.tr _ _ _ _ h) rfl rfl rfl (Nat.le_of_ble_eq_true rfl) (fun q3 h => ?_)
  refine a_aload_n (pc := 5) hC dX9_backFor_5 rfl ?_
  refine a_get (pc := 6) hC cl_X9 (oX_0 hX) 0 (by decide) tw_303 rfl dX9_backFor_6 ?_
  refine a_iload_n (pc := 9) hC dX9_backFor_9 rfl ?_
  refine a_callV (pc := 10) hC hR vm_X8_isLet tw_611 cl_X8 (oX_1 hX) ⟨(Nat.le_of_ble_eq_true rfl), (Nat.le_of_ble_eq_true rfl), (Nat.le_of_ble_eq_true rfl), (Nat.le_of_ble_eq_true rfl)⟩ dX9_backFor_10 (t_X8_isLet hX hC.tr _ _ _ h) rfl rfl rfl (Nat.le_of_ble_eq_true rfl) (fun r4 q5 h => ?_)
  have z_r4 := h.1
  replace h := h.2
  refine a_if_ne (pc := 13) (tgt := 26) hC dX9_backFor_13 (by decide) (fun c => ?_) (fun c => ?_)
  · replace h := h.1 c
    refine a_aload_n (pc := 26) hC dX9_backFor_26 rfl ?_
    refine a_get (pc := 27) hC cl_X9 (oX_0 hX) 0 (by decide) tw_303 rfl dX9_backFor_27 ?_
    refine a_iload_n (pc := 30) hC dX9_backFor_30 rfl ?_
    refine a_callV (pc := 31) hC hR vm_X8_aboveDamp tw_613 cl_X8 (oX_1 hX) ⟨(Nat.le_of_ble_eq_true rfl), (Nat.le_of_ble_eq_true rfl), (Nat.le_of_ble_eq_true rfl), (Nat.le_of_ble_eq_true rfl)⟩ dX9_backFor_31 (t_X8_aboveDamp hX hC.tr _ _ _ h) rfl rfl rfl (Nat.le_of_ble_eq_true rfl) (fun r6 q7 h => ?_)
    exact a_iret (pc := 34) hC hE h (Nat.le_of_ble_eq_true rfl) (Nat.le_of_ble_eq_true rfl) dX9_backFor_34
  · replace h := h.2 c
    exact a_throwN (pc := 16) false hX hC hR hE.1 ex_204 mm_226 rfl ⟨(Nat.le_of_ble_eq_true rfl), (Nat.le_of_ble_eq_true rfl), (Nat.le_of_ble_eq_true rfl), (Nat.le_of_ble_eq_true rfl), (Nat.le_of_ble_eq_true rfl)⟩ (Nat.le_of_ble_eq_true rfl) dX9_backFor_16 dX9_backFor_19 dX9_backFor_20 dX9_backFor_22 dX9_backFor_25 h
set_option maxRecDepth 20000 in
theorem t_X9_others {l : Launch} {g : aG} (hX : isX g) (hl : l.stackTraces = false) (x1 : Int32) (q : aS) (P : Int32 → aS → Prop) (X : String → aS → Prop) (h : w_X9_others x1 q P X) : aMi l g yX9_others (aWs yX9_others cX9_others 2 (some .int)) 9 1 6 [.ref (gAd g 0), .int x1] q P X := by
  refine aMi_of RX9 ⟨by decide +kernel, rfl⟩ (cat_all rfl) (Nat.le_of_ble_eq_true rfl) hl hX.cl (fun f hR hC hE => ?_)
  show AW f g 0 [some (.ref (gAd g 0)), some (.int x1)] [] q 0 0
  unfold w_X9_others at h
  refine a_aload_n (pc := 0) hC dX9_others_0 rfl ?_
  refine a_iload_n (pc := 1) hC dX9_others_1 rfl ?_
  refine a_callVvx (pc := 2) hC hR hE.1 ⟨(Nat.le_of_ble_eq_true rfl), (Nat.le_of_ble_eq_true rfl)⟩ vm_X9_checkRoom tw_466 cl_X9 (oX_0 hX) ⟨(Nat.le_of_ble_eq_true rfl), (Nat.le_of_ble_eq_true rfl), (Nat.le_of_ble_eq_true rfl), (Nat.le_of_ble_eq_true rfl)⟩ dX9_others_2 (t_X9_checkRoom hX hC.tr _ _ _ _ h) rfl rfl rfl (Nat.le_of_ble_eq_true rfl) (fun q3 h => ?_)
  refine a_aload_n (pc := 5) hC dX9_others_5 rfl ?_
  refine a_get (pc := 6) hC cl_X9 (oX_0 hX) 0 (by decide) tw_303 rfl dX9_others_6 ?_
  refine a_iload_n (pc := 9) hC dX9_others_9 rfl ?_
  refine a_callV (pc := 10) hC hR vm_X8_singersIn tw_487 cl_X8 (oX_1 hX) ⟨(Nat.le_of_ble_eq_true rfl), (Nat.le_of_ble_eq_true rfl), (Nat.le_of_ble_eq_true rfl), (Nat.le_of_ble_eq_true rfl)⟩ dX9_others_10 (t_X8_singersIn hX hC.tr _ _ _ h) rfl rfl rfl (Nat.le_of_ble_eq_true rfl) (fun r4 q5 h => ?_)
  exact a_iret (pc := 13) hC hE h (Nat.le_of_ble_eq_true rfl) (Nat.le_of_ble_eq_true rfl) dX9_others_13
set_option maxRecDepth 20000 in
theorem t_X9_free {l : Launch} {g : aG} (hX : isX g) (hl : l.stackTraces = false) (x1 : Int32) (q : aS) (P : Int32 → aS → Prop) (X : String → aS → Prop) (h : w_X9_free x1 q P X) : aMi l g yX9_free (aWs yX9_free cX9_free 2 (some .int)) 9 1 6 [.ref (gAd g 0), .int x1] q P X := by
  refine aMi_of RX9 ⟨by decide +kernel, rfl⟩ (cat_all rfl) (Nat.le_of_ble_eq_true rfl) hl hX.cl (fun f hR hC hE => ?_)
  show AW f g 0 [some (.ref (gAd g 0)), some (.int x1)] [] q 0 0
  unfold w_X9_free at h
  refine a_aload_n (pc := 0) hC dX9_free_0 rfl ?_
  refine a_iload_n (pc := 1) hC dX9_free_1 rfl ?_
  refine a_callVvx (pc := 2) hC hR hE.1 ⟨(Nat.le_of_ble_eq_true rfl), (Nat.le_of_ble_eq_true rfl)⟩ vm_X9_checkRoom tw_466 cl_X9 (oX_0 hX) ⟨(Nat.le_of_ble_eq_true rfl), (Nat.le_of_ble_eq_true rfl), (Nat.le_of_ble_eq_true rfl), (Nat.le_of_ble_eq_true rfl)⟩ dX9_free_2 (t_X9_checkRoom hX hC.tr _ _ _ _ h) rfl rfl rfl (Nat.le_of_ble_eq_true rfl) (fun q3 h => ?_)
  refine a_aload_n (pc := 5) hC dX9_free_5 rfl ?_
  refine a_get (pc := 6) hC cl_X9 (oX_0 hX) 0 (by decide) tw_303 rfl dX9_free_6 ?_
  refine a_iload_n (pc := 9) hC dX9_free_9 rfl ?_
  refine a_callV (pc := 10) hC hR vm_X8_freeIn tw_501 cl_X8 (oX_1 hX) ⟨(Nat.le_of_ble_eq_true rfl), (Nat.le_of_ble_eq_true rfl), (Nat.le_of_ble_eq_true rfl), (Nat.le_of_ble_eq_true rfl)⟩ dX9_free_10 (t_X8_freeIn hX hC.tr _ _ _ h) rfl rfl rfl (Nat.le_of_ble_eq_true rfl) (fun r4 q5 h => ?_)
  exact a_iret (pc := 13) hC hE h (Nat.le_of_ble_eq_true rfl) (Nat.le_of_ble_eq_true rfl) dX9_free_13
set_option maxRecDepth 20000 in
theorem t_X9_dryIn {l : Launch} {g : aG} (hX : isX g) (hl : l.stackTraces = false) (x1 : Int32) (q : aS) (P : Int32 → aS → Prop) (X : String → aS → Prop) (h : w_X9_dryIn x1 q P X) : aMi l g yX9_dryIn (aWs yX9_dryIn cX9_dryIn 2 (some .int)) 9 1 6 [.ref (gAd g 0), .int x1] q P X := by
  refine aMi_of RX9 ⟨by decide +kernel, rfl⟩ (cat_all rfl) (Nat.le_of_ble_eq_true rfl) hl hX.cl (fun f hR hC hE => ?_)
  show AW f g 0 [some (.ref (gAd g 0)), some (.int x1)] [] q 0 0
  unfold w_X9_dryIn at h
  refine a_aload_n (pc := 0) hC dX9_dryIn_0 rfl ?_
  refine a_iload_n (pc := 1) hC dX9_dryIn_1 rfl ?_
  refine a_callVvx (pc := 2) hC hR hE.1 ⟨(Nat.le_of_ble_eq_true rfl), (Nat.le_of_ble_eq_true rfl)⟩ vm_X9_checkRoom tw_466 cl_X9 (oX_0 hX) ⟨(Nat.le_of_ble_eq_true rfl), (Nat.le_of_ble_eq_true rfl), (Nat.le_of_ble_eq_true rfl), (Nat.le_of_ble_eq_true rfl)⟩ dX9_dryIn_2 (t_X9_checkRoom hX hC.tr _ _ _ _ h) rfl rfl rfl (Nat.le_of_ble_eq_true rfl) (fun q3 h => ?_)
  refine a_aload_n (pc := 5) hC dX9_dryIn_5 rfl ?_
  refine a_get (pc := 6) hC cl_X9 (oX_0 hX) 0 (by decide) tw_303 rfl dX9_dryIn_6 ?_
  refine a_get (pc := 9) hC cl_X8 (oX_1 hX) 0 (by decide) tw_151 rfl dX9_dryIn_9 ?_
  refine a_get (pc := 12) hC cl_X6 (oX_2 hX) 2 (by decide) tw_61 rfl dX9_dryIn_12 ?_
  refine a_iload_n (pc := 15) hC dX9_dryIn_15 rfl ?_
  refine a_iald (pc := 16) hC (oX_4 hX) h.1 dX9_dryIn_16 ?_
  replace h := h.2
  refine a_iconst (pc := 17) hC dX9_dryIn_17 (v := 2) rfl ?_
  refine a_iadd (pc := 18) hC dX9_dryIn_18 ?_
  refine a_iconst (pc := 19) hC dX9_dryIn_19 (v := 1) rfl ?_
  refine a_isub (pc := 20) hC dX9_dryIn_20 ?_
  refine a_iconst (pc := 21) hC dX9_dryIn_21 (v := 2) rfl ?_
  refine a_idiv (pc := 22) hC dX9_dryIn_22 (by decide) ?_
  exact a_iret (pc := 23) hC hE h (Nat.le_of_ble_eq_true rfl) (Nat.le_of_ble_eq_true rfl) dX9_dryIn_23
