/-! the line of text: rows of the class' six methods; the echoes and the singers of a room, written -/
theorem dX9_writeEchoesIn_0 : decode cX9_writeEchoesIn 0 = .ok (.iconst 0, 1) := by decide +kernel
theorem dX9_writeEchoesIn_1 : decode cX9_writeEchoesIn 1 = .ok (.istore_n 2, 1) := by decide +kernel
theorem dX9_writeEchoesIn_2 : decode cX9_writeEchoesIn 2 = .ok (.iload_n 2, 1) := by decide +kernel
theorem dX9_writeEchoesIn_3 : decode cX9_writeEchoesIn 3 = .ok (.aload_n 0, 1) := by decide +kernel
theorem dX9_writeEchoesIn_4 : decode cX9_writeEchoesIn 4 = .ok (.getfield 10, 3) := by decide +kernel
theorem dX9_writeEchoesIn_7 : decode cX9_writeEchoesIn 7 = .ok (.getfield 137, 3) := by decide +kernel
theorem dX9_writeEchoesIn_10 : decode cX9_writeEchoesIn 10 = .ok (.getfield 244, 3) := by decide +kernel
theorem dX9_writeEchoesIn_13 : decode cX9_writeEchoesIn 13 = .ok (.if_icmp .ge 55, 3) := by decide +kernel
theorem dX9_writeEchoesIn_16 : decode cX9_writeEchoesIn 16 = .ok (.aload_n 0, 1) := by decide +kernel
theorem dX9_writeEchoesIn_17 : decode cX9_writeEchoesIn 17 = .ok (.getfield 10, 3) := by decide +kernel
theorem dX9_writeEchoesIn_20 : decode cX9_writeEchoesIn 20 = .ok (.getfield 137, 3) := by decide +kernel
theorem dX9_writeEchoesIn_23 : decode cX9_writeEchoesIn 23 = .ok (.getfield 141, 3) := by decide +kernel
theorem dX9_writeEchoesIn_26 : decode cX9_writeEchoesIn 26 = .ok (.iload_n 2, 1) := by decide +kernel
theorem dX9_writeEchoesIn_27 : decode cX9_writeEchoesIn 27 = .ok (.iaload, 1) := by decide +kernel
theorem dX9_writeEchoesIn_28 : decode cX9_writeEchoesIn 28 = .ok (.iload_n 1, 1) := by decide +kernel
theorem dX9_writeEchoesIn_29 : decode cX9_writeEchoesIn 29 = .ok (.if_icmp .ne 33, 3) := by decide +kernel
theorem dX9_writeEchoesIn_32 : decode cX9_writeEchoesIn 32 = .ok (.aload_n 0, 1) := by decide +kernel
theorem dX9_writeEchoesIn_33 : decode cX9_writeEchoesIn 33 = .ok (.getfield 46, 3) := by decide +kernel
theorem dX9_writeEchoesIn_36 : decode cX9_writeEchoesIn 36 = .ok (.iload_n 2, 1) := by decide +kernel
theorem dX9_writeEchoesIn_37 : decode cX9_writeEchoesIn 37 = .ok (.invokevirtual 330, 3) := by decide +kernel
theorem dX9_writeEchoesIn_40 : decode cX9_writeEchoesIn 40 = .ok (.pop, 1) := by decide +kernel
theorem dX9_writeEchoesIn_41 : decode cX9_writeEchoesIn 41 = .ok (.aload_n 0, 1) := by decide +kernel
theorem dX9_writeEchoesIn_42 : decode cX9_writeEchoesIn 42 = .ok (.getfield 10, 3) := by decide +kernel
theorem dX9_writeEchoesIn_45 : decode cX9_writeEchoesIn 45 = .ok (.iload_n 2, 1) := by decide +kernel
theorem dX9_writeEchoesIn_46 : decode cX9_writeEchoesIn 46 = .ok (.invokevirtual 217, 3) := by decide +kernel
theorem dX9_writeEchoesIn_49 : decode cX9_writeEchoesIn 49 = .ok (.ifCond .eq 13, 3) := by decide +kernel
theorem dX9_writeEchoesIn_52 : decode cX9_writeEchoesIn 52 = .ok (.aload_n 0, 1) := by decide +kernel
theorem dX9_writeEchoesIn_53 : decode cX9_writeEchoesIn 53 = .ok (.getfield 46, 3) := by decide +kernel
theorem dX9_writeEchoesIn_56 : decode cX9_writeEchoesIn 56 = .ok (.bipush 42, 2) := by decide +kernel
theorem dX9_writeEchoesIn_58 : decode cX9_writeEchoesIn 58 = .ok (.invokevirtual 334, 3) := by decide +kernel
theorem dX9_writeEchoesIn_61 : decode cX9_writeEchoesIn 61 = .ok (.pop, 1) := by decide +kernel
theorem dX9_writeEchoesIn_62 : decode cX9_writeEchoesIn 62 = .ok (.iinc 2 1, 3) := by decide +kernel
theorem dX9_writeEchoesIn_65 : decode cX9_writeEchoesIn 65 = .ok (.goto (-63), 3) := by decide +kernel
theorem dX9_writeEchoesIn_68 : decode cX9_writeEchoesIn 68 = .ok (.return_, 1) := by decide +kernel
theorem vm_X9_writeEchoesIn : aVm yX9_writeEchoesIn RX9 cX9_writeEchoesIn 3 none 1 := ⟨tw_1365, tw_1364, List.mem_append_left _ (List.mem_of_getElem? (i := 25) (by decide +kernel)), tw_1, rfl, by decide +kernel, by decide +kernel, by decide +kernel⟩
theorem dX9_writeSingersIn_0 : decode cX9_writeSingersIn 0 = .ok (.iconst 0, 1) := by decide +kernel
theorem dX9_writeSingersIn_1 : decode cX9_writeSingersIn 1 = .ok (.istore_n 2, 1) := by decide +kernel
theorem dX9_writeSingersIn_2 : decode cX9_writeSingersIn 2 = .ok (.iload_n 2, 1) := by decide +kernel
theorem dX9_writeSingersIn_3 : decode cX9_writeSingersIn 3 = .ok (.aload_n 0, 1) := by decide +kernel
theorem dX9_writeSingersIn_4 : decode cX9_writeSingersIn 4 = .ok (.getfield 10, 3) := by decide +kernel
theorem dX9_writeSingersIn_7 : decode cX9_writeSingersIn 7 = .ok (.getfield 161, 3) := by decide +kernel
theorem dX9_writeSingersIn_10 : decode cX9_writeSingersIn 10 = .ok (.getfield 238, 3) := by decide +kernel
theorem dX9_writeSingersIn_13 : decode cX9_writeSingersIn 13 = .ok (.if_icmp .ge 39, 3) := by decide +kernel
theorem dX9_writeSingersIn_16 : decode cX9_writeSingersIn 16 = .ok (.aload_n 0, 1) := by decide +kernel
theorem dX9_writeSingersIn_17 : decode cX9_writeSingersIn 17 = .ok (.getfield 10, 3) := by decide +kernel
theorem dX9_writeSingersIn_20 : decode cX9_writeSingersIn 20 = .ok (.getfield 161, 3) := by decide +kernel
theorem dX9_writeSingersIn_23 : decode cX9_writeSingersIn 23 = .ok (.getfield 173, 3) := by decide +kernel
theorem dX9_writeSingersIn_26 : decode cX9_writeSingersIn 26 = .ok (.iload_n 2, 1) := by decide +kernel
theorem dX9_writeSingersIn_27 : decode cX9_writeSingersIn 27 = .ok (.iaload, 1) := by decide +kernel
theorem dX9_writeSingersIn_28 : decode cX9_writeSingersIn 28 = .ok (.iload_n 1, 1) := by decide +kernel
theorem dX9_writeSingersIn_29 : decode cX9_writeSingersIn 29 = .ok (.if_icmp .ne 17, 3) := by decide +kernel
theorem dX9_writeSingersIn_32 : decode cX9_writeSingersIn 32 = .ok (.aload_n 0, 1) := by decide +kernel
theorem dX9_writeSingersIn_33 : decode cX9_writeSingersIn 33 = .ok (.getfield 46, 3) := by decide +kernel
theorem dX9_writeSingersIn_36 : decode cX9_writeSingersIn 36 = .ok (.bipush 115, 2) := by decide +kernel
theorem dX9_writeSingersIn_38 : decode cX9_writeSingersIn 38 = .ok (.invokevirtual 334, 3) := by decide +kernel
theorem dX9_writeSingersIn_41 : decode cX9_writeSingersIn 41 = .ok (.iload_n 2, 1) := by decide +kernel
theorem dX9_writeSingersIn_42 : decode cX9_writeSingersIn 42 = .ok (.invokevirtual 330, 3) := by decide +kernel
theorem dX9_writeSingersIn_45 : decode cX9_writeSingersIn 45 = .ok (.pop, 1) := by decide +kernel
theorem dX9_writeSingersIn_46 : decode cX9_writeSingersIn 46 = .ok (.iinc 2 1, 3) := by decide +kernel
theorem dX9_writeSingersIn_49 : decode cX9_writeSingersIn 49 = .ok (.goto (-47), 3) := by decide +kernel
theorem dX9_writeSingersIn_52 : decode cX9_writeSingersIn 52 = .ok (.return_, 1) := by decide +kernel
theorem vm_X9_writeSingersIn : aVm yX9_writeSingersIn RX9 cX9_writeSingersIn 3 none 1 := ⟨tw_1369, tw_1368, List.mem_append_left _ (List.mem_of_getElem? (i := 26) (by decide +kernel)), tw_1, rfl, by decide +kernel, by decide +kernel, by decide +kernel⟩
theorem dX9_tellRoom_0 : decode cX9_tellRoom 0 = .ok (.aload_n 0, 1) := by decide +kernel
theorem dX9_tellRoom_1 : decode cX9_tellRoom 1 = .ok (.iload_n 1, 1) := by decide +kernel
theorem dX9_tellRoom_2 : decode cX9_tellRoom 2 = .ok (.invokevirtual 92, 3) := by decide +kernel
theorem dX9_tellRoom_5 : decode cX9_tellRoom 5 = .ok (.aload_n 0, 1) := by decide +kernel
theorem dX9_tellRoom_6 : decode cX9_tellRoom 6 = .ok (.getfield 46, 3) := by decide +kernel
theorem dX9_tellRoom_9 : decode cX9_tellRoom 9 = .ok (.iconst 0, 1) := by decide +kernel
theorem dX9_tellRoom_10 : decode cX9_tellRoom 10 = .ok (.invokevirtual 327, 3) := by decide +kernel
theorem dX9_tellRoom_13 : decode cX9_tellRoom 13 = .ok (.aload_n 0, 1) := by decide +kernel
theorem dX9_tellRoom_14 : decode cX9_tellRoom 14 = .ok (.getfield 46, 3) := by decide +kernel
theorem dX9_tellRoom_17 : decode cX9_tellRoom 17 = .ok (.iload_n 1, 1) := by decide +kernel
theorem dX9_tellRoom_18 : decode cX9_tellRoom 18 = .ok (.invokevirtual 330, 3) := by decide +kernel
theorem dX9_tellRoom_21 : decode cX9_tellRoom 21 = .ok (.bipush 91, 2) := by decide +kernel
theorem dX9_tellRoom_23 : decode cX9_tellRoom 23 = .ok (.invokevirtual 334, 3) := by decide +kernel
theorem dX9_tellRoom_26 : decode cX9_tellRoom 26 = .ok (.aload_n 0, 1) := by decide +kernel
theorem dX9_tellRoom_27 : decode cX9_tellRoom 27 = .ok (.getfield 10, 3) := by decide +kernel
theorem dX9_tellRoom_30 : decode cX9_tellRoom 30 = .ok (.getfield 96, 3) := by decide +kernel
theorem dX9_tellRoom_33 : decode cX9_tellRoom 33 = .ok (.getfield 100, 3) := by decide +kernel
theorem dX9_tellRoom_36 : decode cX9_tellRoom 36 = .ok (.iload_n 1, 1) := by decide +kernel
theorem dX9_tellRoom_37 : decode cX9_tellRoom 37 = .ok (.iaload, 1) := by decide +kernel
theorem dX9_tellRoom_38 : decode cX9_tellRoom 38 = .ok (.invokevirtual 330, 3) := by decide +kernel
theorem dX9_tellRoom_41 : decode cX9_tellRoom 41 = .ok (.pop, 1) := by decide +kernel
theorem dX9_tellRoom_42 : decode cX9_tellRoom 42 = .ok (.aload_n 0, 1) := by decide +kernel
theorem dX9_tellRoom_43 : decode cX9_tellRoom 43 = .ok (.getfield 46, 3) := by decide +kernel
theorem dX9_tellRoom_46 : decode cX9_tellRoom 46 = .ok (.bipush 126, 2) := by decide +kernel
theorem dX9_tellRoom_48 : decode cX9_tellRoom 48 = .ok (.invokevirtual 334, 3) := by decide +kernel
theorem dX9_tellRoom_51 : decode cX9_tellRoom 51 = .ok (.aload_n 0, 1) := by decide +kernel
theorem dX9_tellRoom_52 : decode cX9_tellRoom 52 = .ok (.getfield 10, 3) := by decide +kernel
theorem dX9_tellRoom_55 : decode cX9_tellRoom 55 = .ok (.getfield 96, 3) := by decide +kernel
theorem dX9_tellRoom_58 : decode cX9_tellRoom 58 = .ok (.getfield 106, 3) := by decide +kernel
theorem dX9_tellRoom_61 : decode cX9_tellRoom 61 = .ok (.iload_n 1, 1) := by decide +kernel
theorem dX9_tellRoom_62 : decode cX9_tellRoom 62 = .ok (.iaload, 1) := by decide +kernel
theorem dX9_tellRoom_63 : decode cX9_tellRoom 63 = .ok (.invokevirtual 330, 3) := by decide +kernel
theorem dX9_tellRoom_66 : decode cX9_tellRoom 66 = .ok (.bipush 93, 2) := by decide +kernel
theorem dX9_tellRoom_68 : decode cX9_tellRoom 68 = .ok (.invokevirtual 334, 3) := by decide +kernel
theorem dX9_tellRoom_71 : decode cX9_tellRoom 71 = .ok (.pop, 1) := by decide +kernel
theorem dX9_tellRoom_72 : decode cX9_tellRoom 72 = .ok (.aload_n 0, 1) := by decide +kernel
theorem dX9_tellRoom_73 : decode cX9_tellRoom 73 = .ok (.iload_n 1, 1) := by decide +kernel
theorem dX9_tellRoom_74 : decode cX9_tellRoom 74 = .ok (.invokevirtual 337, 3) := by decide +kernel
theorem dX9_tellRoom_77 : decode cX9_tellRoom 77 = .ok (.aload_n 0, 1) := by decide +kernel
theorem dX9_tellRoom_78 : decode cX9_tellRoom 78 = .ok (.iload_n 1, 1) := by decide +kernel
theorem dX9_tellRoom_79 : decode cX9_tellRoom 79 = .ok (.invokevirtual 340, 3) := by decide +kernel
theorem dX9_tellRoom_82 : decode cX9_tellRoom 82 = .ok (.aload_n 0, 1) := by decide +kernel
theorem dX9_tellRoom_83 : decode cX9_tellRoom 83 = .ok (.getfield 46, 3) := by decide +kernel
theorem dX9_tellRoom_86 : decode cX9_tellRoom 86 = .ok (.invokevirtual 343, 3) := by decide +kernel
theorem dX9_tellRoom_89 : decode cX9_tellRoom 89 = .ok (.ireturn, 1) := by decide +kernel
theorem vm_X9_tellRoom : aVm yX9_tellRoom RX9 cX9_tellRoom 2 (some .int) 1 := ⟨tw_1295, tw_1293, tw_1294, tw_1, rfl, by decide +kernel, by decide +kernel, by decide +kernel⟩
theorem dX9_tellEcho_0 : decode cX9_tellEcho 0 = .ok (.aload_n 0, 1) := by decide +kernel
theorem dX9_tellEcho_1 : decode cX9_tellEcho 1 = .ok (.iload_n 1, 1) := by decide +kernel
theorem dX9_tellEcho_2 : decode cX9_tellEcho 2 = .ok (.invokevirtual 134, 3) := by decide +kernel
theorem dX9_tellEcho_5 : decode cX9_tellEcho 5 = .ok (.aload_n 0, 1) := by decide +kernel
theorem dX9_tellEcho_6 : decode cX9_tellEcho 6 = .ok (.getfield 46, 3) := by decide +kernel
theorem dX9_tellEcho_9 : decode cX9_tellEcho 9 = .ok (.iconst 0, 1) := by decide +kernel
theorem dX9_tellEcho_10 : decode cX9_tellEcho 10 = .ok (.invokevirtual 327, 3) := by decide +kernel
theorem dX9_tellEcho_13 : decode cX9_tellEcho 13 = .ok (.aload_n 0, 1) := by decide +kernel
theorem dX9_tellEcho_14 : decode cX9_tellEcho 14 = .ok (.getfield 46, 3) := by decide +kernel
theorem dX9_tellEcho_17 : decode cX9_tellEcho 17 = .ok (.iload_n 1, 1) := by decide +kernel
theorem dX9_tellEcho_18 : decode cX9_tellEcho 18 = .ok (.invokevirtual 330, 3) := by decide +kernel
theorem dX9_tellEcho_21 : decode cX9_tellEcho 21 = .ok (.bipush 94, 2) := by decide +kernel
theorem dX9_tellEcho_23 : decode cX9_tellEcho 23 = .ok (.invokevirtual 334, 3) := by decide +kernel
theorem dX9_tellEcho_26 : decode cX9_tellEcho 26 = .ok (.aload_n 0, 1) := by decide +kernel
theorem dX9_tellEcho_27 : decode cX9_tellEcho 27 = .ok (.getfield 10, 3) := by decide +kernel
theorem dX9_tellEcho_30 : decode cX9_tellEcho 30 = .ok (.getfield 137, 3) := by decide +kernel
theorem dX9_tellEcho_33 : decode cX9_tellEcho 33 = .ok (.getfield 146, 3) := by decide +kernel
theorem dX9_tellEcho_36 : decode cX9_tellEcho 36 = .ok (.iload_n 1, 1) := by decide +kernel
theorem dX9_tellEcho_37 : decode cX9_tellEcho 37 = .ok (.iaload, 1) := by decide +kernel
theorem dX9_tellEcho_38 : decode cX9_tellEcho 38 = .ok (.invokevirtual 330, 3) := by decide +kernel
theorem dX9_tellEcho_41 : decode cX9_tellEcho 41 = .ok (.pop, 1) := by decide +kernel
theorem dX9_tellEcho_42 : decode cX9_tellEcho 42 = .ok (.aload_n 0, 1) := by decide +kernel
theorem dX9_tellEcho_43 : decode cX9_tellEcho 43 = .ok (.getfield 46, 3) := by decide +kernel
theorem dX9_tellEcho_46 : decode cX9_tellEcho 46 = .ok (.bipush 64, 2) := by decide +kernel
theorem dX9_tellEcho_48 : decode cX9_tellEcho 48 = .ok (.invokevirtual 334, 3) := by decide +kernel
theorem dX9_tellEcho_51 : decode cX9_tellEcho 51 = .ok (.aload_n 0, 1) := by decide +kernel
theorem dX9_tellEcho_52 : decode cX9_tellEcho 52 = .ok (.getfield 10, 3) := by decide +kernel
theorem dX9_tellEcho_55 : decode cX9_tellEcho 55 = .ok (.getfield 137, 3) := by decide +kernel
theorem dX9_tellEcho_58 : decode cX9_tellEcho 58 = .ok (.getfield 141, 3) := by decide +kernel
theorem dX9_tellEcho_61 : decode cX9_tellEcho 61 = .ok (.iload_n 1, 1) := by decide +kernel
theorem dX9_tellEcho_62 : decode cX9_tellEcho 62 = .ok (.iaload, 1) := by decide +kernel
theorem dX9_tellEcho_63 : decode cX9_tellEcho 63 = .ok (.invokevirtual 330, 3) := by decide +kernel
theorem dX9_tellEcho_66 : decode cX9_tellEcho 66 = .ok (.pop, 1) := by decide +kernel
theorem dX9_tellEcho_67 : decode cX9_tellEcho 67 = .ok (.aload_n 0, 1) := by decide +kernel
theorem dX9_tellEcho_68 : decode cX9_tellEcho 68 = .ok (.getfield 10, 3) := by decide +kernel
theorem dX9_tellEcho_71 : decode cX9_tellEcho 71 = .ok (.iload_n 1, 1) := by decide +kernel
theorem dX9_tellEcho_72 : decode cX9_tellEcho 72 = .ok (.invokevirtual 217, 3) := by decide +kernel
theorem dX9_tellEcho_75 : decode cX9_tellEcho 75 = .ok (.ifCond .eq 53, 3) := by decide +kernel
theorem dX9_tellEcho_78 : decode cX9_tellEcho 78 = .ok (.aload_n 0, 1) := by decide +kernel
theorem dX9_tellEcho_79 : decode cX9_tellEcho 79 = .ok (.getfield 46, 3) := by decide +kernel
theorem dX9_tellEcho_82 : decode cX9_tellEcho 82 = .ok (.bipush 61, 2) := by decide +kernel
theorem dX9_tellEcho_84 : decode cX9_tellEcho 84 = .ok (.invokevirtual 334, 3) := by decide +kernel
theorem dX9_tellEcho_87 : decode cX9_tellEcho 87 = .ok (.aload_n 0, 1) := by decide +kernel
theorem dX9_tellEcho_88 : decode cX9_tellEcho 88 = .ok (.getfield 10, 3) := by decide +kernel
theorem dX9_tellEcho_91 : decode cX9_tellEcho 91 = .ok (.getfield 137, 3) := by decide +kernel
theorem dX9_tellEcho_94 : decode cX9_tellEcho 94 = .ok (.getfield 149, 3) := by decide +kernel
theorem dX9_tellEcho_97 : decode cX9_tellEcho 97 = .ok (.iload_n 1, 1) := by decide +kernel
theorem dX9_tellEcho_98 : decode cX9_tellEcho 98 = .ok (.iaload, 1) := by decide +kernel
theorem dX9_tellEcho_99 : decode cX9_tellEcho 99 = .ok (.invokevirtual 330, 3) := by decide +kernel
theorem dX9_tellEcho_102 : decode cX9_tellEcho 102 = .ok (.pop, 1) := by decide +kernel
theorem dX9_tellEcho_103 : decode cX9_tellEcho 103 = .ok (.aload_n 0, 1) := by decide +kernel
theorem dX9_tellEcho_104 : decode cX9_tellEcho 104 = .ok (.getfield 46, 3) := by decide +kernel
theorem dX9_tellEcho_107 : decode cX9_tellEcho 107 = .ok (.bipush 47, 2) := by decide +kernel
theorem dX9_tellEcho_109 : decode cX9_tellEcho 109 = .ok (.invokevirtual 334, 3) := by decide +kernel
theorem dX9_tellEcho_112 : decode cX9_tellEcho 112 = .ok (.aload_n 0, 1) := by decide +kernel
theorem dX9_tellEcho_113 : decode cX9_tellEcho 113 = .ok (.getfield 10, 3) := by decide +kernel
theorem dX9_tellEcho_116 : decode cX9_tellEcho 116 = .ok (.getfield 137, 3) := by decide +kernel
theorem dX9_tellEcho_119 : decode cX9_tellEcho 119 = .ok (.getfield 152, 3) := by decide +kernel
theorem dX9_tellEcho_122 : decode cX9_tellEcho 122 = .ok (.iload_n 1, 1) := by decide +kernel
theorem dX9_tellEcho_123 : decode cX9_tellEcho 123 = .ok (.iaload, 1) := by decide +kernel
theorem dX9_tellEcho_124 : decode cX9_tellEcho 124 = .ok (.invokevirtual 330, 3) := by decide +kernel
theorem dX9_tellEcho_127 : decode cX9_tellEcho 127 = .ok (.pop, 1) := by decide +kernel
theorem dX9_tellEcho_128 : decode cX9_tellEcho 128 = .ok (.aload_n 0, 1) := by decide +kernel
theorem dX9_tellEcho_129 : decode cX9_tellEcho 129 = .ok (.getfield 46, 3) := by decide +kernel
theorem dX9_tellEcho_132 : decode cX9_tellEcho 132 = .ok (.invokevirtual 343, 3) := by decide +kernel
theorem dX9_tellEcho_135 : decode cX9_tellEcho 135 = .ok (.ireturn, 1) := by decide +kernel
theorem vm_X9_tellEcho : aVm yX9_tellEcho RX9 cX9_tellEcho 2 (some .int) 1 := ⟨tw_1396, tw_1394, tw_1395, tw_1, rfl, by decide +kernel, by decide +kernel, by decide +kernel⟩
theorem dX9_tellSinger_0 : decode cX9_tellSinger 0 = .ok (.aload_n 0, 1) := by decide +kernel
theorem dX9_tellSinger_1 : decode cX9_tellSinger 1 = .ok (.iload_n 1, 1) := by decide +kernel
theorem dX9_tellSinger_2 : decode cX9_tellSinger 2 = .ok (.invokevirtual 158, 3) := by decide +kernel
theorem dX9_tellSinger_5 : decode cX9_tellSinger 5 = .ok (.aload_n 0, 1) := by decide +kernel
theorem dX9_tellSinger_6 : decode cX9_tellSinger 6 = .ok (.getfield 46, 3) := by decide +kernel
theorem dX9_tellSinger_9 : decode cX9_tellSinger 9 = .ok (.iconst 0, 1) := by decide +kernel
theorem dX9_tellSinger_10 : decode cX9_tellSinger 10 = .ok (.invokevirtual 327, 3) := by decide +kernel
theorem dX9_tellSinger_13 : decode cX9_tellSinger 13 = .ok (.aload_n 0, 1) := by decide +kernel
theorem dX9_tellSinger_14 : decode cX9_tellSinger 14 = .ok (.getfield 46, 3) := by decide +kernel
theorem dX9_tellSinger_17 : decode cX9_tellSinger 17 = .ok (.iload_n 1, 1) := by decide +kernel
theorem dX9_tellSinger_18 : decode cX9_tellSinger 18 = .ok (.invokevirtual 330, 3) := by decide +kernel
theorem dX9_tellSinger_21 : decode cX9_tellSinger 21 = .ok (.bipush 33, 2) := by decide +kernel
theorem dX9_tellSinger_23 : decode cX9_tellSinger 23 = .ok (.invokevirtual 334, 3) := by decide +kernel
theorem dX9_tellSinger_26 : decode cX9_tellSinger 26 = .ok (.aload_n 0, 1) := by decide +kernel
theorem dX9_tellSinger_27 : decode cX9_tellSinger 27 = .ok (.getfield 10, 3) := by decide +kernel
theorem dX9_tellSinger_30 : decode cX9_tellSinger 30 = .ok (.getfield 161, 3) := by decide +kernel
theorem dX9_tellSinger_33 : decode cX9_tellSinger 33 = .ok (.getfield 165, 3) := by decide +kernel
theorem dX9_tellSinger_36 : decode cX9_tellSinger 36 = .ok (.iload_n 1, 1) := by decide +kernel
theorem dX9_tellSinger_37 : decode cX9_tellSinger 37 = .ok (.iaload, 1) := by decide +kernel
theorem dX9_tellSinger_38 : decode cX9_tellSinger 38 = .ok (.invokevirtual 330, 3) := by decide +kernel
theorem dX9_tellSinger_41 : decode cX9_tellSinger 41 = .ok (.pop, 1) := by decide +kernel
theorem dX9_tellSinger_42 : decode cX9_tellSinger 42 = .ok (.aload_n 0, 1) := by decide +kernel
theorem dX9_tellSinger_43 : decode cX9_tellSinger 43 = .ok (.getfield 46, 3) := by decide +kernel
theorem dX9_tellSinger_46 : decode cX9_tellSinger 46 = .ok (.bipush 37, 2) := by decide +kernel
theorem dX9_tellSinger_48 : decode cX9_tellSinger 48 = .ok (.invokevirtual 334, 3) := by decide +kernel
theorem dX9_tellSinger_51 : decode cX9_tellSinger 51 = .ok (.aload_n 0, 1) := by decide +kernel
theorem dX9_tellSinger_52 : decode cX9_tellSinger 52 = .ok (.getfield 10, 3) := by decide +kernel
theorem dX9_tellSinger_55 : decode cX9_tellSinger 55 = .ok (.getfield 161, 3) := by decide +kernel
theorem dX9_tellSinger_58 : decode cX9_tellSinger 58 = .ok (.getfield 170, 3) := by decide +kernel
theorem dX9_tellSinger_61 : decode cX9_tellSinger 61 = .ok (.iload_n 1, 1) := by decide +kernel
theorem dX9_tellSinger_62 : decode cX9_tellSinger 62 = .ok (.iaload, 1) := by decide +kernel
theorem dX9_tellSinger_63 : decode cX9_tellSinger 63 = .ok (.invokevirtual 330, 3) := by decide +kernel
theorem dX9_tellSinger_66 : decode cX9_tellSinger 66 = .ok (.pop, 1) := by decide +kernel
theorem dX9_tellSinger_67 : decode cX9_tellSinger 67 = .ok (.aload_n 0, 1) := by decide +kernel
theorem dX9_tellSinger_68 : decode cX9_tellSinger 68 = .ok (.getfield 10, 3) := by decide +kernel
theorem dX9_tellSinger_71 : decode cX9_tellSinger 71 = .ok (.iload_n 1, 1) := by decide +kernel
theorem dX9_tellSinger_72 : decode cX9_tellSinger 72 = .ok (.invokevirtual 250, 3) := by decide +kernel
theorem dX9_tellSinger_75 : decode cX9_tellSinger 75 = .ok (.ifCond .eq 28, 3) := by decide +kernel
theorem dX9_tellSinger_78 : decode cX9_tellSinger 78 = .ok (.aload_n 0, 1) := by decide +kernel
theorem dX9_tellSinger_79 : decode cX9_tellSinger 79 = .ok (.getfield 46, 3) := by decide +kernel
theorem dX9_tellSinger_82 : decode cX9_tellSinger 82 = .ok (.bipush 64, 2) := by decide +kernel
theorem dX9_tellSinger_84 : decode cX9_tellSinger 84 = .ok (.invokevirtual 334, 3) := by decide +kernel
theorem dX9_tellSinger_87 : decode cX9_tellSinger 87 = .ok (.aload_n 0, 1) := by decide +kernel
theorem dX9_tellSinger_88 : decode cX9_tellSinger 88 = .ok (.getfield 10, 3) := by decide +kernel
theorem dX9_tellSinger_91 : decode cX9_tellSinger 91 = .ok (.getfield 161, 3) := by decide +kernel
theorem dX9_tellSinger_94 : decode cX9_tellSinger 94 = .ok (.getfield 173, 3) := by decide +kernel
theorem dX9_tellSinger_97 : decode cX9_tellSinger 97 = .ok (.iload_n 1, 1) := by decide +kernel
theorem dX9_tellSinger_98 : decode cX9_tellSinger 98 = .ok (.iaload, 1) := by decide +kernel
theorem dX9_tellSinger_99 : decode cX9_tellSinger 99 = .ok (.invokevirtual 330, 3) := by decide +kernel
theorem dX9_tellSinger_102 : decode cX9_tellSinger 102 = .ok (.pop, 1) := by decide +kernel
theorem dX9_tellSinger_103 : decode cX9_tellSinger 103 = .ok (.aload_n 0, 1) := by decide +kernel
theorem dX9_tellSinger_104 : decode cX9_tellSinger 104 = .ok (.getfield 46, 3) := by decide +kernel
theorem dX9_tellSinger_107 : decode cX9_tellSinger 107 = .ok (.invokevirtual 343, 3) := by decide +kernel
theorem dX9_tellSinger_110 : decode cX9_tellSinger 110 = .ok (.ireturn, 1) := by decide +kernel
theorem vm_X9_tellSinger : aVm yX9_tellSinger RX9 cX9_tellSinger 2 (some .int) 1 := ⟨tw_1402, tw_1400, tw_1401, tw_1, rfl, by decide +kernel, by decide +kernel, by decide +kernel⟩
theorem dX9_character_0 : decode cX9_character 0 = .ok (.iload_n 1, 1) := by decide +kernel
theorem dX9_character_1 : decode cX9_character 1 = .ok (.ifCond .lt 14, 3) := by decide +kernel
theorem dX9_character_4 : decode cX9_character 4 = .ok (.iload_n 1, 1) := by decide +kernel
theorem dX9_character_5 : decode cX9_character 5 = .ok (.aload_n 0, 1) := by decide +kernel
theorem dX9_character_6 : decode cX9_character 6 = .ok (.getfield 46, 3) := by decide +kernel
theorem dX9_character_9 : decode cX9_character 9 = .ok (.invokevirtual 343, 3) := by decide +kernel
theorem dX9_character_12 : decode cX9_character 12 = .ok (.if_icmp .lt 14, 3) := by decide +kernel
theorem dX9_character_15 : decode cX9_character 15 = .ok (.new 345, 3) := by decide +kernel
theorem dX9_character_18 : decode cX9_character 18 = .ok (.dup, 1) := by decide +kernel
theorem dX9_character_19 : decode cX9_character 19 = .ok (.ldc_w 347, 3) := by decide +kernel
theorem dX9_character_22 : decode cX9_character 22 = .ok (.invokespecial 349, 3) := by decide +kernel
theorem dX9_character_25 : decode cX9_character 25 = .ok (.athrow, 1) := by decide +kernel
theorem dX9_character_26 : decode cX9_character 26 = .ok (.aload_n 0, 1) := by decide +kernel
theorem dX9_character_27 : decode cX9_character 27 = .ok (.getfield 46, 3) := by decide +kernel
theorem dX9_character_30 : decode cX9_character 30 = .ok (.iload_n 1, 1) := by decide +kernel
theorem dX9_character_31 : decode cX9_character 31 = .ok (.invokevirtual 350, 3) := by decide +kernel
theorem dX9_character_34 : decode cX9_character 34 = .ok (.ireturn, 1) := by decide +kernel
theorem vm_X9_character : aVm yX9_character RX9 cX9_character 2 (some .char) 1 := ⟨tw_1378, tw_1376, tw_1377, tw_1, rfl, by decide +kernel, by decide +kernel, by decide +kernel⟩
def txE (d : Nat → Nat → Int32) (x : Int32) : Nat → List Nat
  | 0 => []
  | e + 1 => txE d x e ++ (if d 7 e = x then [48 + e] ++ (if d 9 e = -1 then [] else [42]) else [])
def txS (d : Nat → Nat → Int32) (x : Int32) : Nat → List Nat
  | 0 => []
  | e + 1 => txS d x e ++ (if d 15 e = x then [115] ++ [48 + e] else [])
theorem txE_len (d : Nat → Nat → Int32) (x : Int32) : ∀ e, (txE d x e).length ≤ 2 * e
  | 0 => Nat.le_refl _
  | e + 1 => by
    have h := txE_len d x e
    unfold txE
    rw [List.length_append]
    split
    · split <;> simp <;> omega
    · simp; omega
theorem txS_len (d : Nat → Nat → Int32) (x : Int32) : ∀ e, (txS d x e).length ≤ 2 * e
  | 0 => Nat.le_refl _
  | e + 1 => by
    have h := txS_len d x e
    unfold txS
    rw [List.length_append]
    split <;> simp <;> omega
def w_X9_writeEchoesIn (x1 : Int32) (q : aS) (P : Int32 → aS → Prop) : Prop := ∃ c : Nat, c ≤ 8 ∧ q.1 6 0 = nI c ∧ q.2.length + 2 * c ≤ 60 ∧ P 0 (q.1, q.2 ++ txE q.1 x1 c)
def w_X9_writeSingersIn (x1 : Int32) (q : aS) (P : Int32 → aS → Prop) : Prop := ∃ c : Nat, c ≤ 6 ∧ q.1 12 0 = nI c ∧ q.2.length + 2 * c ≤ 60 ∧ P 0 (q.1, q.2 ++ txS q.1 x1 c)
theorem dgs_1 {e : Nat} (h : e < 10) : dgs e = [48 + e] ∧ dgn e = 1 := ⟨if_pos h, if_pos h⟩
theorem t_X9_writeEchoesIn {l : Launch} {g : aG} {z : lP} {RS : va_W} (hg : g = lX z RS (gAd g 205)) (ht : z.2.1.map Prod.snd = tyX) (hX : isX g) (hl : l.stackTraces = false) (x1 : Int32) (q : aS) (P : Int32 → aS → Prop) (h : w_X9_writeEchoesIn x1 q P) : aMv l g yX9_writeEchoesIn (aWs yX9_writeEchoesIn cX9_writeEchoesIn 3 none) 6 16 1920 [.ref (gAd g 0), .int x1] q P (fun _ _ => False) := by
  obtain ⟨dX, t⟩ := q
  obtain ⟨c, c8, hc, h60, h⟩ := h
  have hc : dX 6 0 = nI c := hc
  have h60 : t.length + 2 * c ≤ 60 := h60
  refine aMv_of RX9 ⟨by decide +kernel, rfl⟩ (cat_all rfl) (Nat.le_of_ble_eq_true rfl) hl hX.cl (fun f hR hC hE => ?_)
  show AW f g 0 [some (.ref (gAd g 0)), some (.int x1), none] [] (dX, t) 0 0
  refine a_iconst (pc := 0) hC dX9_writeEchoesIn_0 (v := 0) rfl ?_
  refine a_istore_n (pc := 1) hC dX9_writeEchoesIn_1 (Nat.le_of_ble_eq_true rfl) ?_
  have loop : ∀ r e, e + r = c → AW f g 2 [some (.ref (gAd g 0)), some (.int x1), some (.int (nI e))] [] (dX, t ++ txE dX x1 e) (2 * e) (240 * e) := by
    intro r
    induction r with
    | zero =>
      intro e he
      have he : e = c := by omega
      subst he
      refine a_iload_n (pc := 2) hC dX9_writeEchoesIn_2 rfl ?_
      refine a_aload_n (pc := 3) hC dX9_writeEchoesIn_3 rfl ?_
      refine a_get (pc := 4) hC cl_X9 (oX_0 hX) 0 (by decide) tw_303 rfl dX9_writeEchoesIn_4 ?_
      refine a_get (pc := 7) hC cl_X8 (oX_1 hX) 1 (by decide) tw_153 rfl dX9_writeEchoesIn_7 ?_
      refine a_get (pc := 10) hC cl_X1 (oX_6 hX) 0 (by decide) tw_84 rfl dX9_writeEchoesIn_10 ?_
      dsimp only
      rw [hc]
      refine a_icmp_ge (pc := 13) (tgt := 68) hC dX9_writeEchoesIn_13 (by decide) (fun _ => ?_) (fun c => absurd ((nI_leI (by omega) (by omega)).mpr (Nat.le_refl _)) c)
      exact a_vret (pc := 68) hC hE h (by omega) (by omega) dX9_writeEchoesIn_68
    | succ r ih =>
      intro e he
      have hec : e < c := by omega
      have hl := txE_len dX x1 e
      obtain ⟨g1, g2⟩ := dgs_1 (e := e) (by omega)
      refine a_iload_n (pc := 2) hC dX9_writeEchoesIn_2 rfl ?_
      refine a_aload_n (pc := 3) hC dX9_writeEchoesIn_3 rfl ?_
      refine a_get (pc := 4) hC cl_X9 (oX_0 hX) 0 (by decide) tw_303 rfl dX9_writeEchoesIn_4 ?_
      refine a_get (pc := 7) hC cl_X8 (oX_1 hX) 1 (by decide) tw_153 rfl dX9_writeEchoesIn_7 ?_
      refine a_get (pc := 10) hC cl_X1 (oX_6 hX) 0 (by decide) tw_84 rfl dX9_writeEchoesIn_10 ?_
      dsimp only
      rw [hc]
      refine a_icmp_ge (pc := 13) (tgt := 68) hC dX9_writeEchoesIn_13 (by decide) (fun y => absurd ((nI_leI (by omega) (by omega)).mp y) (by omega)) (fun _ => ?_)
      have next : ∀ u, u = txE dX x1 (e + 1) → ∀ k n, k ≤ 2 * (e + 1) → n ≤ 240 * (e + 1) → AW f g 62 [some (.ref (gAd g 0)), some (.int x1), some (.int (nI e))] [] (dX, t ++ u) k n := by
        intro u hu k n hk hn
        subst hu
        refine a_iinc (pc := 62) hC dX9_writeEchoesIn_62 (x := nI e) (c := 1) rfl rfl ?_
        rw [nI_1]
        refine a_goto (pc := 65) (tgt := 2) hC dX9_writeEchoesIn_65 (by decide) ?_
        exact AW.widen hk hn (ih (e + 1) (by omega))
      refine a_aload_n (pc := 16) hC dX9_writeEchoesIn_16 rfl ?_
      refine a_get (pc := 17) hC cl_X9 (oX_0 hX) 0 (by decide) tw_303 rfl dX9_writeEchoesIn_17 ?_
      refine a_get (pc := 20) hC cl_X8 (oX_1 hX) 1 (by decide) tw_153 rfl dX9_writeEchoesIn_20 ?_
      refine a_get (pc := 23) hC cl_X1 (oX_6 hX) 1 (by decide) tw_87 rfl dX9_writeEchoesIn_23 ?_
      refine a_iload_n (pc := 26) hC dX9_writeEchoesIn_26 rfl ?_
      refine a_iald (pc := 27) hC (oX_7 hX) (vp_in_nI (by omega) (by decide)) dX9_writeEchoesIn_27 ?_
      dsimp only
      rw [nI_clamp (by omega)]
      refine a_iload_n (pc := 28) hC dX9_writeEchoesIn_28 rfl ?_
      refine a_icmp_ne (pc := 29) (tgt := 62) hC dX9_writeEchoesIn_29 (by decide) (fun y => ?_) (fun y => ?_)
      · refine next _ ?_ _ _ (by omega) (by omega)
        show txE dX x1 e = txE dX x1 e ++ _
        rw [if_neg y, List.append_nil]
      · refine a_aload_n (pc := 32) hC dX9_writeEchoesIn_32 rfl ?_
        refine a_get (pc := 33) hC cl_X9 (oX_0 hX) 7 (by decide) tw_309 rfl dX9_writeEchoesIn_33 ?_
        refine a_iload_n (pc := 36) hC dX9_writeEchoesIn_36 rfl ?_
        refine a_sbAppI (pc := 37) hg ht hC hR tw_1348 (w := e) rfl (by omega) (by show (t ++ txE dX x1 e).length + dgn e ≤ 60; rw [List.length_append, g2]; omega) ⟨by decide, by decide, by omega, by omega⟩ dX9_writeEchoesIn_37 rfl (Nat.le_of_ble_eq_true rfl) ?_
        rw [g1]
        refine a_pop (pc := 40) hC dX9_writeEchoesIn_40 rfl ?_
        refine a_aload_n (pc := 41) hC dX9_writeEchoesIn_41 rfl ?_
        refine a_get (pc := 42) hC cl_X9 (oX_0 hX) 0 (by decide) tw_303 rfl dX9_writeEchoesIn_42 ?_
        refine a_iload_n (pc := 45) hC dX9_writeEchoesIn_45 rfl ?_
        refine a_callV (pc := 46) hC hR vm_X8_isLet tw_611 cl_X8 (oX_1 hX) ⟨by decide, by decide, by omega, by omega⟩ dX9_writeEchoesIn_46 (t_X8_isLet hX hC.tr _ _ (fun r u => u = (dX, t ++ txE dX x1 e ++ [48 + e]) ∧ ((dX 9 e = -1 ∧ r = 0) ∨ (¬ dX 9 e = -1 ∧ r = 1))) ⟨vp_in_nI (by omega) (by decide), fun y2 => ⟨rfl, Or.inl ⟨by rw [nI_clamp (by omega)] at y2; exact y2, rfl⟩⟩, fun y2 => ⟨rfl, Or.inr ⟨by rw [nI_clamp (by omega)] at y2; exact y2, rfl⟩⟩⟩) rfl rfl rfl (Nat.le_of_ble_eq_true rfl) (fun r3 q4 hq => ?_)
        obtain ⟨-, rfl, hq⟩ := hq
        refine a_if_eq (pc := 49) (tgt := 62) hC dX9_writeEchoesIn_49 (by decide) (fun y2 => ?_) (fun y2 => ?_)
        · have hn1 : dX 9 e = -1 := by
            rcases hq with hq | hq
            · exact hq.1
            · exact absurd (hq.2.symm.trans y2) (by decide)
          rw [List.append_assoc]
          refine next _ ?_ _ _ (by omega) (by omega)
          show _ = txE dX x1 e ++ _
          rw [if_pos y, if_pos hn1, List.append_nil]
        · have hn1 : ¬ dX 9 e = -1 := by
            rcases hq with hq | hq
            · exact absurd hq.2 y2
            · exact hq.1
          refine a_aload_n (pc := 52) hC dX9_writeEchoesIn_52 rfl ?_
          refine a_get (pc := 53) hC cl_X9 (oX_0 hX) 7 (by decide) tw_309 rfl dX9_writeEchoesIn_53 ?_
          refine a_bipush (pc := 56) hC dX9_writeEchoesIn_56 (v := 42) rfl ?_
          refine a_sbAppC (pc := 58) hg ht hC hR tw_1349 42 rfl (by decide) (by show (t ++ txE dX x1 e ++ [48 + e]).length + 1 ≤ 60; rw [List.length_append, List.length_append]; show t.length + _ + 1 + 1 ≤ 60; omega) ⟨by decide, by decide, by omega, by omega⟩ dX9_writeEchoesIn_58 rfl (Nat.le_of_ble_eq_true rfl) ?_
          refine a_pop (pc := 61) hC dX9_writeEchoesIn_61 rfl ?_
          show AW f g 62 _ [] (dX, t ++ txE dX x1 e ++ [48 + e] ++ [42]) _ _
          rw [List.append_assoc, List.append_assoc]
          refine next _ ?_ _ _ (by omega) (by omega)
          show _ = txE dX x1 e ++ _
          rw [if_pos y, if_neg hn1]
  have h0 := loop c 0 (by omega)
  have e0 : t ++ txE dX x1 0 = t := List.append_nil t
  rw [e0] at h0
  exact h0
theorem t_X9_writeSingersIn {l : Launch} {g : aG} {z : lP} {RS : va_W} (hg : g = lX z RS (gAd g 205)) (ht : z.2.1.map Prod.snd = tyX) (hX : isX g) (hl : l.stackTraces = false) (x1 : Int32) (q : aS) (P : Int32 → aS → Prop) (h : w_X9_writeSingersIn x1 q P) : aMv l g yX9_writeSingersIn (aWs yX9_writeSingersIn cX9_writeSingersIn 3 none) 6 12 1440 [.ref (gAd g 0), .int x1] q P (fun _ _ => False) := by
  obtain ⟨dX, t⟩ := q
  obtain ⟨c, c8, hc, h60, h⟩ := h
  have hc : dX 12 0 = nI c := hc
  have h60 : t.length + 2 * c ≤ 60 := h60
  refine aMv_of RX9 ⟨by decide +kernel, rfl⟩ (cat_all rfl) (Nat.le_of_ble_eq_true rfl) hl hX.cl (fun f hR hC hE => ?_)
  show AW f g 0 [some (.ref (gAd g 0)), some (.int x1), none] [] (dX, t) 0 0
  refine a_iconst (pc := 0) hC dX9_writeSingersIn_0 (v := 0) rfl ?_
  refine a_istore_n (pc := 1) hC dX9_writeSingersIn_1 (Nat.le_of_ble_eq_true rfl) ?_
  have loop : ∀ r e, e + r = c → AW f g 2 [some (.ref (gAd g 0)), some (.int x1), some (.int (nI e))] [] (dX, t ++ txS dX x1 e) (2 * e) (240 * e) := by
    intro r
    induction r with
    | zero =>
      intro e he
      have he : e = c := by omega
      subst he
      refine a_iload_n (pc := 2) hC dX9_writeSingersIn_2 rfl ?_
      refine a_aload_n (pc := 3) hC dX9_writeSingersIn_3 rfl ?_
      refine a_get (pc := 4) hC cl_X9 (oX_0 hX) 0 (by decide) tw_303 rfl dX9_writeSingersIn_4 ?_
      refine a_get (pc := 7) hC cl_X8 (oX_1 hX) 2 (by decide) tw_155 rfl dX9_writeSingersIn_7 ?_
      refine a_get (pc := 10) hC cl_X7 (oX_12 hX) 0 (by decide) tw_121 rfl dX9_writeSingersIn_10 ?_
      dsimp only
      rw [hc]
      refine a_icmp_ge (pc := 13) (tgt := 52) hC dX9_writeSingersIn_13 (by decide) (fun _ => ?_) (fun c => absurd ((nI_leI (by omega) (by omega)).mpr (Nat.le_refl _)) c)
      exact a_vret (pc := 52) hC hE h (by omega) (by omega) dX9_writeSingersIn_52
    | succ r ih =>
      intro e he
      have hec : e < c := by omega
      have hl := txS_len dX x1 e
      obtain ⟨g1, g2⟩ := dgs_1 (e := e) (by omega)
      refine a_iload_n (pc := 2) hC dX9_writeSingersIn_2 rfl ?_
      refine a_aload_n (pc := 3) hC dX9_writeSingersIn_3 rfl ?_
      refine a_get (pc := 4) hC cl_X9 (oX_0 hX) 0 (by decide) tw_303 rfl dX9_writeSingersIn_4 ?_
      refine a_get (pc := 7) hC cl_X8 (oX_1 hX) 2 (by decide) tw_155 rfl dX9_writeSingersIn_7 ?_
      refine a_get (pc := 10) hC cl_X7 (oX_12 hX) 0 (by decide) tw_121 rfl dX9_writeSingersIn_10 ?_
      dsimp only
      rw [hc]
      refine a_icmp_ge (pc := 13) (tgt := 52) hC dX9_writeSingersIn_13 (by decide) (fun y => absurd ((nI_leI (by omega) (by omega)).mp y) (by omega)) (fun _ => ?_)
      have next : ∀ u, u = txS dX x1 (e + 1) → ∀ k n, k ≤ 2 * (e + 1) → n ≤ 240 * (e + 1) → AW f g 46 [some (.ref (gAd g 0)), some (.int x1), some (.int (nI e))] [] (dX, t ++ u) k n := by
        intro u hu k n hk hn
        subst hu
        refine a_iinc (pc := 46) hC dX9_writeSingersIn_46 (x := nI e) (c := 1) rfl rfl ?_
        rw [nI_1]
        refine a_goto (pc := 49) (tgt := 2) hC dX9_writeSingersIn_49 (by decide) ?_
        exact AW.widen hk hn (ih (e + 1) (by omega))
      refine a_aload_n (pc := 16) hC dX9_writeSingersIn_16 rfl ?_
      refine a_get (pc := 17) hC cl_X9 (oX_0 hX) 0 (by decide) tw_303 rfl dX9_writeSingersIn_17 ?_
      refine a_get (pc := 20) hC cl_X8 (oX_1 hX) 2 (by decide) tw_155 rfl dX9_writeSingersIn_20 ?_
      refine a_get (pc := 23) hC cl_X7 (oX_12 hX) 3 (by decide) tw_130 rfl dX9_writeSingersIn_23 ?_
      refine a_iload_n (pc := 26) hC dX9_writeSingersIn_26 rfl ?_
      refine a_iald (pc := 27) hC (oX_15 hX) (vp_in_nI (by omega) (by decide)) dX9_writeSingersIn_27 ?_
      dsimp only
      rw [nI_clamp (by omega)]
      refine a_iload_n (pc := 28) hC dX9_writeSingersIn_28 rfl ?_
      refine a_icmp_ne (pc := 29) (tgt := 46) hC dX9_writeSingersIn_29 (by decide) (fun y => ?_) (fun y => ?_)
      · refine next _ ?_ _ _ (by omega) (by omega)
        show txS dX x1 e = txS dX x1 e ++ _
        rw [if_neg y, List.append_nil]
      · refine a_aload_n (pc := 32) hC dX9_writeSingersIn_32 rfl ?_
        refine a_get (pc := 33) hC cl_X9 (oX_0 hX) 7 (by decide) tw_309 rfl dX9_writeSingersIn_33 ?_
        refine a_bipush (pc := 36) hC dX9_writeSingersIn_36 (v := 115) rfl ?_
        refine a_sbAppC (pc := 38) hg ht hC hR tw_1349 115 rfl (by decide) (by show (t ++ txS dX x1 e).length + 1 ≤ 60; rw [List.length_append]; omega) ⟨by decide, by decide, by omega, by omega⟩ dX9_writeSingersIn_38 rfl (Nat.le_of_ble_eq_true rfl) ?_
        refine a_iload_n (pc := 41) hC dX9_writeSingersIn_41 rfl ?_
        refine a_sbAppI (pc := 42) hg ht hC hR tw_1348 (w := e) rfl (by omega) (by show (t ++ txS dX x1 e ++ [115]).length + dgn e ≤ 60; rw [List.length_append, List.length_append, g2]; show t.length + _ + 1 + 1 ≤ 60; omega) ⟨by decide, by decide, by omega, by omega⟩ dX9_writeSingersIn_42 rfl (Nat.le_of_ble_eq_true rfl) ?_
        rw [g1]
        refine a_pop (pc := 45) hC dX9_writeSingersIn_45 rfl ?_
        show AW f g 46 _ [] (dX, t ++ txS dX x1 e ++ [115] ++ [48 + e]) _ _
        rw [List.append_assoc, List.append_assoc]
        refine next _ ?_ _ _ (by omega) (by omega)
        show _ = txS dX x1 e ++ _
        rw [if_pos y]
  have h0 := loop c 0 (by omega)
  have e0 : t ++ txS dX x1 0 = t := List.append_nil t
  rw [e0] at h0
  exact h0
