theorem dX9_checkRoom_0 : decode cX9_checkRoom 0 = .ok (.aload_n 0, 1) := by decide +kernel
theorem dX9_checkRoom_1 : decode cX9_checkRoom 1 = .ok (.getfield 10, 3) := by decide +kernel
theorem dX9_checkRoom_4 : decode cX9_checkRoom 4 = .ok (.iload_n 1, 1) := by decide +kernel
theorem dX9_checkRoom_5 : decode cX9_checkRoom 5 = .ok (.invokevirtual 393, 3) := by decide +kernel
theorem dX9_checkRoom_8 : decode cX9_checkRoom 8 = .ok (.ifCond .ne 14, 3) := by decide +kernel
theorem dX9_checkRoom_11 : decode cX9_checkRoom 11 = .ok (.new 345, 3) := by decide +kernel
theorem dX9_checkRoom_14 : decode cX9_checkRoom 14 = .ok (.dup, 1) := by decide +kernel
theorem dX9_checkRoom_15 : decode cX9_checkRoom 15 = .ok (.ldc_w 396, 3) := by decide +kernel
theorem dX9_checkRoom_18 : decode cX9_checkRoom 18 = .ok (.invokespecial 349, 3) := by decide +kernel
theorem dX9_checkRoom_21 : decode cX9_checkRoom 21 = .ok (.athrow, 1) := by decide +kernel
theorem dX9_checkRoom_22 : decode cX9_checkRoom 22 = .ok (.return_, 1) := by decide +kernel
theorem vm_X9_checkRoom : aVm yX9_checkRoom RX9 cX9_checkRoom 2 none 1 := ⟨tw_469, tw_468, List.mem_append_left _ (List.mem_of_getElem? (i := 1) (by decide +kernel)), tw_1, rfl, by decide +kernel, by decide +kernel, by decide +kernel⟩
theorem dX9_checkEcho_0 : decode cX9_checkEcho 0 = .ok (.aload_n 0, 1) := by decide +kernel
theorem dX9_checkEcho_1 : decode cX9_checkEcho 1 = .ok (.getfield 10, 3) := by decide +kernel
theorem dX9_checkEcho_4 : decode cX9_checkEcho 4 = .ok (.iload_n 1, 1) := by decide +kernel
theorem dX9_checkEcho_5 : decode cX9_checkEcho 5 = .ok (.invokevirtual 398, 3) := by decide +kernel
theorem dX9_checkEcho_8 : decode cX9_checkEcho 8 = .ok (.ifCond .ne 14, 3) := by decide +kernel
theorem dX9_checkEcho_11 : decode cX9_checkEcho 11 = .ok (.new 345, 3) := by decide +kernel
theorem dX9_checkEcho_14 : decode cX9_checkEcho 14 = .ok (.dup, 1) := by decide +kernel
theorem dX9_checkEcho_15 : decode cX9_checkEcho 15 = .ok (.ldc_w 401, 3) := by decide +kernel
theorem dX9_checkEcho_18 : decode cX9_checkEcho 18 = .ok (.invokespecial 349, 3) := by decide +kernel
theorem dX9_checkEcho_21 : decode cX9_checkEcho 21 = .ok (.athrow, 1) := by decide +kernel
theorem dX9_checkEcho_22 : decode cX9_checkEcho 22 = .ok (.return_, 1) := by decide +kernel
theorem vm_X9_checkEcho : aVm yX9_checkEcho RX9 cX9_checkEcho 2 none 1 := ⟨tw_517, tw_516, List.mem_append_left _ (List.mem_of_getElem? (i := 2) (by decide +kernel)), tw_1, rfl, by decide +kernel, by decide +kernel, by decide +kernel⟩
theorem dX9_checkSinger_0 : decode cX9_checkSinger 0 = .ok (.aload_n 0, 1) := by decide +kernel
theorem dX9_checkSinger_1 : decode cX9_checkSinger 1 = .ok (.getfield 10, 3) := by decide +kernel
theorem dX9_checkSinger_4 : decode cX9_checkSinger 4 = .ok (.iload_n 1, 1) := by decide +kernel
theorem dX9_checkSinger_5 : decode cX9_checkSinger 5 = .ok (.invokevirtual 403, 3) := by decide +kernel
theorem dX9_checkSinger_8 : decode cX9_checkSinger 8 = .ok (.ifCond .ne 14, 3) := by decide +kernel
theorem dX9_checkSinger_11 : decode cX9_checkSinger 11 = .ok (.new 345, 3) := by decide +kernel
theorem dX9_checkSinger_14 : decode cX9_checkSinger 14 = .ok (.dup, 1) := by decide +kernel
theorem dX9_checkSinger_15 : decode cX9_checkSinger 15 = .ok (.ldc_w 406, 3) := by decide +kernel
theorem dX9_checkSinger_18 : decode cX9_checkSinger 18 = .ok (.invokespecial 349, 3) := by decide +kernel
theorem dX9_checkSinger_21 : decode cX9_checkSinger 21 = .ok (.athrow, 1) := by decide +kernel
theorem dX9_checkSinger_22 : decode cX9_checkSinger 22 = .ok (.return_, 1) := by decide +kernel
theorem vm_X9_checkSinger : aVm yX9_checkSinger RX9 cX9_checkSinger 2 none 1 := ⟨tw_531, tw_530, List.mem_append_left _ (List.mem_of_getElem? (i := 3) (by decide +kernel)), tw_1, rfl, by decide +kernel, by decide +kernel, by decide +kernel⟩
theorem dX9_checkSingerInside_0 : decode cX9_checkSingerInside 0 = .ok (.aload_n 0, 1) := by decide +kernel
theorem dX9_checkSingerInside_1 : decode cX9_checkSingerInside 1 = .ok (.iload_n 1, 1) := by decide +kernel
theorem dX9_checkSingerInside_2 : decode cX9_checkSingerInside 2 = .ok (.invokevirtual 158, 3) := by decide +kernel
theorem dX9_checkSingerInside_5 : decode cX9_checkSingerInside 5 = .ok (.aload_n 0, 1) := by decide +kernel
theorem dX9_checkSingerInside_6 : decode cX9_checkSingerInside 6 = .ok (.getfield 10, 3) := by decide +kernel
theorem dX9_checkSingerInside_9 : decode cX9_checkSingerInside 9 = .ok (.iload_n 1, 1) := by decide +kernel
theorem dX9_checkSingerInside_10 : decode cX9_checkSingerInside 10 = .ok (.invokevirtual 250, 3) := by decide +kernel
theorem dX9_checkSingerInside_13 : decode cX9_checkSingerInside 13 = .ok (.ifCond .ne 14, 3) := by decide +kernel
theorem dX9_checkSingerInside_16 : decode cX9_checkSingerInside 16 = .ok (.new 204, 3) := by decide +kernel
theorem dX9_checkSingerInside_19 : decode cX9_checkSingerInside 19 = .ok (.dup, 1) := by decide +kernel
theorem dX9_checkSingerInside_20 : decode cX9_checkSingerInside 20 = .ok (.ldc_w 408, 3) := by decide +kernel
theorem dX9_checkSingerInside_23 : decode cX9_checkSingerInside 23 = .ok (.invokespecial 208, 3) := by decide +kernel
theorem dX9_checkSingerInside_26 : decode cX9_checkSingerInside 26 = .ok (.athrow, 1) := by decide +kernel
theorem dX9_checkSingerInside_27 : decode cX9_checkSingerInside 27 = .ok (.return_, 1) := by decide +kernel
theorem vm_X9_checkSingerInside : aVm yX9_checkSingerInside RX9 cX9_checkSingerInside 2 none 1 := ⟨tw_547, tw_546, List.mem_append_left _ (List.mem_of_getElem? (i := 4) (by decide +kernel)), tw_1, rfl, by decide +kernel, by decide +kernel, by decide +kernel⟩
theorem dX9_isRoomRefused_0 : decode cX9_isRoomRefused 0 = .ok (.iload_n 1, 1) := by decide +kernel
theorem dX9_isRoomRefused_1 : decode cX9_isRoomRefused 1 = .ok (.iconst 1, 1) := by decide +kernel
theorem dX9_isRoomRefused_2 : decode cX9_isRoomRefused 2 = .ok (.if_icmp .lt 9, 3) := by decide +kernel
theorem dX9_isRoomRefused_5 : decode cX9_isRoomRefused 5 = .ok (.iload_n 1, 1) := by decide +kernel
theorem dX9_isRoomRefused_6 : decode cX9_isRoomRefused 6 = .ok (.bipush 9, 2) := by decide +kernel
theorem dX9_isRoomRefused_8 : decode cX9_isRoomRefused 8 = .ok (.if_icmp .le 13, 3) := by decide +kernel
theorem dX9_isRoomRefused_11 : decode cX9_isRoomRefused 11 = .ok (.aload_n 0, 1) := by decide +kernel
theorem dX9_isRoomRefused_12 : decode cX9_isRoomRefused 12 = .ok (.getfield 39, 3) := by decide +kernel
theorem dX9_isRoomRefused_15 : decode cX9_isRoomRefused 15 = .ok (.iconst 3, 1) := by decide +kernel
theorem dX9_isRoomRefused_16 : decode cX9_isRoomRefused 16 = .ok (.iload_n 1, 1) := by decide +kernel
theorem dX9_isRoomRefused_17 : decode cX9_isRoomRefused 17 = .ok (.invokevirtual 495, 3) := by decide +kernel
theorem dX9_isRoomRefused_20 : decode cX9_isRoomRefused 20 = .ok (.ireturn, 1) := by decide +kernel
theorem dX9_isRoomRefused_21 : decode cX9_isRoomRefused 21 = .ok (.aload_n 0, 1) := by decide +kernel
theorem dX9_isRoomRefused_22 : decode cX9_isRoomRefused 22 = .ok (.getfield 10, 3) := by decide +kernel
theorem dX9_isRoomRefused_25 : decode cX9_isRoomRefused 25 = .ok (.getfield 96, 3) := by decide +kernel
theorem dX9_isRoomRefused_28 : decode cX9_isRoomRefused 28 = .ok (.getfield 200, 3) := by decide +kernel
theorem dX9_isRoomRefused_31 : decode cX9_isRoomRefused 31 = .ok (.bipush 6, 2) := by decide +kernel
theorem dX9_isRoomRefused_33 : decode cX9_isRoomRefused 33 = .ok (.if_icmp .lt 14, 3) := by decide +kernel
theorem dX9_isRoomRefused_36 : decode cX9_isRoomRefused 36 = .ok (.aload_n 0, 1) := by decide +kernel
theorem dX9_isRoomRefused_37 : decode cX9_isRoomRefused 37 = .ok (.getfield 39, 3) := by decide +kernel
theorem dX9_isRoomRefused_40 : decode cX9_isRoomRefused 40 = .ok (.iconst 1, 1) := by decide +kernel
theorem dX9_isRoomRefused_41 : decode cX9_isRoomRefused 41 = .ok (.bipush 6, 2) := by decide +kernel
theorem dX9_isRoomRefused_43 : decode cX9_isRoomRefused 43 = .ok (.invokevirtual 495, 3) := by decide +kernel
theorem dX9_isRoomRefused_46 : decode cX9_isRoomRefused 46 = .ok (.ireturn, 1) := by decide +kernel
theorem dX9_isRoomRefused_47 : decode cX9_isRoomRefused 47 = .ok (.iconst 0, 1) := by decide +kernel
theorem dX9_isRoomRefused_48 : decode cX9_isRoomRefused 48 = .ok (.ireturn, 1) := by decide +kernel
theorem vm_X9_isRoomRefused : aVm yX9_isRoomRefused RX9 cX9_isRoomRefused 2 (some .boolean) 1 := ⟨tw_704, tw_703, List.mem_append_left _ (List.mem_of_getElem? (i := 13) (by decide +kernel)), tw_1, rfl, by decide +kernel, by decide +kernel, by decide +kernel⟩
theorem dX9_isEchoRefused_0 : decode cX9_isEchoRefused 0 = .ok (.aload_n 0, 1) := by decide +kernel
theorem dX9_isEchoRefused_1 : decode cX9_isEchoRefused 1 = .ok (.getfield 10, 3) := by decide +kernel
theorem dX9_isEchoRefused_4 : decode cX9_isEchoRefused 4 = .ok (.iload_n 1, 1) := by decide +kernel
theorem dX9_isEchoRefused_5 : decode cX9_isEchoRefused 5 = .ok (.invokevirtual 393, 3) := by decide +kernel
theorem dX9_isEchoRefused_8 : decode cX9_isEchoRefused 8 = .ok (.ifCond .ne 13, 3) := by decide +kernel
theorem dX9_isEchoRefused_11 : decode cX9_isEchoRefused 11 = .ok (.aload_n 0, 1) := by decide +kernel
theorem dX9_isEchoRefused_12 : decode cX9_isEchoRefused 12 = .ok (.getfield 39, 3) := by decide +kernel
theorem dX9_isEchoRefused_15 : decode cX9_isEchoRefused 15 = .ok (.iconst 2, 1) := by decide +kernel
theorem dX9_isEchoRefused_16 : decode cX9_isEchoRefused 16 = .ok (.iload_n 1, 1) := by decide +kernel
theorem dX9_isEchoRefused_17 : decode cX9_isEchoRefused 17 = .ok (.invokevirtual 495, 3) := by decide +kernel
theorem dX9_isEchoRefused_20 : decode cX9_isEchoRefused 20 = .ok (.ireturn, 1) := by decide +kernel
theorem dX9_isEchoRefused_21 : decode cX9_isEchoRefused 21 = .ok (.iload_n 2, 1) := by decide +kernel
theorem dX9_isEchoRefused_22 : decode cX9_isEchoRefused 22 = .ok (.iconst 1, 1) := by decide +kernel
theorem dX9_isEchoRefused_23 : decode cX9_isEchoRefused 23 = .ok (.if_icmp .lt 9, 3) := by decide +kernel
theorem dX9_isEchoRefused_26 : decode cX9_isEchoRefused 26 = .ok (.iload_n 2, 1) := by decide +kernel
theorem dX9_isEchoRefused_27 : decode cX9_isEchoRefused 27 = .ok (.bipush 9, 2) := by decide +kernel
theorem dX9_isEchoRefused_29 : decode cX9_isEchoRefused 29 = .ok (.if_icmp .le 13, 3) := by decide +kernel
theorem dX9_isEchoRefused_32 : decode cX9_isEchoRefused 32 = .ok (.aload_n 0, 1) := by decide +kernel
theorem dX9_isEchoRefused_33 : decode cX9_isEchoRefused 33 = .ok (.getfield 39, 3) := by decide +kernel
theorem dX9_isEchoRefused_36 : decode cX9_isEchoRefused 36 = .ok (.iconst 3, 1) := by decide +kernel
theorem dX9_isEchoRefused_37 : decode cX9_isEchoRefused 37 = .ok (.iload_n 2, 1) := by decide +kernel
theorem dX9_isEchoRefused_38 : decode cX9_isEchoRefused 38 = .ok (.invokevirtual 495, 3) := by decide +kernel
theorem dX9_isEchoRefused_41 : decode cX9_isEchoRefused 41 = .ok (.ireturn, 1) := by decide +kernel
theorem dX9_isEchoRefused_42 : decode cX9_isEchoRefused 42 = .ok (.aload_n 0, 1) := by decide +kernel
theorem dX9_isEchoRefused_43 : decode cX9_isEchoRefused 43 = .ok (.getfield 10, 3) := by decide +kernel
theorem dX9_isEchoRefused_46 : decode cX9_isEchoRefused 46 = .ok (.getfield 137, 3) := by decide +kernel
theorem dX9_isEchoRefused_49 : decode cX9_isEchoRefused 49 = .ok (.getfield 244, 3) := by decide +kernel
theorem dX9_isEchoRefused_52 : decode cX9_isEchoRefused 52 = .ok (.bipush 8, 2) := by decide +kernel
theorem dX9_isEchoRefused_54 : decode cX9_isEchoRefused 54 = .ok (.if_icmp .lt 14, 3) := by decide +kernel
theorem dX9_isEchoRefused_57 : decode cX9_isEchoRefused 57 = .ok (.aload_n 0, 1) := by decide +kernel
theorem dX9_isEchoRefused_58 : decode cX9_isEchoRefused 58 = .ok (.getfield 39, 3) := by decide +kernel
theorem dX9_isEchoRefused_61 : decode cX9_isEchoRefused 61 = .ok (.iconst 1, 1) := by decide +kernel
theorem dX9_isEchoRefused_62 : decode cX9_isEchoRefused 62 = .ok (.bipush 8, 2) := by decide +kernel
theorem dX9_isEchoRefused_64 : decode cX9_isEchoRefused 64 = .ok (.invokevirtual 495, 3) := by decide +kernel
theorem dX9_isEchoRefused_67 : decode cX9_isEchoRefused 67 = .ok (.ireturn, 1) := by decide +kernel
theorem dX9_isEchoRefused_68 : decode cX9_isEchoRefused 68 = .ok (.iconst 0, 1) := by decide +kernel
theorem dX9_isEchoRefused_69 : decode cX9_isEchoRefused 69 = .ok (.ireturn, 1) := by decide +kernel
theorem vm_X9_isEchoRefused : aVm yX9_isEchoRefused RX9 cX9_isEchoRefused 3 (some .boolean) 2 := ⟨tw_712, tw_711, List.mem_append_left _ (List.mem_of_getElem? (i := 14) (by decide +kernel)), tw_1, rfl, by decide +kernel, by decide +kernel, by decide +kernel⟩
theorem dX9_isSingerRefused_0 : decode cX9_isSingerRefused 0 = .ok (.iload_n 1, 1) := by decide +kernel
theorem dX9_isSingerRefused_1 : decode cX9_isSingerRefused 1 = .ok (.ifCond .lt 9, 3) := by decide +kernel
theorem dX9_isSingerRefused_4 : decode cX9_isSingerRefused 4 = .ok (.iload_n 1, 1) := by decide +kernel
theorem dX9_isSingerRefused_5 : decode cX9_isSingerRefused 5 = .ok (.bipush 9, 2) := by decide +kernel
theorem dX9_isSingerRefused_7 : decode cX9_isSingerRefused 7 = .ok (.if_icmp .le 13, 3) := by decide +kernel
theorem dX9_isSingerRefused_10 : decode cX9_isSingerRefused 10 = .ok (.aload_n 0, 1) := by decide +kernel
theorem dX9_isSingerRefused_11 : decode cX9_isSingerRefused 11 = .ok (.getfield 39, 3) := by decide +kernel
theorem dX9_isSingerRefused_14 : decode cX9_isSingerRefused 14 = .ok (.iconst 3, 1) := by decide +kernel
theorem dX9_isSingerRefused_15 : decode cX9_isSingerRefused 15 = .ok (.iload_n 1, 1) := by decide +kernel
theorem dX9_isSingerRefused_16 : decode cX9_isSingerRefused 16 = .ok (.invokevirtual 495, 3) := by decide +kernel
theorem dX9_isSingerRefused_19 : decode cX9_isSingerRefused 19 = .ok (.ireturn, 1) := by decide +kernel
theorem dX9_isSingerRefused_20 : decode cX9_isSingerRefused 20 = .ok (.iload_n 2, 1) := by decide +kernel
theorem dX9_isSingerRefused_21 : decode cX9_isSingerRefused 21 = .ok (.ifCond .lt 9, 3) := by decide +kernel
theorem dX9_isSingerRefused_24 : decode cX9_isSingerRefused 24 = .ok (.iload_n 2, 1) := by decide +kernel
theorem dX9_isSingerRefused_25 : decode cX9_isSingerRefused 25 = .ok (.bipush 99, 2) := by decide +kernel
theorem dX9_isSingerRefused_27 : decode cX9_isSingerRefused 27 = .ok (.if_icmp .le 13, 3) := by decide +kernel
theorem dX9_isSingerRefused_30 : decode cX9_isSingerRefused 30 = .ok (.aload_n 0, 1) := by decide +kernel
theorem dX9_isSingerRefused_31 : decode cX9_isSingerRefused 31 = .ok (.getfield 39, 3) := by decide +kernel
theorem dX9_isSingerRefused_34 : decode cX9_isSingerRefused 34 = .ok (.iconst 3, 1) := by decide +kernel
theorem dX9_isSingerRefused_35 : decode cX9_isSingerRefused 35 = .ok (.iload_n 2, 1) := by decide +kernel
theorem dX9_isSingerRefused_36 : decode cX9_isSingerRefused 36 = .ok (.invokevirtual 495, 3) := by decide +kernel
theorem dX9_isSingerRefused_39 : decode cX9_isSingerRefused 39 = .ok (.ireturn, 1) := by decide +kernel
theorem dX9_isSingerRefused_40 : decode cX9_isSingerRefused 40 = .ok (.aload_n 0, 1) := by decide +kernel
theorem dX9_isSingerRefused_41 : decode cX9_isSingerRefused 41 = .ok (.getfield 10, 3) := by decide +kernel
theorem dX9_isSingerRefused_44 : decode cX9_isSingerRefused 44 = .ok (.getfield 161, 3) := by decide +kernel
theorem dX9_isSingerRefused_47 : decode cX9_isSingerRefused 47 = .ok (.getfield 238, 3) := by decide +kernel
theorem dX9_isSingerRefused_50 : decode cX9_isSingerRefused 50 = .ok (.bipush 6, 2) := by decide +kernel
theorem dX9_isSingerRefused_52 : decode cX9_isSingerRefused 52 = .ok (.if_icmp .lt 14, 3) := by decide +kernel
theorem dX9_isSingerRefused_55 : decode cX9_isSingerRefused 55 = .ok (.aload_n 0, 1) := by decide +kernel
theorem dX9_isSingerRefused_56 : decode cX9_isSingerRefused 56 = .ok (.getfield 39, 3) := by decide +kernel
theorem dX9_isSingerRefused_59 : decode cX9_isSingerRefused 59 = .ok (.iconst 1, 1) := by decide +kernel
theorem dX9_isSingerRefused_60 : decode cX9_isSingerRefused 60 = .ok (.bipush 6, 2) := by decide +kernel
theorem dX9_isSingerRefused_62 : decode cX9_isSingerRefused 62 = .ok (.invokevirtual 495, 3) := by decide +kernel
theorem dX9_isSingerRefused_65 : decode cX9_isSingerRefused 65 = .ok (.ireturn, 1) := by decide +kernel
theorem dX9_isSingerRefused_66 : decode cX9_isSingerRefused 66 = .ok (.iconst 0, 1) := by decide +kernel
theorem dX9_isSingerRefused_67 : decode cX9_isSingerRefused 67 = .ok (.ireturn, 1) := by decide +kernel
theorem vm_X9_isSingerRefused : aVm yX9_isSingerRefused RX9 cX9_isSingerRefused 3 (some .boolean) 2 := ⟨tw_716, tw_715, List.mem_append_left _ (List.mem_of_getElem? (i := 15) (by decide +kernel)), tw_1, rfl, by decide +kernel, by decide +kernel, by decide +kernel⟩
theorem dX9_isEnteringRefused_0 : decode cX9_isEnteringRefused 0 = .ok (.aload_n 0, 1) := by decide +kernel
theorem dX9_isEnteringRefused_1 : decode cX9_isEnteringRefused 1 = .ok (.getfield 10, 3) := by decide +kernel
theorem dX9_isEnteringRefused_4 : decode cX9_isEnteringRefused 4 = .ok (.iload_n 1, 1) := by decide +kernel
theorem dX9_isEnteringRefused_5 : decode cX9_isEnteringRefused 5 = .ok (.invokevirtual 403, 3) := by decide +kernel
theorem dX9_isEnteringRefused_8 : decode cX9_isEnteringRefused 8 = .ok (.ifCond .ne 13, 3) := by decide +kernel
theorem dX9_isEnteringRefused_11 : decode cX9_isEnteringRefused 11 = .ok (.aload_n 0, 1) := by decide +kernel
theorem dX9_isEnteringRefused_12 : decode cX9_isEnteringRefused 12 = .ok (.getfield 39, 3) := by decide +kernel
theorem dX9_isEnteringRefused_15 : decode cX9_isEnteringRefused 15 = .ok (.iconst 2, 1) := by decide +kernel
theorem dX9_isEnteringRefused_16 : decode cX9_isEnteringRefused 16 = .ok (.iload_n 1, 1) := by decide +kernel
theorem dX9_isEnteringRefused_17 : decode cX9_isEnteringRefused 17 = .ok (.invokevirtual 495, 3) := by decide +kernel
theorem dX9_isEnteringRefused_20 : decode cX9_isEnteringRefused 20 = .ok (.ireturn, 1) := by decide +kernel
theorem dX9_isEnteringRefused_21 : decode cX9_isEnteringRefused 21 = .ok (.aload_n 0, 1) := by decide +kernel
theorem dX9_isEnteringRefused_22 : decode cX9_isEnteringRefused 22 = .ok (.getfield 10, 3) := by decide +kernel
theorem dX9_isEnteringRefused_25 : decode cX9_isEnteringRefused 25 = .ok (.iload_n 2, 1) := by decide +kernel
theorem dX9_isEnteringRefused_26 : decode cX9_isEnteringRefused 26 = .ok (.invokevirtual 393, 3) := by decide +kernel
theorem dX9_isEnteringRefused_29 : decode cX9_isEnteringRefused 29 = .ok (.ifCond .ne 13, 3) := by decide +kernel
theorem dX9_isEnteringRefused_32 : decode cX9_isEnteringRefused 32 = .ok (.aload_n 0, 1) := by decide +kernel
theorem dX9_isEnteringRefused_33 : decode cX9_isEnteringRefused 33 = .ok (.getfield 39, 3) := by decide +kernel
theorem dX9_isEnteringRefused_36 : decode cX9_isEnteringRefused 36 = .ok (.iconst 2, 1) := by decide +kernel
theorem dX9_isEnteringRefused_37 : decode cX9_isEnteringRefused 37 = .ok (.iload_n 2, 1) := by decide +kernel
theorem dX9_isEnteringRefused_38 : decode cX9_isEnteringRefused 38 = .ok (.invokevirtual 495, 3) := by decide +kernel
theorem dX9_isEnteringRefused_41 : decode cX9_isEnteringRefused 41 = .ok (.ireturn, 1) := by decide +kernel
theorem dX9_isEnteringRefused_42 : decode cX9_isEnteringRefused 42 = .ok (.aload_n 0, 1) := by decide +kernel
theorem dX9_isEnteringRefused_43 : decode cX9_isEnteringRefused 43 = .ok (.getfield 10, 3) := by decide +kernel
theorem dX9_isEnteringRefused_46 : decode cX9_isEnteringRefused 46 = .ok (.getfield 161, 3) := by decide +kernel
theorem dX9_isEnteringRefused_49 : decode cX9_isEnteringRefused 49 = .ok (.getfield 173, 3) := by decide +kernel
theorem dX9_isEnteringRefused_52 : decode cX9_isEnteringRefused 52 = .ok (.iload_n 1, 1) := by decide +kernel
theorem dX9_isEnteringRefused_53 : decode cX9_isEnteringRefused 53 = .ok (.iaload, 1) := by decide +kernel
theorem dX9_isEnteringRefused_54 : decode cX9_isEnteringRefused 54 = .ok (.iload_n 2, 1) := by decide +kernel
theorem dX9_isEnteringRefused_55 : decode cX9_isEnteringRefused 55 = .ok (.if_icmp .ne 13, 3) := by decide +kernel
theorem dX9_isEnteringRefused_58 : decode cX9_isEnteringRefused 58 = .ok (.aload_n 0, 1) := by decide +kernel
theorem dX9_isEnteringRefused_59 : decode cX9_isEnteringRefused 59 = .ok (.getfield 39, 3) := by decide +kernel
theorem dX9_isEnteringRefused_62 : decode cX9_isEnteringRefused 62 = .ok (.iconst 4, 1) := by decide +kernel
theorem dX9_isEnteringRefused_63 : decode cX9_isEnteringRefused 63 = .ok (.iload_n 2, 1) := by decide +kernel
theorem dX9_isEnteringRefused_64 : decode cX9_isEnteringRefused 64 = .ok (.invokevirtual 495, 3) := by decide +kernel
theorem dX9_isEnteringRefused_67 : decode cX9_isEnteringRefused 67 = .ok (.ireturn, 1) := by decide +kernel
theorem dX9_isEnteringRefused_68 : decode cX9_isEnteringRefused 68 = .ok (.aload_n 0, 1) := by decide +kernel
theorem dX9_isEnteringRefused_69 : decode cX9_isEnteringRefused 69 = .ok (.getfield 10, 3) := by decide +kernel
theorem dX9_isEnteringRefused_72 : decode cX9_isEnteringRefused 72 = .ok (.iload_n 2, 1) := by decide +kernel
theorem dX9_isEnteringRefused_73 : decode cX9_isEnteringRefused 73 = .ok (.invokevirtual 209, 3) := by decide +kernel
theorem dX9_isEnteringRefused_76 : decode cX9_isEnteringRefused 76 = .ok (.ifCond .eq 24, 3) := by decide +kernel
theorem dX9_isEnteringRefused_79 : decode cX9_isEnteringRefused 79 = .ok (.aload_n 0, 1) := by decide +kernel
theorem dX9_isEnteringRefused_80 : decode cX9_isEnteringRefused 80 = .ok (.getfield 39, 3) := by decide +kernel
theorem dX9_isEnteringRefused_83 : decode cX9_isEnteringRefused 83 = .ok (.iconst 5, 1) := by decide +kernel
theorem dX9_isEnteringRefused_84 : decode cX9_isEnteringRefused 84 = .ok (.aload_n 0, 1) := by decide +kernel
theorem dX9_isEnteringRefused_85 : decode cX9_isEnteringRefused 85 = .ok (.getfield 10, 3) := by decide +kernel
theorem dX9_isEnteringRefused_88 : decode cX9_isEnteringRefused 88 = .ok (.getfield 96, 3) := by decide +kernel
theorem dX9_isEnteringRefused_91 : decode cX9_isEnteringRefused 91 = .ok (.getfield 100, 3) := by decide +kernel
theorem dX9_isEnteringRefused_94 : decode cX9_isEnteringRefused 94 = .ok (.iload_n 2, 1) := by decide +kernel
theorem dX9_isEnteringRefused_95 : decode cX9_isEnteringRefused 95 = .ok (.iaload, 1) := by decide +kernel
theorem dX9_isEnteringRefused_96 : decode cX9_isEnteringRefused 96 = .ok (.invokevirtual 495, 3) := by decide +kernel
theorem dX9_isEnteringRefused_99 : decode cX9_isEnteringRefused 99 = .ok (.ireturn, 1) := by decide +kernel
theorem dX9_isEnteringRefused_100 : decode cX9_isEnteringRefused 100 = .ok (.aload_n 0, 1) := by decide +kernel
theorem dX9_isEnteringRefused_101 : decode cX9_isEnteringRefused 101 = .ok (.getfield 10, 3) := by decide +kernel
theorem dX9_isEnteringRefused_104 : decode cX9_isEnteringRefused 104 = .ok (.iload_n 1, 1) := by decide +kernel
theorem dX9_isEnteringRefused_105 : decode cX9_isEnteringRefused 105 = .ok (.iload_n 2, 1) := by decide +kernel
theorem dX9_isEnteringRefused_106 : decode cX9_isEnteringRefused 106 = .ok (.invokevirtual 213, 3) := by decide +kernel
theorem dX9_isEnteringRefused_109 : decode cX9_isEnteringRefused 109 = .ok (.ifCond .eq 24, 3) := by decide +kernel
theorem dX9_isEnteringRefused_112 : decode cX9_isEnteringRefused 112 = .ok (.aload_n 0, 1) := by decide +kernel
theorem dX9_isEnteringRefused_113 : decode cX9_isEnteringRefused 113 = .ok (.getfield 39, 3) := by decide +kernel
theorem dX9_isEnteringRefused_116 : decode cX9_isEnteringRefused 116 = .ok (.bipush 6, 2) := by decide +kernel
theorem dX9_isEnteringRefused_118 : decode cX9_isEnteringRefused 118 = .ok (.aload_n 0, 1) := by decide +kernel
theorem dX9_isEnteringRefused_119 : decode cX9_isEnteringRefused 119 = .ok (.getfield 10, 3) := by decide +kernel
theorem dX9_isEnteringRefused_122 : decode cX9_isEnteringRefused 122 = .ok (.iload_n 2, 1) := by decide +kernel
theorem dX9_isEnteringRefused_123 : decode cX9_isEnteringRefused 123 = .ok (.invokevirtual 109, 3) := by decide +kernel
theorem dX9_isEnteringRefused_126 : decode cX9_isEnteringRefused 126 = .ok (.invokestatic 113, 3) := by decide +kernel
theorem dX9_isEnteringRefused_129 : decode cX9_isEnteringRefused 129 = .ok (.invokevirtual 495, 3) := by decide +kernel
theorem dX9_isEnteringRefused_132 : decode cX9_isEnteringRefused 132 = .ok (.ireturn, 1) := by decide +kernel
theorem dX9_isEnteringRefused_133 : decode cX9_isEnteringRefused 133 = .ok (.iconst 0, 1) := by decide +kernel
theorem dX9_isEnteringRefused_134 : decode cX9_isEnteringRefused 134 = .ok (.ireturn, 1) := by decide +kernel
theorem vm_X9_isEnteringRefused : aVm yX9_isEnteringRefused RX9 cX9_isEnteringRefused 3 (some .boolean) 2 := ⟨tw_720, tw_719, List.mem_append_left _ (List.mem_of_getElem? (i := 16) (by decide +kernel)), tw_1, rfl, by decide +kernel, by decide +kernel, by decide +kernel⟩
theorem dX9_isGoingOutRefused_0 : decode cX9_isGoingOutRefused 0 = .ok (.aload_n 0, 1) := by decide +kernel
theorem dX9_isGoingOutRefused_1 : decode cX9_isGoingOutRefused 1 = .ok (.getfield 10, 3) := by decide +kernel
theorem dX9_isGoingOutRefused_4 : decode cX9_isGoingOutRefused 4 = .ok (.iload_n 1, 1) := by decide +kernel
theorem dX9_isGoingOutRefused_5 : decode cX9_isGoingOutRefused 5 = .ok (.invokevirtual 403, 3) := by decide +kernel
theorem dX9_isGoingOutRefused_8 : decode cX9_isGoingOutRefused 8 = .ok (.ifCond .ne 13, 3) := by decide +kernel
theorem dX9_isGoingOutRefused_11 : decode cX9_isGoingOutRefused 11 = .ok (.aload_n 0, 1) := by decide +kernel
theorem dX9_isGoingOutRefused_12 : decode cX9_isGoingOutRefused 12 = .ok (.getfield 39, 3) := by decide +kernel
theorem dX9_isGoingOutRefused_15 : decode cX9_isGoingOutRefused 15 = .ok (.iconst 2, 1) := by decide +kernel
theorem dX9_isGoingOutRefused_16 : decode cX9_isGoingOutRefused 16 = .ok (.iload_n 1, 1) := by decide +kernel
theorem dX9_isGoingOutRefused_17 : decode cX9_isGoingOutRefused 17 = .ok (.invokevirtual 495, 3) := by decide +kernel
theorem dX9_isGoingOutRefused_20 : decode cX9_isGoingOutRefused 20 = .ok (.ireturn, 1) := by decide +kernel
theorem dX9_isGoingOutRefused_21 : decode cX9_isGoingOutRefused 21 = .ok (.aload_n 0, 1) := by decide +kernel
theorem dX9_isGoingOutRefused_22 : decode cX9_isGoingOutRefused 22 = .ok (.getfield 10, 3) := by decide +kernel
theorem dX9_isGoingOutRefused_25 : decode cX9_isGoingOutRefused 25 = .ok (.iload_n 1, 1) := by decide +kernel
theorem dX9_isGoingOutRefused_26 : decode cX9_isGoingOutRefused 26 = .ok (.invokevirtual 250, 3) := by decide +kernel
theorem dX9_isGoingOutRefused_29 : decode cX9_isGoingOutRefused 29 = .ok (.ifCond .ne 14, 3) := by decide +kernel
theorem dX9_isGoingOutRefused_32 : decode cX9_isGoingOutRefused 32 = .ok (.aload_n 0, 1) := by decide +kernel
theorem dX9_isGoingOutRefused_33 : decode cX9_isGoingOutRefused 33 = .ok (.getfield 39, 3) := by decide +kernel
theorem dX9_isGoingOutRefused_36 : decode cX9_isGoingOutRefused 36 = .ok (.bipush 10, 2) := by decide +kernel
theorem dX9_isGoingOutRefused_38 : decode cX9_isGoingOutRefused 38 = .ok (.iload_n 1, 1) := by decide +kernel
theorem dX9_isGoingOutRefused_39 : decode cX9_isGoingOutRefused 39 = .ok (.invokevirtual 495, 3) := by decide +kernel
theorem dX9_isGoingOutRefused_42 : decode cX9_isGoingOutRefused 42 = .ok (.ireturn, 1) := by decide +kernel
theorem dX9_isGoingOutRefused_43 : decode cX9_isGoingOutRefused 43 = .ok (.iconst 0, 1) := by decide +kernel
theorem dX9_isGoingOutRefused_44 : decode cX9_isGoingOutRefused 44 = .ok (.ireturn, 1) := by decide +kernel
theorem vm_X9_isGoingOutRefused : aVm yX9_isGoingOutRefused RX9 cX9_isGoingOutRefused 2 (some .boolean) 1 := ⟨tw_734, tw_733, List.mem_append_left _ (List.mem_of_getElem? (i := 17) (by decide +kernel)), tw_1, rfl, by decide +kernel, by decide +kernel, by decide +kernel⟩
theorem dX9_isCarryingRefused_0 : decode cX9_isCarryingRefused 0 = .ok (.aload_n 0, 1) := by decide +kernel
theorem dX9_isCarryingRefused_1 : decode cX9_isCarryingRefused 1 = .ok (.getfield 10, 3) := by decide +kernel
theorem dX9_isCarryingRefused_4 : decode cX9_isCarryingRefused 4 = .ok (.iload_n 1, 1) := by decide +kernel
theorem dX9_isCarryingRefused_5 : decode cX9_isCarryingRefused 5 = .ok (.invokevirtual 398, 3) := by decide +kernel
theorem dX9_isCarryingRefused_8 : decode cX9_isCarryingRefused 8 = .ok (.ifCond .ne 13, 3) := by decide +kernel
theorem dX9_isCarryingRefused_11 : decode cX9_isCarryingRefused 11 = .ok (.aload_n 0, 1) := by decide +kernel
theorem dX9_isCarryingRefused_12 : decode cX9_isCarryingRefused 12 = .ok (.getfield 39, 3) := by decide +kernel
theorem dX9_isCarryingRefused_15 : decode cX9_isCarryingRefused 15 = .ok (.iconst 2, 1) := by decide +kernel
theorem dX9_isCarryingRefused_16 : decode cX9_isCarryingRefused 16 = .ok (.iload_n 1, 1) := by decide +kernel
theorem dX9_isCarryingRefused_17 : decode cX9_isCarryingRefused 17 = .ok (.invokevirtual 495, 3) := by decide +kernel
theorem dX9_isCarryingRefused_20 : decode cX9_isCarryingRefused 20 = .ok (.ireturn, 1) := by decide +kernel
theorem dX9_isCarryingRefused_21 : decode cX9_isCarryingRefused 21 = .ok (.aload_n 0, 1) := by decide +kernel
theorem dX9_isCarryingRefused_22 : decode cX9_isCarryingRefused 22 = .ok (.getfield 10, 3) := by decide +kernel
theorem dX9_isCarryingRefused_25 : decode cX9_isCarryingRefused 25 = .ok (.iload_n 2, 1) := by decide +kernel
theorem dX9_isCarryingRefused_26 : decode cX9_isCarryingRefused 26 = .ok (.invokevirtual 393, 3) := by decide +kernel
theorem dX9_isCarryingRefused_29 : decode cX9_isCarryingRefused 29 = .ok (.ifCond .ne 13, 3) := by decide +kernel
theorem dX9_isCarryingRefused_32 : decode cX9_isCarryingRefused 32 = .ok (.aload_n 0, 1) := by decide +kernel
theorem dX9_isCarryingRefused_33 : decode cX9_isCarryingRefused 33 = .ok (.getfield 39, 3) := by decide +kernel
theorem dX9_isCarryingRefused_36 : decode cX9_isCarryingRefused 36 = .ok (.iconst 2, 1) := by decide +kernel
theorem dX9_isCarryingRefused_37 : decode cX9_isCarryingRefused 37 = .ok (.iload_n 2, 1) := by decide +kernel
theorem dX9_isCarryingRefused_38 : decode cX9_isCarryingRefused 38 = .ok (.invokevirtual 495, 3) := by decide +kernel
theorem dX9_isCarryingRefused_41 : decode cX9_isCarryingRefused 41 = .ok (.ireturn, 1) := by decide +kernel
theorem dX9_isCarryingRefused_42 : decode cX9_isCarryingRefused 42 = .ok (.aload_n 0, 1) := by decide +kernel
theorem dX9_isCarryingRefused_43 : decode cX9_isCarryingRefused 43 = .ok (.getfield 10, 3) := by decide +kernel
theorem dX9_isCarryingRefused_46 : decode cX9_isCarryingRefused 46 = .ok (.getfield 137, 3) := by decide +kernel
theorem dX9_isCarryingRefused_49 : decode cX9_isCarryingRefused 49 = .ok (.getfield 141, 3) := by decide +kernel
theorem dX9_isCarryingRefused_52 : decode cX9_isCarryingRefused 52 = .ok (.iload_n 1, 1) := by decide +kernel
theorem dX9_isCarryingRefused_53 : decode cX9_isCarryingRefused 53 = .ok (.iaload, 1) := by decide +kernel
theorem dX9_isCarryingRefused_54 : decode cX9_isCarryingRefused 54 = .ok (.iload_n 2, 1) := by decide +kernel
theorem dX9_isCarryingRefused_55 : decode cX9_isCarryingRefused 55 = .ok (.if_icmp .ne 13, 3) := by decide +kernel
theorem dX9_isCarryingRefused_58 : decode cX9_isCarryingRefused 58 = .ok (.aload_n 0, 1) := by decide +kernel
theorem dX9_isCarryingRefused_59 : decode cX9_isCarryingRefused 59 = .ok (.getfield 39, 3) := by decide +kernel
theorem dX9_isCarryingRefused_62 : decode cX9_isCarryingRefused 62 = .ok (.iconst 4, 1) := by decide +kernel
theorem dX9_isCarryingRefused_63 : decode cX9_isCarryingRefused 63 = .ok (.iload_n 2, 1) := by decide +kernel
theorem dX9_isCarryingRefused_64 : decode cX9_isCarryingRefused 64 = .ok (.invokevirtual 495, 3) := by decide +kernel
theorem dX9_isCarryingRefused_67 : decode cX9_isCarryingRefused 67 = .ok (.ireturn, 1) := by decide +kernel
theorem dX9_isCarryingRefused_68 : decode cX9_isCarryingRefused 68 = .ok (.aload_n 0, 1) := by decide +kernel
theorem dX9_isCarryingRefused_69 : decode cX9_isCarryingRefused 69 = .ok (.getfield 10, 3) := by decide +kernel
theorem dX9_isCarryingRefused_72 : decode cX9_isCarryingRefused 72 = .ok (.iload_n 1, 1) := by decide +kernel
theorem dX9_isCarryingRefused_73 : decode cX9_isCarryingRefused 73 = .ok (.invokevirtual 217, 3) := by decide +kernel
theorem dX9_isCarryingRefused_76 : decode cX9_isCarryingRefused 76 = .ok (.ifCond .eq 25, 3) := by decide +kernel
theorem dX9_isCarryingRefused_79 : decode cX9_isCarryingRefused 79 = .ok (.aload_n 0, 1) := by decide +kernel
theorem dX9_isCarryingRefused_80 : decode cX9_isCarryingRefused 80 = .ok (.getfield 39, 3) := by decide +kernel
theorem dX9_isCarryingRefused_83 : decode cX9_isCarryingRefused 83 = .ok (.bipush 7, 2) := by decide +kernel
theorem dX9_isCarryingRefused_85 : decode cX9_isCarryingRefused 85 = .ok (.aload_n 0, 1) := by decide +kernel
theorem dX9_isCarryingRefused_86 : decode cX9_isCarryingRefused 86 = .ok (.getfield 10, 3) := by decide +kernel
theorem dX9_isCarryingRefused_89 : decode cX9_isCarryingRefused 89 = .ok (.getfield 137, 3) := by decide +kernel
theorem dX9_isCarryingRefused_92 : decode cX9_isCarryingRefused 92 = .ok (.getfield 149, 3) := by decide +kernel
theorem dX9_isCarryingRefused_95 : decode cX9_isCarryingRefused 95 = .ok (.iload_n 1, 1) := by decide +kernel
theorem dX9_isCarryingRefused_96 : decode cX9_isCarryingRefused 96 = .ok (.iaload, 1) := by decide +kernel
theorem dX9_isCarryingRefused_97 : decode cX9_isCarryingRefused 97 = .ok (.invokevirtual 495, 3) := by decide +kernel
theorem dX9_isCarryingRefused_100 : decode cX9_isCarryingRefused 100 = .ok (.ireturn, 1) := by decide +kernel
theorem dX9_isCarryingRefused_101 : decode cX9_isCarryingRefused 101 = .ok (.iconst 0, 1) := by decide +kernel
theorem dX9_isCarryingRefused_102 : decode cX9_isCarryingRefused 102 = .ok (.ireturn, 1) := by decide +kernel
theorem vm_X9_isCarryingRefused : aVm yX9_isCarryingRefused RX9 cX9_isCarryingRefused 3 (some .boolean) 2 := ⟨tw_738, tw_737, List.mem_append_left _ (List.mem_of_getElem? (i := 18) (by decide +kernel)), tw_1, rfl, by decide +kernel, by decide +kernel, by decide +kernel⟩
theorem dX9_isRentingRefused_0 : decode cX9_isRentingRefused 0 = .ok (.aload_n 0, 1) := by decide +kernel
theorem dX9_isRentingRefused_1 : decode cX9_isRentingRefused 1 = .ok (.getfield 10, 3) := by decide +kernel
theorem dX9_isRentingRefused_4 : decode cX9_isRentingRefused 4 = .ok (.iload_n 1, 1) := by decide +kernel
theorem dX9_isRentingRefused_5 : decode cX9_isRentingRefused 5 = .ok (.invokevirtual 403, 3) := by decide +kernel
theorem dX9_isRentingRefused_8 : decode cX9_isRentingRefused 8 = .ok (.ifCond .ne 13, 3) := by decide +kernel
theorem dX9_isRentingRefused_11 : decode cX9_isRentingRefused 11 = .ok (.aload_n 0, 1) := by decide +kernel
theorem dX9_isRentingRefused_12 : decode cX9_isRentingRefused 12 = .ok (.getfield 39, 3) := by decide +kernel
theorem dX9_isRentingRefused_15 : decode cX9_isRentingRefused 15 = .ok (.iconst 2, 1) := by decide +kernel
theorem dX9_isRentingRefused_16 : decode cX9_isRentingRefused 16 = .ok (.iload_n 1, 1) := by decide +kernel
theorem dX9_isRentingRefused_17 : decode cX9_isRentingRefused 17 = .ok (.invokevirtual 495, 3) := by decide +kernel
theorem dX9_isRentingRefused_20 : decode cX9_isRentingRefused 20 = .ok (.ireturn, 1) := by decide +kernel
theorem dX9_isRentingRefused_21 : decode cX9_isRentingRefused 21 = .ok (.aload_n 0, 1) := by decide +kernel
theorem dX9_isRentingRefused_22 : decode cX9_isRentingRefused 22 = .ok (.getfield 10, 3) := by decide +kernel
theorem dX9_isRentingRefused_25 : decode cX9_isRentingRefused 25 = .ok (.iload_n 2, 1) := by decide +kernel
theorem dX9_isRentingRefused_26 : decode cX9_isRentingRefused 26 = .ok (.invokevirtual 398, 3) := by decide +kernel
theorem dX9_isRentingRefused_29 : decode cX9_isRentingRefused 29 = .ok (.ifCond .ne 13, 3) := by decide +kernel
theorem dX9_isRentingRefused_32 : decode cX9_isRentingRefused 32 = .ok (.aload_n 0, 1) := by decide +kernel
theorem dX9_isRentingRefused_33 : decode cX9_isRentingRefused 33 = .ok (.getfield 39, 3) := by decide +kernel
theorem dX9_isRentingRefused_36 : decode cX9_isRentingRefused 36 = .ok (.iconst 2, 1) := by decide +kernel
theorem dX9_isRentingRefused_37 : decode cX9_isRentingRefused 37 = .ok (.iload_n 2, 1) := by decide +kernel
theorem dX9_isRentingRefused_38 : decode cX9_isRentingRefused 38 = .ok (.invokevirtual 495, 3) := by decide +kernel
theorem dX9_isRentingRefused_41 : decode cX9_isRentingRefused 41 = .ok (.ireturn, 1) := by decide +kernel
theorem dX9_isRentingRefused_42 : decode cX9_isRentingRefused 42 = .ok (.iload_n 3, 1) := by decide +kernel
theorem dX9_isRentingRefused_43 : decode cX9_isRentingRefused 43 = .ok (.iconst 1, 1) := by decide +kernel
theorem dX9_isRentingRefused_44 : decode cX9_isRentingRefused 44 = .ok (.if_icmp .lt 9, 3) := by decide +kernel
theorem dX9_isRentingRefused_47 : decode cX9_isRentingRefused 47 = .ok (.iload_n 3, 1) := by decide +kernel
theorem dX9_isRentingRefused_48 : decode cX9_isRentingRefused 48 = .ok (.bipush 9, 2) := by decide +kernel
theorem dX9_isRentingRefused_50 : decode cX9_isRentingRefused 50 = .ok (.if_icmp .le 13, 3) := by decide +kernel
theorem dX9_isRentingRefused_53 : decode cX9_isRentingRefused 53 = .ok (.aload_n 0, 1) := by decide +kernel
theorem dX9_isRentingRefused_54 : decode cX9_isRentingRefused 54 = .ok (.getfield 39, 3) := by decide +kernel
theorem dX9_isRentingRefused_57 : decode cX9_isRentingRefused 57 = .ok (.iconst 3, 1) := by decide +kernel
theorem dX9_isRentingRefused_58 : decode cX9_isRentingRefused 58 = .ok (.iload_n 3, 1) := by decide +kernel
theorem dX9_isRentingRefused_59 : decode cX9_isRentingRefused 59 = .ok (.invokevirtual 495, 3) := by decide +kernel
theorem dX9_isRentingRefused_62 : decode cX9_isRentingRefused 62 = .ok (.ireturn, 1) := by decide +kernel
theorem dX9_isRentingRefused_63 : decode cX9_isRentingRefused 63 = .ok (.aload_n 0, 1) := by decide +kernel
theorem dX9_isRentingRefused_64 : decode cX9_isRentingRefused 64 = .ok (.getfield 10, 3) := by decide +kernel
theorem dX9_isRentingRefused_67 : decode cX9_isRentingRefused 67 = .ok (.iload_n 2, 1) := by decide +kernel
theorem dX9_isRentingRefused_68 : decode cX9_isRentingRefused 68 = .ok (.invokevirtual 217, 3) := by decide +kernel
theorem dX9_isRentingRefused_71 : decode cX9_isRentingRefused 71 = .ok (.ifCond .eq 25, 3) := by decide +kernel
theorem dX9_isRentingRefused_74 : decode cX9_isRentingRefused 74 = .ok (.aload_n 0, 1) := by decide +kernel
theorem dX9_isRentingRefused_75 : decode cX9_isRentingRefused 75 = .ok (.getfield 39, 3) := by decide +kernel
theorem dX9_isRentingRefused_78 : decode cX9_isRentingRefused 78 = .ok (.bipush 7, 2) := by decide +kernel
theorem dX9_isRentingRefused_80 : decode cX9_isRentingRefused 80 = .ok (.aload_n 0, 1) := by decide +kernel
theorem dX9_isRentingRefused_81 : decode cX9_isRentingRefused 81 = .ok (.getfield 10, 3) := by decide +kernel
theorem dX9_isRentingRefused_84 : decode cX9_isRentingRefused 84 = .ok (.getfield 137, 3) := by decide +kernel
theorem dX9_isRentingRefused_87 : decode cX9_isRentingRefused 87 = .ok (.getfield 149, 3) := by decide +kernel
theorem dX9_isRentingRefused_90 : decode cX9_isRentingRefused 90 = .ok (.iload_n 2, 1) := by decide +kernel
theorem dX9_isRentingRefused_91 : decode cX9_isRentingRefused 91 = .ok (.iaload, 1) := by decide +kernel
theorem dX9_isRentingRefused_92 : decode cX9_isRentingRefused 92 = .ok (.invokevirtual 495, 3) := by decide +kernel
theorem dX9_isRentingRefused_95 : decode cX9_isRentingRefused 95 = .ok (.ireturn, 1) := by decide +kernel
theorem dX9_isRentingRefused_96 : decode cX9_isRentingRefused 96 = .ok (.aload_n 0, 1) := by decide +kernel
theorem dX9_isRentingRefused_97 : decode cX9_isRentingRefused 97 = .ok (.getfield 10, 3) := by decide +kernel
theorem dX9_isRentingRefused_100 : decode cX9_isRentingRefused 100 = .ok (.iload_n 1, 1) := by decide +kernel
theorem dX9_isRentingRefused_101 : decode cX9_isRentingRefused 101 = .ok (.iload_n 2, 1) := by decide +kernel
theorem dX9_isRentingRefused_102 : decode cX9_isRentingRefused 102 = .ok (.invokevirtual 220, 3) := by decide +kernel
theorem dX9_isRentingRefused_105 : decode cX9_isRentingRefused 105 = .ok (.ifCond .ne 25, 3) := by decide +kernel
theorem dX9_isRentingRefused_108 : decode cX9_isRentingRefused 108 = .ok (.aload_n 0, 1) := by decide +kernel
theorem dX9_isRentingRefused_109 : decode cX9_isRentingRefused 109 = .ok (.getfield 39, 3) := by decide +kernel
theorem dX9_isRentingRefused_112 : decode cX9_isRentingRefused 112 = .ok (.bipush 8, 2) := by decide +kernel
theorem dX9_isRentingRefused_114 : decode cX9_isRentingRefused 114 = .ok (.aload_n 0, 1) := by decide +kernel
theorem dX9_isRentingRefused_115 : decode cX9_isRentingRefused 115 = .ok (.getfield 10, 3) := by decide +kernel
theorem dX9_isRentingRefused_118 : decode cX9_isRentingRefused 118 = .ok (.getfield 137, 3) := by decide +kernel
theorem dX9_isRentingRefused_121 : decode cX9_isRentingRefused 121 = .ok (.getfield 141, 3) := by decide +kernel
theorem dX9_isRentingRefused_124 : decode cX9_isRentingRefused 124 = .ok (.iload_n 2, 1) := by decide +kernel
theorem dX9_isRentingRefused_125 : decode cX9_isRentingRefused 125 = .ok (.iaload, 1) := by decide +kernel
theorem dX9_isRentingRefused_126 : decode cX9_isRentingRefused 126 = .ok (.invokevirtual 495, 3) := by decide +kernel
theorem dX9_isRentingRefused_129 : decode cX9_isRentingRefused 129 = .ok (.ireturn, 1) := by decide +kernel
theorem dX9_isRentingRefused_130 : decode cX9_isRentingRefused 130 = .ok (.aload_n 0, 1) := by decide +kernel
theorem dX9_isRentingRefused_131 : decode cX9_isRentingRefused 131 = .ok (.getfield 10, 3) := by decide +kernel
theorem dX9_isRentingRefused_134 : decode cX9_isRentingRefused 134 = .ok (.iload_n 1, 1) := by decide +kernel
theorem dX9_isRentingRefused_135 : decode cX9_isRentingRefused 135 = .ok (.iload_n 2, 1) := by decide +kernel
theorem dX9_isRentingRefused_136 : decode cX9_isRentingRefused 136 = .ok (.invokevirtual 223, 3) := by decide +kernel
theorem dX9_isRentingRefused_139 : decode cX9_isRentingRefused 139 = .ok (.ifCond .ne 25, 3) := by decide +kernel
theorem dX9_isRentingRefused_142 : decode cX9_isRentingRefused 142 = .ok (.aload_n 0, 1) := by decide +kernel
theorem dX9_isRentingRefused_143 : decode cX9_isRentingRefused 143 = .ok (.getfield 39, 3) := by decide +kernel
theorem dX9_isRentingRefused_146 : decode cX9_isRentingRefused 146 = .ok (.bipush 9, 2) := by decide +kernel
theorem dX9_isRentingRefused_148 : decode cX9_isRentingRefused 148 = .ok (.aload_n 0, 1) := by decide +kernel
theorem dX9_isRentingRefused_149 : decode cX9_isRentingRefused 149 = .ok (.getfield 10, 3) := by decide +kernel
theorem dX9_isRentingRefused_152 : decode cX9_isRentingRefused 152 = .ok (.getfield 161, 3) := by decide +kernel
theorem dX9_isRentingRefused_155 : decode cX9_isRentingRefused 155 = .ok (.getfield 170, 3) := by decide +kernel
theorem dX9_isRentingRefused_158 : decode cX9_isRentingRefused 158 = .ok (.iload_n 1, 1) := by decide +kernel
theorem dX9_isRentingRefused_159 : decode cX9_isRentingRefused 159 = .ok (.iaload, 1) := by decide +kernel
theorem dX9_isRentingRefused_160 : decode cX9_isRentingRefused 160 = .ok (.invokevirtual 495, 3) := by decide +kernel
theorem dX9_isRentingRefused_163 : decode cX9_isRentingRefused 163 = .ok (.ireturn, 1) := by decide +kernel
theorem dX9_isRentingRefused_164 : decode cX9_isRentingRefused 164 = .ok (.iconst 0, 1) := by decide +kernel
theorem dX9_isRentingRefused_165 : decode cX9_isRentingRefused 165 = .ok (.ireturn, 1) := by decide +kernel
theorem vm_X9_isRentingRefused : aVm yX9_isRentingRefused RX9 cX9_isRentingRefused 4 (some .boolean) 3 := ⟨tw_742, tw_741, List.mem_append_left _ (List.mem_of_getElem? (i := 19) (by decide +kernel)), tw_1, rfl, by decide +kernel, by decide +kernel, by decide +kernel⟩
theorem dX9_isGivingBackRefused_0 : decode cX9_isGivingBackRefused 0 = .ok (.aload_n 0, 1) := by decide +kernel
theorem dX9_isGivingBackRefused_1 : decode cX9_isGivingBackRefused 1 = .ok (.getfield 10, 3) := by decide +kernel
theorem dX9_isGivingBackRefused_4 : decode cX9_isGivingBackRefused 4 = .ok (.iload_n 1, 1) := by decide +kernel
theorem dX9_isGivingBackRefused_5 : decode cX9_isGivingBackRefused 5 = .ok (.invokevirtual 403, 3) := by decide +kernel
theorem dX9_isGivingBackRefused_8 : decode cX9_isGivingBackRefused 8 = .ok (.ifCond .ne 13, 3) := by decide +kernel
theorem dX9_isGivingBackRefused_11 : decode cX9_isGivingBackRefused 11 = .ok (.aload_n 0, 1) := by decide +kernel
theorem dX9_isGivingBackRefused_12 : decode cX9_isGivingBackRefused 12 = .ok (.getfield 39, 3) := by decide +kernel
theorem dX9_isGivingBackRefused_15 : decode cX9_isGivingBackRefused 15 = .ok (.iconst 2, 1) := by decide +kernel
theorem dX9_isGivingBackRefused_16 : decode cX9_isGivingBackRefused 16 = .ok (.iload_n 1, 1) := by decide +kernel
theorem dX9_isGivingBackRefused_17 : decode cX9_isGivingBackRefused 17 = .ok (.invokevirtual 495, 3) := by decide +kernel
theorem dX9_isGivingBackRefused_20 : decode cX9_isGivingBackRefused 20 = .ok (.ireturn, 1) := by decide +kernel
theorem dX9_isGivingBackRefused_21 : decode cX9_isGivingBackRefused 21 = .ok (.aload_n 0, 1) := by decide +kernel
theorem dX9_isGivingBackRefused_22 : decode cX9_isGivingBackRefused 22 = .ok (.getfield 10, 3) := by decide +kernel
theorem dX9_isGivingBackRefused_25 : decode cX9_isGivingBackRefused 25 = .ok (.iload_n 2, 1) := by decide +kernel
theorem dX9_isGivingBackRefused_26 : decode cX9_isGivingBackRefused 26 = .ok (.invokevirtual 398, 3) := by decide +kernel
theorem dX9_isGivingBackRefused_29 : decode cX9_isGivingBackRefused 29 = .ok (.ifCond .ne 13, 3) := by decide +kernel
theorem dX9_isGivingBackRefused_32 : decode cX9_isGivingBackRefused 32 = .ok (.aload_n 0, 1) := by decide +kernel
theorem dX9_isGivingBackRefused_33 : decode cX9_isGivingBackRefused 33 = .ok (.getfield 39, 3) := by decide +kernel
theorem dX9_isGivingBackRefused_36 : decode cX9_isGivingBackRefused 36 = .ok (.iconst 2, 1) := by decide +kernel
theorem dX9_isGivingBackRefused_37 : decode cX9_isGivingBackRefused 37 = .ok (.iload_n 2, 1) := by decide +kernel
theorem dX9_isGivingBackRefused_38 : decode cX9_isGivingBackRefused 38 = .ok (.invokevirtual 495, 3) := by decide +kernel
theorem dX9_isGivingBackRefused_41 : decode cX9_isGivingBackRefused 41 = .ok (.ireturn, 1) := by decide +kernel
theorem dX9_isGivingBackRefused_42 : decode cX9_isGivingBackRefused 42 = .ok (.aload_n 0, 1) := by decide +kernel
theorem dX9_isGivingBackRefused_43 : decode cX9_isGivingBackRefused 43 = .ok (.getfield 10, 3) := by decide +kernel
theorem dX9_isGivingBackRefused_46 : decode cX9_isGivingBackRefused 46 = .ok (.getfield 137, 3) := by decide +kernel
theorem dX9_isGivingBackRefused_49 : decode cX9_isGivingBackRefused 49 = .ok (.getfield 149, 3) := by decide +kernel
theorem dX9_isGivingBackRefused_52 : decode cX9_isGivingBackRefused 52 = .ok (.iload_n 2, 1) := by decide +kernel
theorem dX9_isGivingBackRefused_53 : decode cX9_isGivingBackRefused 53 = .ok (.iaload, 1) := by decide +kernel
theorem dX9_isGivingBackRefused_54 : decode cX9_isGivingBackRefused 54 = .ok (.iload_n 1, 1) := by decide +kernel
theorem dX9_isGivingBackRefused_55 : decode cX9_isGivingBackRefused 55 = .ok (.if_icmp .eq 25, 3) := by decide +kernel
theorem dX9_isGivingBackRefused_58 : decode cX9_isGivingBackRefused 58 = .ok (.aload_n 0, 1) := by decide +kernel
theorem dX9_isGivingBackRefused_59 : decode cX9_isGivingBackRefused 59 = .ok (.getfield 39, 3) := by decide +kernel
theorem dX9_isGivingBackRefused_62 : decode cX9_isGivingBackRefused 62 = .ok (.bipush 11, 2) := by decide +kernel
theorem dX9_isGivingBackRefused_64 : decode cX9_isGivingBackRefused 64 = .ok (.aload_n 0, 1) := by decide +kernel
theorem dX9_isGivingBackRefused_65 : decode cX9_isGivingBackRefused 65 = .ok (.getfield 10, 3) := by decide +kernel
theorem dX9_isGivingBackRefused_68 : decode cX9_isGivingBackRefused 68 = .ok (.getfield 137, 3) := by decide +kernel
theorem dX9_isGivingBackRefused_71 : decode cX9_isGivingBackRefused 71 = .ok (.getfield 149, 3) := by decide +kernel
theorem dX9_isGivingBackRefused_74 : decode cX9_isGivingBackRefused 74 = .ok (.iload_n 2, 1) := by decide +kernel
theorem dX9_isGivingBackRefused_75 : decode cX9_isGivingBackRefused 75 = .ok (.iaload, 1) := by decide +kernel
theorem dX9_isGivingBackRefused_76 : decode cX9_isGivingBackRefused 76 = .ok (.invokevirtual 495, 3) := by decide +kernel
theorem dX9_isGivingBackRefused_79 : decode cX9_isGivingBackRefused 79 = .ok (.ireturn, 1) := by decide +kernel
theorem dX9_isGivingBackRefused_80 : decode cX9_isGivingBackRefused 80 = .ok (.iconst 0, 1) := by decide +kernel
theorem dX9_isGivingBackRefused_81 : decode cX9_isGivingBackRefused 81 = .ok (.ireturn, 1) := by decide +kernel
theorem vm_X9_isGivingBackRefused : aVm yX9_isGivingBackRefused RX9 cX9_isGivingBackRefused 3 (some .boolean) 2 := ⟨tw_754, tw_753, List.mem_append_left _ (List.mem_of_getElem? (i := 20) (by decide +kernel)), tw_1, rfl, by decide +kernel, by decide +kernel, by decide +kernel⟩
theorem dX9_isSingingRefused_0 : decode cX9_isSingingRefused 0 = .ok (.aload_n 0, 1) := by decide +kernel
theorem dX9_isSingingRefused_1 : decode cX9_isSingingRefused 1 = .ok (.getfield 10, 3) := by decide +kernel
theorem dX9_isSingingRefused_4 : decode cX9_isSingingRefused 4 = .ok (.iload_n 1, 1) := by decide +kernel
theorem dX9_isSingingRefused_5 : decode cX9_isSingingRefused 5 = .ok (.invokevirtual 403, 3) := by decide +kernel
theorem dX9_isSingingRefused_8 : decode cX9_isSingingRefused 8 = .ok (.ifCond .ne 13, 3) := by decide +kernel
theorem dX9_isSingingRefused_11 : decode cX9_isSingingRefused 11 = .ok (.aload_n 0, 1) := by decide +kernel
theorem dX9_isSingingRefused_12 : decode cX9_isSingingRefused 12 = .ok (.getfield 39, 3) := by decide +kernel
theorem dX9_isSingingRefused_15 : decode cX9_isSingingRefused 15 = .ok (.iconst 2, 1) := by decide +kernel
theorem dX9_isSingingRefused_16 : decode cX9_isSingingRefused 16 = .ok (.iload_n 1, 1) := by decide +kernel
theorem dX9_isSingingRefused_17 : decode cX9_isSingingRefused 17 = .ok (.invokevirtual 495, 3) := by decide +kernel
theorem dX9_isSingingRefused_20 : decode cX9_isSingingRefused 20 = .ok (.ireturn, 1) := by decide +kernel
theorem dX9_isSingingRefused_21 : decode cX9_isSingingRefused 21 = .ok (.aload_n 0, 1) := by decide +kernel
theorem dX9_isSingingRefused_22 : decode cX9_isSingingRefused 22 = .ok (.getfield 10, 3) := by decide +kernel
theorem dX9_isSingingRefused_25 : decode cX9_isSingingRefused 25 = .ok (.iload_n 1, 1) := by decide +kernel
theorem dX9_isSingingRefused_26 : decode cX9_isSingingRefused 26 = .ok (.invokevirtual 250, 3) := by decide +kernel
theorem dX9_isSingingRefused_29 : decode cX9_isSingingRefused 29 = .ok (.ifCond .ne 14, 3) := by decide +kernel
theorem dX9_isSingingRefused_32 : decode cX9_isSingingRefused 32 = .ok (.aload_n 0, 1) := by decide +kernel
theorem dX9_isSingingRefused_33 : decode cX9_isSingingRefused 33 = .ok (.getfield 39, 3) := by decide +kernel
theorem dX9_isSingingRefused_36 : decode cX9_isSingingRefused 36 = .ok (.bipush 10, 2) := by decide +kernel
theorem dX9_isSingingRefused_38 : decode cX9_isSingingRefused 38 = .ok (.iload_n 1, 1) := by decide +kernel
theorem dX9_isSingingRefused_39 : decode cX9_isSingingRefused 39 = .ok (.invokevirtual 495, 3) := by decide +kernel
theorem dX9_isSingingRefused_42 : decode cX9_isSingingRefused 42 = .ok (.ireturn, 1) := by decide +kernel
theorem dX9_isSingingRefused_43 : decode cX9_isSingingRefused 43 = .ok (.aload_n 0, 1) := by decide +kernel
theorem dX9_isSingingRefused_44 : decode cX9_isSingingRefused 44 = .ok (.getfield 10, 3) := by decide +kernel
theorem dX9_isSingingRefused_47 : decode cX9_isSingingRefused 47 = .ok (.getfield 161, 3) := by decide +kernel
theorem dX9_isSingingRefused_50 : decode cX9_isSingingRefused 50 = .ok (.getfield 170, 3) := by decide +kernel
theorem dX9_isSingingRefused_53 : decode cX9_isSingingRefused 53 = .ok (.iload_n 1, 1) := by decide +kernel
theorem dX9_isSingingRefused_54 : decode cX9_isSingingRefused 54 = .ok (.iaload, 1) := by decide +kernel
theorem dX9_isSingingRefused_55 : decode cX9_isSingingRefused 55 = .ok (.iconst 1, 1) := by decide +kernel
theorem dX9_isSingingRefused_56 : decode cX9_isSingingRefused 56 = .ok (.if_icmp .ge 25, 3) := by decide +kernel
theorem dX9_isSingingRefused_59 : decode cX9_isSingingRefused 59 = .ok (.aload_n 0, 1) := by decide +kernel
theorem dX9_isSingingRefused_60 : decode cX9_isSingingRefused 60 = .ok (.getfield 39, 3) := by decide +kernel
theorem dX9_isSingingRefused_63 : decode cX9_isSingingRefused 63 = .ok (.bipush 9, 2) := by decide +kernel
theorem dX9_isSingingRefused_65 : decode cX9_isSingingRefused 65 = .ok (.aload_n 0, 1) := by decide +kernel
theorem dX9_isSingingRefused_66 : decode cX9_isSingingRefused 66 = .ok (.getfield 10, 3) := by decide +kernel
theorem dX9_isSingingRefused_69 : decode cX9_isSingingRefused 69 = .ok (.getfield 161, 3) := by decide +kernel
theorem dX9_isSingingRefused_72 : decode cX9_isSingingRefused 72 = .ok (.getfield 170, 3) := by decide +kernel
theorem dX9_isSingingRefused_75 : decode cX9_isSingingRefused 75 = .ok (.iload_n 1, 1) := by decide +kernel
theorem dX9_isSingingRefused_76 : decode cX9_isSingingRefused 76 = .ok (.iaload, 1) := by decide +kernel
theorem dX9_isSingingRefused_77 : decode cX9_isSingingRefused 77 = .ok (.invokevirtual 495, 3) := by decide +kernel
theorem dX9_isSingingRefused_80 : decode cX9_isSingingRefused 80 = .ok (.ireturn, 1) := by decide +kernel
theorem dX9_isSingingRefused_81 : decode cX9_isSingingRefused 81 = .ok (.iconst 0, 1) := by decide +kernel
theorem dX9_isSingingRefused_82 : decode cX9_isSingingRefused 82 = .ok (.ireturn, 1) := by decide +kernel
theorem vm_X9_isSingingRefused : aVm yX9_isSingingRefused RX9 cX9_isSingingRefused 2 (some .boolean) 1 := ⟨tw_758, tw_757, List.mem_append_left _ (List.mem_of_getElem? (i := 21) (by decide +kernel)), tw_1, rfl, by decide +kernel, by decide +kernel, by decide +kernel⟩
theorem dX9_isRefused_0 : decode cX9_isRefused 0 = .ok (.getstatic 431, 3) := by decide +kernel
theorem dX9_isRefused_3 : decode cX9_isRefused 3 = .ok (.aload_n 1, 1) := by decide +kernel
theorem dX9_isRefused_4 : decode cX9_isRefused 4 = .ok (.invokevirtual 436, 3) := by decide +kernel
theorem dX9_isRefused_7 : decode cX9_isRefused 7 = .ok (.iaload, 1) := by decide +kernel
theorem dX9_isRefused_8 : decode cX9_isRefused 8 = .ok (.tableswitch 114 1 9 #[52, 58, 65, 72, 79, 85, 92, 101, 108], 52) := by decide +kernel
theorem dX9_isRefused_60 : decode cX9_isRefused 60 = .ok (.aload_n 0, 1) := by decide +kernel
theorem dX9_isRefused_61 : decode cX9_isRefused 61 = .ok (.iload_n 2, 1) := by decide +kernel
theorem dX9_isRefused_62 : decode cX9_isRefused 62 = .ok (.invokevirtual 467, 3) := by decide +kernel
theorem dX9_isRefused_65 : decode cX9_isRefused 65 = .ok (.ireturn, 1) := by decide +kernel
theorem dX9_isRefused_66 : decode cX9_isRefused 66 = .ok (.aload_n 0, 1) := by decide +kernel
theorem dX9_isRefused_67 : decode cX9_isRefused 67 = .ok (.iload_n 2, 1) := by decide +kernel
theorem dX9_isRefused_68 : decode cX9_isRefused 68 = .ok (.iload_n 3, 1) := by decide +kernel
theorem dX9_isRefused_69 : decode cX9_isRefused 69 = .ok (.invokevirtual 470, 3) := by decide +kernel
theorem dX9_isRefused_72 : decode cX9_isRefused 72 = .ok (.ireturn, 1) := by decide +kernel
theorem dX9_isRefused_73 : decode cX9_isRefused 73 = .ok (.aload_n 0, 1) := by decide +kernel
theorem dX9_isRefused_74 : decode cX9_isRefused 74 = .ok (.iload_n 2, 1) := by decide +kernel
theorem dX9_isRefused_75 : decode cX9_isRefused 75 = .ok (.iload_n 3, 1) := by decide +kernel
theorem dX9_isRefused_76 : decode cX9_isRefused 76 = .ok (.invokevirtual 473, 3) := by decide +kernel
theorem dX9_isRefused_79 : decode cX9_isRefused 79 = .ok (.ireturn, 1) := by decide +kernel
theorem dX9_isRefused_80 : decode cX9_isRefused 80 = .ok (.aload_n 0, 1) := by decide +kernel
theorem dX9_isRefused_81 : decode cX9_isRefused 81 = .ok (.iload_n 2, 1) := by decide +kernel
theorem dX9_isRefused_82 : decode cX9_isRefused 82 = .ok (.iload_n 3, 1) := by decide +kernel
theorem dX9_isRefused_83 : decode cX9_isRefused 83 = .ok (.invokevirtual 476, 3) := by decide +kernel
theorem dX9_isRefused_86 : decode cX9_isRefused 86 = .ok (.ireturn, 1) := by decide +kernel
theorem dX9_isRefused_87 : decode cX9_isRefused 87 = .ok (.aload_n 0, 1) := by decide +kernel
theorem dX9_isRefused_88 : decode cX9_isRefused 88 = .ok (.iload_n 2, 1) := by decide +kernel
theorem dX9_isRefused_89 : decode cX9_isRefused 89 = .ok (.invokevirtual 479, 3) := by decide +kernel
theorem dX9_isRefused_92 : decode cX9_isRefused 92 = .ok (.ireturn, 1) := by decide +kernel
theorem dX9_isRefused_93 : decode cX9_isRefused 93 = .ok (.aload_n 0, 1) := by decide +kernel
theorem dX9_isRefused_94 : decode cX9_isRefused 94 = .ok (.iload_n 2, 1) := by decide +kernel
theorem dX9_isRefused_95 : decode cX9_isRefused 95 = .ok (.iload_n 3, 1) := by decide +kernel
theorem dX9_isRefused_96 : decode cX9_isRefused 96 = .ok (.invokevirtual 482, 3) := by decide +kernel
theorem dX9_isRefused_99 : decode cX9_isRefused 99 = .ok (.ireturn, 1) := by decide +kernel
theorem dX9_isRefused_100 : decode cX9_isRefused 100 = .ok (.aload_n 0, 1) := by decide +kernel
theorem dX9_isRefused_101 : decode cX9_isRefused 101 = .ok (.iload_n 2, 1) := by decide +kernel
theorem dX9_isRefused_102 : decode cX9_isRefused 102 = .ok (.iload_n 3, 1) := by decide +kernel
theorem dX9_isRefused_103 : decode cX9_isRefused 103 = .ok (.iload 4, 2) := by decide +kernel
theorem dX9_isRefused_105 : decode cX9_isRefused 105 = .ok (.invokevirtual 485, 3) := by decide +kernel
theorem dX9_isRefused_108 : decode cX9_isRefused 108 = .ok (.ireturn, 1) := by decide +kernel
theorem dX9_isRefused_109 : decode cX9_isRefused 109 = .ok (.aload_n 0, 1) := by decide +kernel
theorem dX9_isRefused_110 : decode cX9_isRefused 110 = .ok (.iload_n 2, 1) := by decide +kernel
theorem dX9_isRefused_111 : decode cX9_isRefused 111 = .ok (.iload_n 3, 1) := by decide +kernel
theorem dX9_isRefused_112 : decode cX9_isRefused 112 = .ok (.invokevirtual 489, 3) := by decide +kernel
theorem dX9_isRefused_115 : decode cX9_isRefused 115 = .ok (.ireturn, 1) := by decide +kernel
theorem dX9_isRefused_116 : decode cX9_isRefused 116 = .ok (.aload_n 0, 1) := by decide +kernel
theorem dX9_isRefused_117 : decode cX9_isRefused 117 = .ok (.iload_n 2, 1) := by decide +kernel
theorem dX9_isRefused_118 : decode cX9_isRefused 118 = .ok (.invokevirtual 492, 3) := by decide +kernel
theorem dX9_isRefused_121 : decode cX9_isRefused 121 = .ok (.ireturn, 1) := by decide +kernel
theorem dX9_isRefused_122 : decode cX9_isRefused 122 = .ok (.iconst 0, 1) := by decide +kernel
theorem dX9_isRefused_123 : decode cX9_isRefused 123 = .ok (.ireturn, 1) := by decide +kernel
theorem vm_X9_isRefused : aVm yX9_isRefused RX9 cX9_isRefused 5 (some .boolean) 4 := ⟨tw_692, tw_691, List.mem_append_left _ (List.mem_of_getElem? (i := 12) (by decide +kernel)), tw_1, rfl, by decide +kernel, by decide +kernel, by decide +kernel⟩
theorem dX9_doOrder_0 : decode cX9_doOrder 0 = .ok (.getstatic 431, 3) := by decide +kernel
theorem dX9_doOrder_3 : decode cX9_doOrder 3 = .ok (.aload_n 1, 1) := by decide +kernel
theorem dX9_doOrder_4 : decode cX9_doOrder 4 = .ok (.invokevirtual 436, 3) := by decide +kernel
theorem dX9_doOrder_7 : decode cX9_doOrder 7 = .ok (.iaload, 1) := by decide +kernel
theorem dX9_doOrder_8 : decode cX9_doOrder 8 = .ok (.tableswitch 140 1 9 #[52, 61, 71, 81, 91, 100, 110, 122, 131], 52) := by decide +kernel
theorem dX9_doOrder_60 : decode cX9_doOrder 60 = .ok (.aload_n 0, 1) := by decide +kernel
theorem dX9_doOrder_61 : decode cX9_doOrder 61 = .ok (.getfield 10, 3) := by decide +kernel
theorem dX9_doOrder_64 : decode cX9_doOrder 64 = .ok (.iload_n 2, 1) := by decide +kernel
theorem dX9_doOrder_65 : decode cX9_doOrder 65 = .ok (.invokevirtual 439, 3) := by decide +kernel
theorem dX9_doOrder_68 : decode cX9_doOrder 68 = .ok (.ireturn, 1) := by decide +kernel
theorem dX9_doOrder_69 : decode cX9_doOrder 69 = .ok (.aload_n 0, 1) := by decide +kernel
theorem dX9_doOrder_70 : decode cX9_doOrder 70 = .ok (.getfield 10, 3) := by decide +kernel
theorem dX9_doOrder_73 : decode cX9_doOrder 73 = .ok (.iload_n 2, 1) := by decide +kernel
theorem dX9_doOrder_74 : decode cX9_doOrder 74 = .ok (.iload_n 3, 1) := by decide +kernel
theorem dX9_doOrder_75 : decode cX9_doOrder 75 = .ok (.invokevirtual 442, 3) := by decide +kernel
theorem dX9_doOrder_78 : decode cX9_doOrder 78 = .ok (.ireturn, 1) := by decide +kernel
theorem dX9_doOrder_79 : decode cX9_doOrder 79 = .ok (.aload_n 0, 1) := by decide +kernel
theorem dX9_doOrder_80 : decode cX9_doOrder 80 = .ok (.getfield 10, 3) := by decide +kernel
theorem dX9_doOrder_83 : decode cX9_doOrder 83 = .ok (.iload_n 2, 1) := by decide +kernel
theorem dX9_doOrder_84 : decode cX9_doOrder 84 = .ok (.iload_n 3, 1) := by decide +kernel
theorem dX9_doOrder_85 : decode cX9_doOrder 85 = .ok (.invokevirtual 445, 3) := by decide +kernel
theorem dX9_doOrder_88 : decode cX9_doOrder 88 = .ok (.ireturn, 1) := by decide +kernel
theorem dX9_doOrder_89 : decode cX9_doOrder 89 = .ok (.aload_n 0, 1) := by decide +kernel
theorem dX9_doOrder_90 : decode cX9_doOrder 90 = .ok (.getfield 10, 3) := by decide +kernel
theorem dX9_doOrder_93 : decode cX9_doOrder 93 = .ok (.iload_n 2, 1) := by decide +kernel
theorem dX9_doOrder_94 : decode cX9_doOrder 94 = .ok (.iload_n 3, 1) := by decide +kernel
theorem dX9_doOrder_95 : decode cX9_doOrder 95 = .ok (.invokevirtual 448, 3) := by decide +kernel
theorem dX9_doOrder_98 : decode cX9_doOrder 98 = .ok (.ireturn, 1) := by decide +kernel
theorem dX9_doOrder_99 : decode cX9_doOrder 99 = .ok (.aload_n 0, 1) := by decide +kernel
theorem dX9_doOrder_100 : decode cX9_doOrder 100 = .ok (.getfield 10, 3) := by decide +kernel
theorem dX9_doOrder_103 : decode cX9_doOrder 103 = .ok (.iload_n 2, 1) := by decide +kernel
theorem dX9_doOrder_104 : decode cX9_doOrder 104 = .ok (.invokevirtual 451, 3) := by decide +kernel
theorem dX9_doOrder_107 : decode cX9_doOrder 107 = .ok (.ireturn, 1) := by decide +kernel
theorem dX9_doOrder_108 : decode cX9_doOrder 108 = .ok (.aload_n 0, 1) := by decide +kernel
theorem dX9_doOrder_109 : decode cX9_doOrder 109 = .ok (.getfield 10, 3) := by decide +kernel
theorem dX9_doOrder_112 : decode cX9_doOrder 112 = .ok (.iload_n 2, 1) := by decide +kernel
theorem dX9_doOrder_113 : decode cX9_doOrder 113 = .ok (.iload_n 3, 1) := by decide +kernel
theorem dX9_doOrder_114 : decode cX9_doOrder 114 = .ok (.invokevirtual 454, 3) := by decide +kernel
theorem dX9_doOrder_117 : decode cX9_doOrder 117 = .ok (.ireturn, 1) := by decide +kernel
theorem dX9_doOrder_118 : decode cX9_doOrder 118 = .ok (.aload_n 0, 1) := by decide +kernel
theorem dX9_doOrder_119 : decode cX9_doOrder 119 = .ok (.getfield 10, 3) := by decide +kernel
theorem dX9_doOrder_122 : decode cX9_doOrder 122 = .ok (.iload_n 2, 1) := by decide +kernel
theorem dX9_doOrder_123 : decode cX9_doOrder 123 = .ok (.iload_n 3, 1) := by decide +kernel
theorem dX9_doOrder_124 : decode cX9_doOrder 124 = .ok (.iload 4, 2) := by decide +kernel
theorem dX9_doOrder_126 : decode cX9_doOrder 126 = .ok (.invokevirtual 457, 3) := by decide +kernel
theorem dX9_doOrder_129 : decode cX9_doOrder 129 = .ok (.ireturn, 1) := by decide +kernel
theorem dX9_doOrder_130 : decode cX9_doOrder 130 = .ok (.aload_n 0, 1) := by decide +kernel
theorem dX9_doOrder_131 : decode cX9_doOrder 131 = .ok (.getfield 10, 3) := by decide +kernel
theorem dX9_doOrder_134 : decode cX9_doOrder 134 = .ok (.iload_n 3, 1) := by decide +kernel
theorem dX9_doOrder_135 : decode cX9_doOrder 135 = .ok (.invokevirtual 461, 3) := by decide +kernel
theorem dX9_doOrder_138 : decode cX9_doOrder 138 = .ok (.ireturn, 1) := by decide +kernel
theorem dX9_doOrder_139 : decode cX9_doOrder 139 = .ok (.aload_n 0, 1) := by decide +kernel
theorem dX9_doOrder_140 : decode cX9_doOrder 140 = .ok (.getfield 10, 3) := by decide +kernel
theorem dX9_doOrder_143 : decode cX9_doOrder 143 = .ok (.iload_n 2, 1) := by decide +kernel
theorem dX9_doOrder_144 : decode cX9_doOrder 144 = .ok (.invokevirtual 464, 3) := by decide +kernel
theorem dX9_doOrder_147 : decode cX9_doOrder 147 = .ok (.ireturn, 1) := by decide +kernel
theorem dX9_doOrder_148 : decode cX9_doOrder 148 = .ok (.aload_n 0, 1) := by decide +kernel
theorem dX9_doOrder_149 : decode cX9_doOrder 149 = .ok (.getfield 10, 3) := by decide +kernel
theorem dX9_doOrder_152 : decode cX9_doOrder 152 = .ok (.invokevirtual 88, 3) := by decide +kernel
theorem dX9_doOrder_155 : decode cX9_doOrder 155 = .ok (.ireturn, 1) := by decide +kernel
theorem vm_X9_doOrder : aVm yX9_doOrder RX9 cX9_doOrder 5 (some .int) 4 := ⟨tw_804, tw_803, List.mem_append_left _ (List.mem_of_getElem? (i := 22) (by decide +kernel)), tw_1, rfl, by decide +kernel, by decide +kernel, by decide +kernel⟩
theorem dX9_change_0 : decode cX9_change 0 = .ok (.aload_n 0, 1) := by decide +kernel
theorem dX9_change_1 : decode cX9_change 1 = .ok (.aload_n 1, 1) := by decide +kernel
theorem dX9_change_2 : decode cX9_change 2 = .ok (.iload_n 2, 1) := by decide +kernel
theorem dX9_change_3 : decode cX9_change 3 = .ok (.iload_n 3, 1) := by decide +kernel
theorem dX9_change_4 : decode cX9_change 4 = .ok (.iload 4, 2) := by decide +kernel
theorem dX9_change_6 : decode cX9_change 6 = .ok (.invokevirtual 410, 3) := by decide +kernel
theorem dX9_change_9 : decode cX9_change 9 = .ok (.ifCond .eq 14, 3) := by decide +kernel
theorem dX9_change_12 : decode cX9_change 12 = .ok (.new 294, 3) := by decide +kernel
theorem dX9_change_15 : decode cX9_change 15 = .ok (.dup, 1) := by decide +kernel
theorem dX9_change_16 : decode cX9_change 16 = .ok (.ldc_w 414, 3) := by decide +kernel
theorem dX9_change_19 : decode cX9_change 19 = .ok (.invokespecial 298, 3) := by decide +kernel
theorem dX9_change_22 : decode cX9_change 22 = .ok (.athrow, 1) := by decide +kernel
theorem dX9_change_23 : decode cX9_change 23 = .ok (.aload_n 0, 1) := by decide +kernel
theorem dX9_change_24 : decode cX9_change 24 = .ok (.getfield 25, 3) := by decide +kernel
theorem dX9_change_27 : decode cX9_change 27 = .ok (.aload_n 0, 1) := by decide +kernel
theorem dX9_change_28 : decode cX9_change 28 = .ok (.getfield 10, 3) := by decide +kernel
theorem dX9_change_31 : decode cX9_change 31 = .ok (.invokevirtual 84, 3) := by decide +kernel
theorem dX9_change_34 : decode cX9_change 34 = .ok (.aload_n 0, 1) := by decide +kernel
theorem dX9_change_35 : decode cX9_change 35 = .ok (.aload_n 1, 1) := by decide +kernel
theorem dX9_change_36 : decode cX9_change 36 = .ok (.iload_n 2, 1) := by decide +kernel
theorem dX9_change_37 : decode cX9_change 37 = .ok (.iload_n 3, 1) := by decide +kernel
theorem dX9_change_38 : decode cX9_change 38 = .ok (.iload 4, 2) := by decide +kernel
theorem dX9_change_40 : decode cX9_change 40 = .ok (.invokevirtual 416, 3) := by decide +kernel
theorem dX9_change_43 : decode cX9_change 43 = .ok (.ireturn, 1) := by decide +kernel
theorem vm_X9_change : aVm yX9_change RX9 cX9_change 5 (some .int) 4 := ⟨tw_688, tw_687, List.mem_append_left _ (List.mem_of_getElem? (i := 11) (by decide +kernel)), tw_1, rfl, by decide +kernel, by decide +kernel, by decide +kernel⟩
def w_X9_checkRoom (x1 : Int32) (q : aS) (P : Int32 → aS → Prop) (X : String → aS → Prop) : Prop := w_X8_hasRoom x1 q (fun r2 q3 => ((¬ r2 = 0 → P 0 q3) ∧ (r2 = 0 → X "java/lang/IndexOutOfBoundsException" q3)))
def w_X9_checkEcho (x1 : Int32) (q : aS) (P : Int32 → aS → Prop) (X : String → aS → Prop) : Prop := w_X8_hasEcho x1 q (fun r2 q3 => ((¬ r2 = 0 → P 0 q3) ∧ (r2 = 0 → X "java/lang/IndexOutOfBoundsException" q3)))
def w_X9_checkSinger (x1 : Int32) (q : aS) (P : Int32 → aS → Prop) (X : String → aS → Prop) : Prop := w_X8_hasSinger x1 q (fun r2 q3 => ((¬ r2 = 0 → P 0 q3) ∧ (r2 = 0 → X "java/lang/IndexOutOfBoundsException" q3)))
def w_X9_checkSingerInside (x1 : Int32) (q : aS) (P : Int32 → aS → Prop) (X : String → aS → Prop) : Prop := w_X9_checkSinger x1 q (fun _ q3 => w_X8_isInside x1 q3 (fun r4 q5 => ((¬ r4 = 0 → P 0 q5) ∧ (r4 = 0 → X "java/util/NoSuchElementException" q5)))) X
def w_X9_isRoomRefused (x1 : Int32) (q : aS) (P : Int32 → aS → Prop) : Prop := ((x1 < 1 → w_X5_keep 3 x1 q (fun r2 q3 => P r2 q3)) ∧ (¬ x1 < 1 → ((x1 ≤ 9 → (((q.1 2 0) < 6 → P 0 q) ∧ (¬ (q.1 2 0) < 6 → w_X5_keep 1 6 q (fun r4 q5 => P r4 q5)))) ∧ (¬ x1 ≤ 9 → w_X5_keep 3 x1 q (fun r6 q7 => P r6 q7)))))
def w_X9_isEchoRefused (x1 : Int32) (x2 : Int32) (q : aS) (P : Int32 → aS → Prop) : Prop := w_X8_hasRoom x1 q (fun r3 q4 => ((¬ r3 = 0 → ((x2 < 1 → w_X5_keep 3 x2 q4 (fun r5 q6 => P r5 q6)) ∧ (¬ x2 < 1 → ((x2 ≤ 9 → (((q4.1 6 0) < 8 → P 0 q4) ∧ (¬ (q4.1 6 0) < 8 → w_X5_keep 1 8 q4 (fun r7 q8 => P r7 q8)))) ∧ (¬ x2 ≤ 9 → w_X5_keep 3 x2 q4 (fun r9 q10 => P r9 q10)))))) ∧ (r3 = 0 → w_X5_keep 2 x1 q4 (fun r11 q12 => P r11 q12))))
def w_X9_isSingerRefused (x1 : Int32) (x2 : Int32) (q : aS) (P : Int32 → aS → Prop) : Prop := ((x1 < 0 → w_X5_keep 3 x1 q (fun r3 q4 => P r3 q4)) ∧ (¬ x1 < 0 → ((x1 ≤ 9 → ((x2 < 0 → w_X5_keep 3 x2 q (fun r5 q6 => P r5 q6)) ∧ (¬ x2 < 0 → ((x2 ≤ 99 → (((q.1 12 0) < 6 → P 0 q) ∧ (¬ (q.1 12 0) < 6 → w_X5_keep 1 6 q (fun r7 q8 => P r7 q8)))) ∧ (¬ x2 ≤ 99 → w_X5_keep 3 x2 q (fun r9 q10 => P r9 q10)))))) ∧ (¬ x1 ≤ 9 → w_X5_keep 3 x1 q (fun r11 q12 => P r11 q12)))))
def w_X9_isEnteringRefused (x1 : Int32) (x2 : Int32) (q : aS) (P : Int32 → aS → Prop) : Prop := w_X8_hasSinger x1 q (fun r3 q4 => ((¬ r3 = 0 → w_X8_hasRoom x2 q4 (fun r5 q6 => ((¬ r5 = 0 → (vp_in x1 6 ∧ ((¬ (q6.1 15 (Int32.toNatClampNeg x1)) = x2 → w_X8_isFull x2 q6 (fun r7 q8 => ((r7 = 0 → w_X8_isTooShyFor x1 x2 q8 (fun r9 q10 => ((r9 = 0 → P 0 q10) ∧ (¬ r9 = 0 → w_X8_singersIn x2 q10 (fun r11 q12 => w_J6_bitCount_0f7a4 r11 q12 (fun r13 q14 => w_X5_keep 6 r13 q14 (fun r15 q16 => P r15 q16))))))) ∧ (¬ r7 = 0 → (vp_in x2 6 ∧ w_X5_keep 5 (q8.1 3 (Int32.toNatClampNeg x2)) q8 (fun r17 q18 => P r17 q18)))))) ∧ ((q6.1 15 (Int32.toNatClampNeg x1)) = x2 → w_X5_keep 4 x2 q6 (fun r19 q20 => P r19 q20))))) ∧ (r5 = 0 → w_X5_keep 2 x2 q6 (fun r21 q22 => P r21 q22))))) ∧ (r3 = 0 → w_X5_keep 2 x1 q4 (fun r23 q24 => P r23 q24))))
def w_X9_isGoingOutRefused (x1 : Int32) (q : aS) (P : Int32 → aS → Prop) : Prop := w_X8_hasSinger x1 q (fun r2 q3 => ((¬ r2 = 0 → w_X8_isInside x1 q3 (fun r4 q5 => ((¬ r4 = 0 → P 0 q5) ∧ (r4 = 0 → w_X5_keep 10 x1 q5 (fun r6 q7 => P r6 q7))))) ∧ (r2 = 0 → w_X5_keep 2 x1 q3 (fun r8 q9 => P r8 q9))))
def w_X9_isCarryingRefused (x1 : Int32) (x2 : Int32) (q : aS) (P : Int32 → aS → Prop) : Prop := w_X8_hasEcho x1 q (fun r3 q4 => ((¬ r3 = 0 → w_X8_hasRoom x2 q4 (fun r5 q6 => ((¬ r5 = 0 → (vp_in x1 8 ∧ ((¬ (q6.1 7 (Int32.toNatClampNeg x1)) = x2 → w_X8_isLet x1 q6 (fun r7 q8 => ((r7 = 0 → P 0 q8) ∧ (¬ r7 = 0 → (vp_in x1 8 ∧ w_X5_keep 7 (q8.1 9 (Int32.toNatClampNeg x1)) q8 (fun r9 q10 => P r9 q10)))))) ∧ ((q6.1 7 (Int32.toNatClampNeg x1)) = x2 → w_X5_keep 4 x2 q6 (fun r11 q12 => P r11 q12))))) ∧ (r5 = 0 → w_X5_keep 2 x2 q6 (fun r13 q14 => P r13 q14))))) ∧ (r3 = 0 → w_X5_keep 2 x1 q4 (fun r15 q16 => P r15 q16))))
def w_X9_isRentingRefused (x1 : Int32) (x2 : Int32) (x3 : Int32) (q : aS) (P : Int32 → aS → Prop) : Prop := w_X8_hasSinger x1 q (fun r4 q5 => ((¬ r4 = 0 → w_X8_hasEcho x2 q5 (fun r6 q7 => ((¬ r6 = 0 → ((x3 < 1 → w_X5_keep 3 x3 q7 (fun r8 q9 => P r8 q9)) ∧ (¬ x3 < 1 → ((x3 ≤ 9 → w_X8_isLet x2 q7 (fun r10 q11 => ((r10 = 0 → w_X8_isWithEcho x1 x2 q11 (fun r12 q13 => ((¬ r12 = 0 → w_X8_canPayFor x1 x2 q13 (fun r14 q15 => ((¬ r14 = 0 → P 0 q15) ∧ (r14 = 0 → (vp_in x1 6 ∧ w_X5_keep 9 (q15.1 14 (Int32.toNatClampNeg x1)) q15 (fun r16 q17 => P r16 q17)))))) ∧ (r12 = 0 → (vp_in x2 8 ∧ w_X5_keep 8 (q13.1 7 (Int32.toNatClampNeg x2)) q13 (fun r18 q19 => P r18 q19)))))) ∧ (¬ r10 = 0 → (vp_in x2 8 ∧ w_X5_keep 7 (q11.1 9 (Int32.toNatClampNeg x2)) q11 (fun r20 q21 => P r20 q21)))))) ∧ (¬ x3 ≤ 9 → w_X5_keep 3 x3 q7 (fun r22 q23 => P r22 q23)))))) ∧ (r6 = 0 → w_X5_keep 2 x2 q7 (fun r24 q25 => P r24 q25))))) ∧ (r4 = 0 → w_X5_keep 2 x1 q5 (fun r26 q27 => P r26 q27))))
def w_X9_isGivingBackRefused (x1 : Int32) (x2 : Int32) (q : aS) (P : Int32 → aS → Prop) : Prop := w_X8_hasSinger x1 q (fun r3 q4 => ((¬ r3 = 0 → w_X8_hasEcho x2 q4 (fun r5 q6 => ((¬ r5 = 0 → (vp_in x2 8 ∧ (((q6.1 9 (Int32.toNatClampNeg x2)) = x1 → P 0 q6) ∧ (¬ (q6.1 9 (Int32.toNatClampNeg x2)) = x1 → (vp_in x2 8 ∧ w_X5_keep 11 (q6.1 9 (Int32.toNatClampNeg x2)) q6 (fun r7 q8 => P r7 q8)))))) ∧ (r5 = 0 → w_X5_keep 2 x2 q6 (fun r9 q10 => P r9 q10))))) ∧ (r3 = 0 → w_X5_keep 2 x1 q4 (fun r11 q12 => P r11 q12))))
def w_X9_isSingingRefused (x1 : Int32) (q : aS) (P : Int32 → aS → Prop) : Prop := w_X8_hasSinger x1 q (fun r2 q3 => ((¬ r2 = 0 → w_X8_isInside x1 q3 (fun r4 q5 => ((¬ r4 = 0 → (vp_in x1 6 ∧ ((1 ≤ (q5.1 14 (Int32.toNatClampNeg x1)) → P 0 q5) ∧ (¬ 1 ≤ (q5.1 14 (Int32.toNatClampNeg x1)) → (vp_in x1 6 ∧ w_X5_keep 9 (q5.1 14 (Int32.toNatClampNeg x1)) q5 (fun r6 q7 => P r6 q7)))))) ∧ (r4 = 0 → w_X5_keep 10 x1 q5 (fun r8 q9 => P r8 q9))))) ∧ (r2 = 0 → w_X5_keep 2 x1 q3 (fun r10 q11 => P r10 q11))))
def w_X9_isRefused (kd : Nat) (x2 : Int32) (x3 : Int32) (x4 : Int32) (q : aS) (P : Int32 → aS → Prop) : Prop := (((swI kd) = 1 → w_X9_isRoomRefused x2 q (fun r4 q5 => P r4 q5)) ∧ (¬ (swI kd) = 1 → (((swI kd) = 2 → w_X9_isEchoRefused x2 x3 q (fun r6 q7 => P r6 q7)) ∧ (¬ (swI kd) = 2 → (((swI kd) = 3 → w_X9_isSingerRefused x2 x3 q (fun r8 q9 => P r8 q9)) ∧ (¬ (swI kd) = 3 → (((swI kd) = 4 → w_X9_isEnteringRefused x2 x3 q (fun r10 q11 => P r10 q11)) ∧ (¬ (swI kd) = 4 → (((swI kd) = 5 → w_X9_isGoingOutRefused x2 q (fun r12 q13 => P r12 q13)) ∧ (¬ (swI kd) = 5 → (((swI kd) = 6 → w_X9_isCarryingRefused x2 x3 q (fun r14 q15 => P r14 q15)) ∧ (¬ (swI kd) = 6 → (((swI kd) = 7 → w_X9_isRentingRefused x2 x3 x4 q (fun r16 q17 => P r16 q17)) ∧ (¬ (swI kd) = 7 → (((swI kd) = 8 → w_X9_isGivingBackRefused x2 x3 q (fun r18 q19 => P r18 q19)) ∧ (¬ (swI kd) = 8 → (((swI kd) = 9 → w_X9_isSingingRefused x2 q (fun r20 q21 => P r20 q21)) ∧ (¬ (swI kd) = 9 → P 0 q))))))))))))))))))
def w_X9_doOrder (kd : Nat) (x2 : Int32) (x3 : Int32) (x4 : Int32) (q : aS) (P : Int32 → aS → Prop) : Prop := (((swI kd) = 1 → w_X8_addRoom x2 q (fun r4 q5 => P r4 q5)) ∧ (¬ (swI kd) = 1 → (((swI kd) = 2 → w_X8_addEcho x2 x3 q (fun r6 q7 => P r6 q7)) ∧ (¬ (swI kd) = 2 → (((swI kd) = 3 → w_X8_addSinger x2 x3 q (fun r8 q9 => P r8 q9)) ∧ (¬ (swI kd) = 3 → (((swI kd) = 4 → w_X8_moveIn x2 x3 q (fun r10 q11 => P r10 q11)) ∧ (¬ (swI kd) = 4 → (((swI kd) = 5 → w_X8_moveOut x2 q (fun r12 q13 => P r12 q13)) ∧ (¬ (swI kd) = 5 → (((swI kd) = 6 → w_X8_moveEcho x2 x3 q (fun r14 q15 => P r14 q15)) ∧ (¬ (swI kd) = 6 → (((swI kd) = 7 → w_X8_letEcho x2 x3 x4 q (fun r16 q17 => P r16 q17)) ∧ (¬ (swI kd) = 7 → (((swI kd) = 8 → w_X8_endLetting x3 q (fun r18 q19 => P r18 q19)) ∧ (¬ (swI kd) = 8 → (((swI kd) = 9 → w_X8_singVerse x2 q (fun r20 q21 => P r20 q21)) ∧ (¬ (swI kd) = 9 → w_X8_letNightPass q (fun r22 q23 => P r22 q23)))))))))))))))))))
def w_X9_change (kd : Nat) (x2 : Int32) (x3 : Int32) (x4 : Int32) (q : aS) (P : Int32 → aS → Prop) (X : String → aS → Prop) : Prop := w_X9_isRefused kd x2 x3 x4 q (fun r4 q5 => ((r4 = 0 → w_X4_keep 1 q5 (fun _ q7 => w_X9_doOrder kd x2 x3 x4 q7 (fun r8 q9 => P r8 q9))) ∧ (¬ r4 = 0 → X "java/lang/UnsupportedOperationException" q5)))
set_option maxRecDepth 20000 in
theorem t_X9_checkRoom {l : Launch} {g : aG} (hX : isX g) (hl : l.stackTraces = false) (x1 : Int32) (q : aS) (P : Int32 → aS → Prop) (X : String → aS → Prop) (h : w_X9_checkRoom x1 q P X) : aMv l g yX9_checkRoom (aWs yX9_checkRoom cX9_checkRoom 2 none) 8 1 6 [.ref (gAd g 0), .int x1] q P X := by
  refine aMv_of RX9 ⟨by decide +kernel, rfl⟩ (cat_all rfl) (Nat.le_of_ble_eq_true rfl) hl hX.cl (fun f hR hC hE => ?_)
  show AW f g 0 [some (.ref (gAd g 0)), some (.int x1)] [] q 0 0
  unfold w_X9_checkRoom at h
  refine a_aload_n (pc := 0) hC dX9_checkRoom_0 rfl ?_
  refine a_get (pc := 1) hC cl_X9 (oX_0 hX) 0 (by decide) tw_303 rfl dX9_checkRoom_1 ?_
  refine a_iload_n (pc := 4) hC dX9_checkRoom_4 rfl ?_
  refine a_callV (pc := 5) hC hR vm_X8_hasRoom tw_470 cl_X8 (oX_1 hX) ⟨(Nat.le_of_ble_eq_true rfl), (Nat.le_of_ble_eq_true rfl), (Nat.le_of_ble_eq_true rfl), (Nat.le_of_ble_eq_true rfl)⟩ dX9_checkRoom_5 (t_X8_hasRoom hX hC.tr _ _ _ h) rfl rfl rfl (Nat.le_of_ble_eq_true rfl) (fun r2 q3 h => ?_)
  have z_r2 := h.1
  replace h := h.2
  refine a_if_ne (pc := 8) (tgt := 22) hC dX9_checkRoom_8 (by decide) (fun c => ?_) (fun c => ?_)
  · replace h := h.1 c
    exact a_vret (pc := 22) hC hE h (Nat.le_of_ble_eq_true rfl) (Nat.le_of_ble_eq_true rfl) dX9_checkRoom_22
  · replace h := h.2 c
    exact a_throwW (pc := 11) hX hC hR hE.1 ex_345 mm_396 rfl ⟨(Nat.le_of_ble_eq_true rfl), (Nat.le_of_ble_eq_true rfl), (Nat.le_of_ble_eq_true rfl), (Nat.le_of_ble_eq_true rfl), (Nat.le_of_ble_eq_true rfl)⟩ (Nat.le_of_ble_eq_true rfl) dX9_checkRoom_11 dX9_checkRoom_14 dX9_checkRoom_15 dX9_checkRoom_18 dX9_checkRoom_21 h
set_option maxRecDepth 20000 in
theorem t_X9_checkEcho {l : Launch} {g : aG} (hX : isX g) (hl : l.stackTraces = false) (x1 : Int32) (q : aS) (P : Int32 → aS → Prop) (X : String → aS → Prop) (h : w_X9_checkEcho x1 q P X) : aMv l g yX9_checkEcho (aWs yX9_checkEcho cX9_checkEcho 2 none) 8 1 6 [.ref (gAd g 0), .int x1] q P X := by
  refine aMv_of RX9 ⟨by decide +kernel, rfl⟩ (cat_all rfl) (Nat.le_of_ble_eq_true rfl) hl hX.cl (fun f hR hC hE => ?_)
  show AW f g 0 [some (.ref (gAd g 0)), some (.int x1)] [] q 0 0
  unfold w_X9_checkEcho at h
  refine a_aload_n (pc := 0) hC dX9_checkEcho_0 rfl ?_
  refine a_get (pc := 1) hC cl_X9 (oX_0 hX) 0 (by decide) tw_303 rfl dX9_checkEcho_1 ?_
  refine a_iload_n (pc := 4) hC dX9_checkEcho_4 rfl ?_
  refine a_callV (pc := 5) hC hR vm_X8_hasEcho tw_518 cl_X8 (oX_1 hX) ⟨(Nat.le_of_ble_eq_true rfl), (Nat.le_of_ble_eq_true rfl), (Nat.le_of_ble_eq_true rfl), (Nat.le_of_ble_eq_true rfl)⟩ dX9_checkEcho_5 (t_X8_hasEcho hX hC.tr _ _ _ h) rfl rfl rfl (Nat.le_of_ble_eq_true rfl) (fun r2 q3 h => ?_)
  have z_r2 := h.1
  replace h := h.2
  refine a_if_ne (pc := 8) (tgt := 22) hC dX9_checkEcho_8 (by decide) (fun c => ?_) (fun c => ?_)
  · replace h := h.1 c
    exact a_vret (pc := 22) hC hE h (Nat.le_of_ble_eq_true rfl) (Nat.le_of_ble_eq_true rfl) dX9_checkEcho_22
  · replace h := h.2 c
    exact a_throwW (pc := 11) hX hC hR hE.1 ex_345 mm_401 rfl ⟨(Nat.le_of_ble_eq_true rfl), (Nat.le_of_ble_eq_true rfl), (Nat.le_of_ble_eq_true rfl), (Nat.le_of_ble_eq_true rfl), (Nat.le_of_ble_eq_true rfl)⟩ (Nat.le_of_ble_eq_true rfl) dX9_checkEcho_11 dX9_checkEcho_14 dX9_checkEcho_15 dX9_checkEcho_18 dX9_checkEcho_21 h
set_option maxRecDepth 20000 in
theorem t_X9_checkSinger {l : Launch} {g : aG} (hX : isX g) (hl : l.stackTraces = false) (x1 : Int32) (q : aS) (P : Int32 → aS → Prop) (X : String → aS → Prop) (h : w_X9_checkSinger x1 q P X) : aMv l g yX9_checkSinger (aWs yX9_checkSinger cX9_checkSinger 2 none) 8 1 6 [.ref (gAd g 0), .int x1] q P X := by
  refine aMv_of RX9 ⟨by decide +kernel, rfl⟩ (cat_all rfl) (Nat.le_of_ble_eq_true rfl) hl hX.cl (fun f hR hC hE => ?_)
  show AW f g 0 [some (.ref (gAd g 0)), some (.int x1)] [] q 0 0
  unfold w_X9_checkSinger at h
  refine a_aload_n (pc := 0) hC dX9_checkSinger_0 rfl ?_
  refine a_get (pc := 1) hC cl_X9 (oX_0 hX) 0 (by decide) tw_303 rfl dX9_checkSinger_1 ?_
  refine a_iload_n (pc := 4) hC dX9_checkSinger_4 rfl ?_
  refine a_callV (pc := 5) hC hR vm_X8_hasSinger tw_532 cl_X8 (oX_1 hX) ⟨(Nat.le_of_ble_eq_true rfl), (Nat.le_of_ble_eq_true rfl), (Nat.le_of_ble_eq_true rfl), (Nat.le_of_ble_eq_true rfl)⟩ dX9_checkSinger_5 (t_X8_hasSinger hX hC.tr _ _ _ h) rfl rfl rfl (Nat.le_of_ble_eq_true rfl) (fun r2 q3 h => ?_)
  have z_r2 := h.1
  replace h := h.2
  refine a_if_ne (pc := 8) (tgt := 22) hC dX9_checkSinger_8 (by decide) (fun c => ?_) (fun c => ?_)
  · replace h := h.1 c
    exact a_vret (pc := 22) hC hE h (Nat.le_of_ble_eq_true rfl) (Nat.le_of_ble_eq_true rfl) dX9_checkSinger_22
  · replace h := h.2 c
    exact a_throwW (pc := 11) hX hC hR hE.1 ex_345 mm_406 rfl ⟨(Nat.le_of_ble_eq_true rfl), (Nat.le_of_ble_eq_true rfl), (Nat.le_of_ble_eq_true rfl), (Nat.le_of_ble_eq_true rfl), (Nat.le_of_ble_eq_true rfl)⟩ (Nat.le_of_ble_eq_true rfl) dX9_checkSinger_11 dX9_checkSinger_14 dX9_checkSinger_15 dX9_checkSinger_18 dX9_checkSinger_21 h
set_option maxRecDepth 20000 in
theorem t_X9_checkSingerInside {l : Launch} {g : aG} (hX : isX g) (hl : l.stackTraces = false) (x1 : Int32) (q : aS) (P : Int32 → aS → Prop) (X : String → aS → Prop) (h : w_X9_checkSingerInside x1 q P X) : aMv l g yX9_checkSingerInside (aWs yX9_checkSingerInside cX9_checkSingerInside 2 none) 9 2 12 [.ref (gAd g 0), .int x1] q P X := by
  refine aMv_of RX9 ⟨by decide +kernel, rfl⟩ (cat_all rfl) (Nat.le_of_ble_eq_true rfl) hl hX.cl (fun f hR hC hE => ?_)
  show AW f g 0 [some (.ref (gAd g 0)), some (.int x1)] [] q 0 0
  unfold w_X9_checkSingerInside at h
  refine a_aload_n (pc := 0) hC dX9_checkSingerInside_0 rfl ?_
  refine a_iload_n (pc := 1) hC dX9_checkSingerInside_1 rfl ?_
  refine a_callVvx (pc := 2) hC hR hE.1 ⟨(Nat.le_of_ble_eq_true rfl), (Nat.le_of_ble_eq_true rfl)⟩ vm_X9_checkSinger tw_528 cl_X9 (oX_0 hX) ⟨(Nat.le_of_ble_eq_true rfl), (Nat.le_of_ble_eq_true rfl), (Nat.le_of_ble_eq_true rfl), (Nat.le_of_ble_eq_true rfl)⟩ dX9_checkSingerInside_2 (t_X9_checkSinger hX hC.tr _ _ _ _ h) rfl rfl rfl (Nat.le_of_ble_eq_true rfl) (fun q3 h => ?_)
  refine a_aload_n (pc := 5) hC dX9_checkSingerInside_5 rfl ?_
  refine a_get (pc := 6) hC cl_X9 (oX_0 hX) 0 (by decide) tw_303 rfl dX9_checkSingerInside_6 ?_
  refine a_iload_n (pc := 9) hC dX9_checkSingerInside_9 rfl ?_
  refine a_callV (pc := 10) hC hR vm_X8_isInside tw_548 cl_X8 (oX_1 hX) ⟨(Nat.le_of_ble_eq_true rfl), (Nat.le_of_ble_eq_true rfl), (Nat.le_of_ble_eq_true rfl), (Nat.le_of_ble_eq_true rfl)⟩ dX9_checkSingerInside_10 (t_X8_isInside hX hC.tr _ _ _ h) rfl rfl rfl (Nat.le_of_ble_eq_true rfl) (fun r4 q5 h => ?_)
  have z_r4 := h.1
  replace h := h.2
  refine a_if_ne (pc := 13) (tgt := 27) hC dX9_checkSingerInside_13 (by decide) (fun c => ?_) (fun c => ?_)
  · replace h := h.1 c
    exact a_vret (pc := 27) hC hE h (Nat.le_of_ble_eq_true rfl) (Nat.le_of_ble_eq_true rfl) dX9_checkSingerInside_27
  · replace h := h.2 c
    exact a_throwN (pc := 16) true hX hC hR hE.1 ex_204 mm_408 rfl ⟨(Nat.le_of_ble_eq_true rfl), (Nat.le_of_ble_eq_true rfl), (Nat.le_of_ble_eq_true rfl), (Nat.le_of_ble_eq_true rfl), (Nat.le_of_ble_eq_true rfl)⟩ (Nat.le_of_ble_eq_true rfl) dX9_checkSingerInside_16 dX9_checkSingerInside_19 dX9_checkSingerInside_20 dX9_checkSingerInside_23 dX9_checkSingerInside_26 h
set_option maxRecDepth 20000 in
theorem t_X9_isRoomRefused {l : Launch} {g : aG} (hX : isX g) (hl : l.stackTraces = false) (x1 : Int32) (q : aS) (P : Int32 → aS → Prop) (h : w_X9_isRoomRefused x1 q P) : aMi l g yX9_isRoomRefused (aWs yX9_isRoomRefused cX9_isRoomRefused 2 (some .boolean)) 1 0 0 [.ref (gAd g 0), .int x1] q (fun r u => (r = 0 ∨ r = 1) ∧ P r u) (fun _ _ => False) := by
  refine aMi_of RX9 ⟨by decide +kernel, rfl⟩ (cat_all rfl) (Nat.le_of_ble_eq_true rfl) hl hX.cl (fun f hR hC hE => ?_)
  show AW f g 0 [some (.ref (gAd g 0)), some (.int x1)] [] q 0 0
  unfold w_X9_isRoomRefused at h
  refine a_iload_n (pc := 0) hC dX9_isRoomRefused_0 rfl ?_
  refine a_iconst (pc := 1) hC dX9_isRoomRefused_1 (v := 1) rfl ?_
  refine a_icmp_lt (pc := 2) (tgt := 11) hC dX9_isRoomRefused_2 (by decide) (fun c => ?_) (fun c => ?_)
  · replace h := h.1 c
    refine a_aload_n (pc := 11) hC dX9_isRoomRefused_11 rfl ?_
    refine a_get (pc := 12) hC cl_X9 (oX_0 hX) 6 (by decide) tw_308 rfl dX9_isRoomRefused_12 ?_
    refine a_iconst (pc := 15) hC dX9_isRoomRefused_15 (v := 3) rfl ?_
    refine a_iload_n (pc := 16) hC dX9_isRoomRefused_16 rfl ?_
    refine a_callV (pc := 17) hC hR vm_X5_keep tw_705 cl_X5 (oX_204 hX) ⟨(Nat.le_of_ble_eq_true rfl), (Nat.le_of_ble_eq_true rfl), (Nat.le_of_ble_eq_true rfl), (Nat.le_of_ble_eq_true rfl)⟩ dX9_isRoomRefused_17 (t_X5_keep hX hC.tr _ _ _ _ h) rfl rfl rfl (Nat.le_of_ble_eq_true rfl) (fun r2 q3 h => ?_)
    have z_r2 := h.1
    replace h := h.2
    exact a_bret (pc := 20) hC hE z_r2 h (Nat.le_of_ble_eq_true rfl) (Nat.le_of_ble_eq_true rfl) dX9_isRoomRefused_20
  · replace h := h.2 c
    refine a_iload_n (pc := 5) hC dX9_isRoomRefused_5 rfl ?_
    refine a_bipush (pc := 6) hC dX9_isRoomRefused_6 (v := 9) rfl ?_
    refine a_icmp_le (pc := 8) (tgt := 21) hC dX9_isRoomRefused_8 (by decide) (fun c => ?_) (fun c => ?_)
    · replace h := h.1 c
      refine a_aload_n (pc := 21) hC dX9_isRoomRefused_21 rfl ?_
      refine a_get (pc := 22) hC cl_X9 (oX_0 hX) 0 (by decide) tw_303 rfl dX9_isRoomRefused_22 ?_
      refine a_get (pc := 25) hC cl_X8 (oX_1 hX) 0 (by decide) tw_151 rfl dX9_isRoomRefused_25 ?_
      refine a_get (pc := 28) hC cl_X6 (oX_2 hX) 0 (by decide) tw_56 rfl dX9_isRoomRefused_28 ?_
      refine a_bipush (pc := 31) hC dX9_isRoomRefused_31 (v := 6) rfl ?_
      refine a_icmp_lt (pc := 33) (tgt := 47) hC dX9_isRoomRefused_33 (by decide) (fun c => ?_) (fun c => ?_)
      · replace h := h.1 c
        refine a_iconst (pc := 47) hC dX9_isRoomRefused_47 (v := 0) rfl ?_
        exact a_bret (pc := 48) hC hE (Or.inl rfl) h (Nat.le_of_ble_eq_true rfl) (Nat.le_of_ble_eq_true rfl) dX9_isRoomRefused_48
      · replace h := h.2 c
        refine a_aload_n (pc := 36) hC dX9_isRoomRefused_36 rfl ?_
        refine a_get (pc := 37) hC cl_X9 (oX_0 hX) 6 (by decide) tw_308 rfl dX9_isRoomRefused_37 ?_
        refine a_iconst (pc := 40) hC dX9_isRoomRefused_40 (v := 1) rfl ?_
        refine a_bipush (pc := 41) hC dX9_isRoomRefused_41 (v := 6) rfl ?_
        refine a_callV (pc := 43) hC hR vm_X5_keep tw_705 cl_X5 (oX_204 hX) ⟨(Nat.le_of_ble_eq_true rfl), (Nat.le_of_ble_eq_true rfl), (Nat.le_of_ble_eq_true rfl), (Nat.le_of_ble_eq_true rfl)⟩ dX9_isRoomRefused_43 (t_X5_keep hX hC.tr _ _ _ _ h) rfl rfl rfl (Nat.le_of_ble_eq_true rfl) (fun r4 q5 h => ?_)
        have z_r4 := h.1
        replace h := h.2
        exact a_bret (pc := 46) hC hE z_r4 h (Nat.le_of_ble_eq_true rfl) (Nat.le_of_ble_eq_true rfl) dX9_isRoomRefused_46
    · replace h := h.2 c
      refine a_aload_n (pc := 11) hC dX9_isRoomRefused_11 rfl ?_
      refine a_get (pc := 12) hC cl_X9 (oX_0 hX) 6 (by decide) tw_308 rfl dX9_isRoomRefused_12 ?_
      refine a_iconst (pc := 15) hC dX9_isRoomRefused_15 (v := 3) rfl ?_
      refine a_iload_n (pc := 16) hC dX9_isRoomRefused_16 rfl ?_
      refine a_callV (pc := 17) hC hR vm_X5_keep tw_705 cl_X5 (oX_204 hX) ⟨(Nat.le_of_ble_eq_true rfl), (Nat.le_of_ble_eq_true rfl), (Nat.le_of_ble_eq_true rfl), (Nat.le_of_ble_eq_true rfl)⟩ dX9_isRoomRefused_17 (t_X5_keep hX hC.tr _ _ _ _ h) rfl rfl rfl (Nat.le_of_ble_eq_true rfl) (fun r6 q7 h => ?_)
      have z_r6 := h.1
      replace h := h.2
      exact a_bret (pc := 20) hC hE z_r6 h (Nat.le_of_ble_eq_true rfl) (Nat.le_of_ble_eq_true rfl) dX9_isRoomRefused_20
set_option maxRecDepth 20000 in
theorem t_X9_isEchoRefused {l : Launch} {g : aG} (hX : isX g) (hl : l.stackTraces = false) (x1 : Int32) (x2 : Int32) (q : aS) (P : Int32 → aS → Prop) (h : w_X9_isEchoRefused x1 x2 q P) : aMi l g yX9_isEchoRefused (aWs yX9_isEchoRefused cX9_isEchoRefused 3 (some .boolean)) 1 0 0 [.ref (gAd g 0), .int x1, .int x2] q (fun r u => (r = 0 ∨ r = 1) ∧ P r u) (fun _ _ => False) := by
  refine aMi_of RX9 ⟨by decide +kernel, rfl⟩ (cat_all rfl) (Nat.le_of_ble_eq_true rfl) hl hX.cl (fun f hR hC hE => ?_)
  show AW f g 0 [some (.ref (gAd g 0)), some (.int x1), some (.int x2)] [] q 0 0
  unfold w_X9_isEchoRefused at h
  refine a_aload_n (pc := 0) hC dX9_isEchoRefused_0 rfl ?_
  refine a_get (pc := 1) hC cl_X9 (oX_0 hX) 0 (by decide) tw_303 rfl dX9_isEchoRefused_1 ?_
  refine a_iload_n (pc := 4) hC dX9_isEchoRefused_4 rfl ?_
  refine a_callV (pc := 5) hC hR vm_X8_hasRoom tw_470 cl_X8 (oX_1 hX) ⟨(Nat.le_of_ble_eq_true rfl), (Nat.le_of_ble_eq_true rfl), (Nat.le_of_ble_eq_true rfl), (Nat.le_of_ble_eq_true rfl)⟩ dX9_isEchoRefused_5 (t_X8_hasRoom hX hC.tr _ _ _ h) rfl rfl rfl (Nat.le_of_ble_eq_true rfl) (fun r3 q4 h => ?_)
  have z_r3 := h.1
  replace h := h.2
  refine a_if_ne (pc := 8) (tgt := 21) hC dX9_isEchoRefused_8 (by decide) (fun c => ?_) (fun c => ?_)
  · replace h := h.1 c
    refine a_iload_n (pc := 21) hC dX9_isEchoRefused_21 rfl ?_
    refine a_iconst (pc := 22) hC dX9_isEchoRefused_22 (v := 1) rfl ?_
    refine a_icmp_lt (pc := 23) (tgt := 32) hC dX9_isEchoRefused_23 (by decide) (fun c => ?_) (fun c => ?_)
    · replace h := h.1 c
      refine a_aload_n (pc := 32) hC dX9_isEchoRefused_32 rfl ?_
      refine a_get (pc := 33) hC cl_X9 (oX_0 hX) 6 (by decide) tw_308 rfl dX9_isEchoRefused_33 ?_
      refine a_iconst (pc := 36) hC dX9_isEchoRefused_36 (v := 3) rfl ?_
      refine a_iload_n (pc := 37) hC dX9_isEchoRefused_37 rfl ?_
      refine a_callV (pc := 38) hC hR vm_X5_keep tw_705 cl_X5 (oX_204 hX) ⟨(Nat.le_of_ble_eq_true rfl), (Nat.le_of_ble_eq_true rfl), (Nat.le_of_ble_eq_true rfl), (Nat.le_of_ble_eq_true rfl)⟩ dX9_isEchoRefused_38 (t_X5_keep hX hC.tr _ _ _ _ h) rfl rfl rfl (Nat.le_of_ble_eq_true rfl) (fun r5 q6 h => ?_)
      have z_r5 := h.1
      replace h := h.2
      exact a_bret (pc := 41) hC hE z_r5 h (Nat.le_of_ble_eq_true rfl) (Nat.le_of_ble_eq_true rfl) dX9_isEchoRefused_41
    · replace h := h.2 c
      refine a_iload_n (pc := 26) hC dX9_isEchoRefused_26 rfl ?_
      refine a_bipush (pc := 27) hC dX9_isEchoRefused_27 (v := 9) rfl ?_
      refine a_icmp_le (pc := 29) (tgt := 42) hC dX9_isEchoRefused_29 (by decide) (fun c => ?_) (fun c => ?_)
      · replace h := h.1 c
        refine a_aload_n (pc := 42) hC dX9_isEchoRefused_42 rfl ?_
        refine a_get (pc := 43) hC cl_X9 (oX_0 hX) 0 (by decide) tw_303 rfl dX9_isEchoRefused_43 ?_
        refine a_get (pc := 46) hC cl_X8 (oX_1 hX) 1 (by decide) tw_153 rfl dX9_isEchoRefused_46 ?_
        refine a_get (pc := 49) hC cl_X1 (oX_6 hX) 0 (by decide) tw_84 rfl dX9_isEchoRefused_49 ?_
        refine a_bipush (pc := 52) hC dX9_isEchoRefused_52 (v := 8) rfl ?_
        refine a_icmp_lt (pc := 54) (tgt := 68) hC dX9_isEchoRefused_54 (by decide) (fun c => ?_) (fun c => ?_)
        · replace h := h.1 c
          refine a_iconst (pc := 68) hC dX9_isEchoRefused_68 (v := 0) rfl ?_
          exact a_bret (pc := 69) hC hE (Or.inl rfl) h (Nat.le_of_ble_eq_true rfl) (Nat.le_of_ble_eq_true rfl) dX9_isEchoRefused_69
        · replace h := h.2 c
          refine a_aload_n (pc := 57) hC dX9_isEchoRefused_57 rfl ?_
          refine a_get (pc := 58) hC cl_X9 (oX_0 hX) 6 (by decide) tw_308 rfl dX9_isEchoRefused_58 ?_
          refine a_iconst (pc := 61) hC dX9_isEchoRefused_61 (v := 1) rfl ?_
          refine a_bipush (pc := 62) hC dX9_isEchoRefused_62 (v := 8) rfl ?_
          refine a_callV (pc := 64) hC hR vm_X5_keep tw_705 cl_X5 (oX_204 hX) ⟨(Nat.le_of_ble_eq_true rfl), (Nat.le_of_ble_eq_true rfl), (Nat.le_of_ble_eq_true rfl), (Nat.le_of_ble_eq_true rfl)⟩ dX9_isEchoRefused_64 (t_X5_keep hX hC.tr _ _ _ _ h) rfl rfl rfl (Nat.le_of_ble_eq_true rfl) (fun r7 q8 h => ?_)
          have z_r7 := h.1
          replace h := h.2
          exact a_bret (pc := 67) hC hE z_r7 h (Nat.le_of_ble_eq_true rfl) (Nat.le_of_ble_eq_true rfl) dX9_isEchoRefused_67
      · replace h := h.2 c
        refine a_aload_n (pc := 32) hC dX9_isEchoRefused_32 rfl ?_
        refine a_get (pc := 33) hC cl_X9 (oX_0 hX) 6 (by decide) tw_308 rfl dX9_isEchoRefused_33 ?_
        refine a_iconst (pc := 36) hC dX9_isEchoRefused_36 (v := 3) rfl ?_
        refine a_iload_n (pc := 37) hC dX9_isEchoRefused_37 rfl ?_
        refine a_callV (pc := 38) hC hR vm_X5_keep tw_705 cl_X5 (oX_204 hX) ⟨(Nat.le_of_ble_eq_true rfl), (Nat.le_of_ble_eq_true rfl), (Nat.le_of_ble_eq_true rfl), (Nat.le_of_ble_eq_true rfl)⟩ dX9_isEchoRefused_38 (t_X5_keep hX hC.tr _ _ _ _ h) rfl rfl rfl (Nat.le_of_ble_eq_true rfl) (fun r9 q10 h => ?_)
        have z_r9 := h.1
        replace h := h.2
        exact a_bret (pc := 41) hC hE z_r9 h (Nat.le_of_ble_eq_true rfl) (Nat.le_of_ble_eq_true rfl) dX9_isEchoRefused_41
  · replace h := h.2 c
    refine a_aload_n (pc := 11) hC dX9_isEchoRefused_11 rfl ?_
    refine a_get (pc := 12) hC cl_X9 (oX_0 hX) 6 (by decide) tw_308 rfl dX9_isEchoRefused_12 ?_
    refine a_iconst (pc := 15) hC dX9_isEchoRefused_15 (v := 2) rfl ?_
    refine a_iload_n (pc := 16) hC dX9_isEchoRefused_16 rfl ?_
    refine a_callV (pc := 17) hC hR vm_X5_keep tw_705 cl_X5 (oX_204 hX) ⟨(Nat.le_of_ble_eq_true rfl), (Nat.le_of_ble_eq_true rfl), (Nat.le_of_ble_eq_true rfl), (Nat.le_of_ble_eq_true rfl)⟩ dX9_isEchoRefused_17 (t_X5_keep hX hC.tr _ _ _ _ h) rfl rfl rfl (Nat.le_of_ble_eq_true rfl) (fun r11 q12 h => ?_)
    have z_r11 := h.1
    replace h := h.2
    exact a_bret (pc := 20) hC hE z_r11 h (Nat.le_of_ble_eq_true rfl) (Nat.le_of_ble_eq_true rfl) dX9_isEchoRefused_20
set_option maxRecDepth 20000 in
theorem t_X9_isSingerRefused {l : Launch} {g : aG} (hX : isX g) (hl : l.stackTraces = false) (x1 : Int32) (x2 : Int32) (q : aS) (P : Int32 → aS → Prop) (h : w_X9_isSingerRefused x1 x2 q P) : aMi l g yX9_isSingerRefused (aWs yX9_isSingerRefused cX9_isSingerRefused 3 (some .boolean)) 1 0 0 [.ref (gAd g 0), .int x1, .int x2] q (fun r u => (r = 0 ∨ r = 1) ∧ P r u) (fun _ _ => False) := by
  refine aMi_of RX9 ⟨by decide +kernel, rfl⟩ (cat_all rfl) (Nat.le_of_ble_eq_true rfl) hl hX.cl (fun f hR hC hE => ?_)
  show AW f g 0 [some (.ref (gAd g 0)), some (.int x1), some (.int x2)] [] q 0 0
  unfold w_X9_isSingerRefused at h
  refine a_iload_n (pc := 0) hC dX9_isSingerRefused_0 rfl ?_
  refine a_if_lt (pc := 1) (tgt := 10) hC dX9_isSingerRefused_1 (by decide) (fun c => ?_) (fun c => ?_)
  · replace h := h.1 c
    refine a_aload_n (pc := 10) hC dX9_isSingerRefused_10 rfl ?_
    refine a_get (pc := 11) hC cl_X9 (oX_0 hX) 6 (by decide) tw_308 rfl dX9_isSingerRefused_11 ?_
    refine a_iconst (pc := 14) hC dX9_isSingerRefused_14 (v := 3) rfl ?_
    refine a_iload_n (pc := 15) hC dX9_isSingerRefused_15 rfl ?_
    refine a_callV (pc := 16) hC hR vm_X5_keep tw_705 cl_X5 (oX_204 hX) ⟨(Nat.le_of_ble_eq_true rfl), (Nat.le_of_ble_eq_true rfl), (Nat.le_of_ble_eq_true rfl), (Nat.le_of_ble_eq_true rfl)⟩ dX9_isSingerRefused_16 (t_X5_keep hX hC.tr _ _ _ _ h) rfl rfl rfl (Nat.le_of_ble_eq_true rfl) (fun r3 q4 h => ?_)
    have z_r3 := h.1
    replace h := h.2
    exact a_bret (pc := 19) hC hE z_r3 h (Nat.le_of_ble_eq_true rfl) (Nat.le_of_ble_eq_true rfl) dX9_isSingerRefused_19
  · replace h := h.2 c
    refine a_iload_n (pc := 4) hC dX9_isSingerRefused_4 rfl ?_
    refine a_bipush (pc := 5) hC dX9_isSingerRefused_5 (v := 9) rfl ?_
    refine a_icmp_le (pc := 7) (tgt := 20) hC dX9_isSingerRefused_7 (by decide) (fun c => ?_) (fun c => ?_)
    · replace h := h.1 c
      refine a_iload_n (pc := 20) hC dX9_isSingerRefused_20 rfl ?_
      refine a_if_lt (pc := 21) (tgt := 30) hC dX9_isSingerRefused_21 (by decide) (fun c => ?_) (fun c => ?_)
      · replace h := h.1 c
        refine a_aload_n (pc := 30) hC dX9_isSingerRefused_30 rfl ?_
        refine a_get (pc := 31) hC cl_X9 (oX_0 hX) 6 (by decide) tw_308 rfl dX9_isSingerRefused_31 ?_
        refine a_iconst (pc := 34) hC dX9_isSingerRefused_34 (v := 3) rfl ?_
        refine a_iload_n (pc := 35) hC dX9_isSingerRefused_35 rfl ?_
        refine a_callV (pc := 36) hC hR vm_X5_keep tw_705 cl_X5 (oX_204 hX) ⟨(Nat.le_of_ble_eq_true rfl), (Nat.le_of_ble_eq_true rfl), (Nat.le_of_ble_eq_true rfl), (Nat.le_of_ble_eq_true rfl)⟩ dX9_isSingerRefused_36 (t_X5_keep hX hC.tr _ _ _ _ h) rfl rfl rfl (Nat.le_of_ble_eq_true rfl) (fun r5 q6 h => ?_)
        have z_r5 := h.1
        replace h := h.2
        exact a_bret (pc := 39) hC hE z_r5 h (Nat.le_of_ble_eq_true rfl) (Nat.le_of_ble_eq_true rfl) dX9_isSingerRefused_39
      · replace h := h.2 c
        refine a_iload_n (pc := 24) hC dX9_isSingerRefused_24 rfl ?_
        refine a_bipush (pc := 25) hC dX9_isSingerRefused_25 (v := 99) rfl ?_
        refine a_icmp_le (pc := 27) (tgt := 40) hC dX9_isSingerRefused_27 (by decide) (fun c => ?_) (fun c => ?_)
        · replace h := h.1 c
          refine a_aload_n (pc := 40) hC dX9_isSingerRefused_40 rfl ?_
          refine a_get (pc := 41) hC cl_X9 (oX_0 hX) 0 (by decide) tw_303 rfl dX9_isSingerRefused_41 ?_
          refine a_get (pc := 44) hC cl_X8 (oX_1 hX) 2 (by decide) tw_155 rfl dX9_isSingerRefused_44 ?_
          refine a_get (pc := 47) hC cl_X7 (oX_12 hX) 0 (by decide) tw_121 rfl dX9_isSingerRefused_47 ?_
          refine a_bipush (pc := 50) hC dX9_isSingerRefused_50 (v := 6) rfl ?_
          refine a_icmp_lt (pc := 52) (tgt := 66) hC dX9_isSingerRefused_52 (by decide) (fun c => ?_) (fun c => ?_)
          · replace h := h.1 c
            refine a_iconst (pc := 66) hC dX9_isSingerRefused_66 (v := 0) rfl ?_
            exact a_bret (pc := 67) hC hE (Or.inl rfl) h (Nat.le_of_ble_eq_true rfl) (Nat.le_of_ble_eq_true rfl) dX9_isSingerRefused_67
          · replace h := h.2 c
            refine a_aload_n (pc := 55) hC dX9_isSingerRefused_55 rfl ?_
            refine a_get (pc := 56) hC cl_X9 (oX_0 hX) 6 (by decide) tw_308 rfl dX9_isSingerRefused_56 ?_
            refine a_iconst (pc := 59) hC dX9_isSingerRefused_59 (v := 1) rfl ?_
            refine a_bipush (pc := 60) hC dX9_isSingerRefused_60 (v := 6) rfl ?_
            refine a_callV (pc := 62) hC hR vm_X5_keep tw_705 cl_X5 (oX_204 hX) ⟨(Nat.le_of_ble_eq_true rfl), (Nat.le_of_ble_eq_true rfl), (Nat.le_of_ble_eq_true rfl), (Nat.le_of_ble_eq_true rfl)⟩ dX9_isSingerRefused_62 (t_X5_keep hX hC.tr _ _ _ _ h) rfl rfl rfl (Nat.le_of_ble_eq_true rfl) (fun r7 q8 h => ?_)
            have z_r7 := h.1
            replace h := h.2
            exact a_bret (pc := 65) hC hE z_r7 h (Nat.le_of_ble_eq_true rfl) (Nat.le_of_ble_eq_true rfl) dX9_isSingerRefused_65
        · replace h := h.2 c
          refine a_aload_n (pc := 30) hC dX9_isSingerRefused_30 rfl ?_
          refine a_get (pc := 31) hC cl_X9 (oX_0 hX) 6 (by decide) tw_308 rfl dX9_isSingerRefused_31 ?_
          refine a_iconst (pc := 34) hC dX9_isSingerRefused_34 (v := 3) rfl ?_
          refine a_iload_n (pc := 35) hC dX9_isSingerRefused_35 rfl ?_
          refine a_callV (pc := 36) hC hR vm_X5_keep tw_705 cl_X5 (oX_204 hX) ⟨(Nat.le_of_ble_eq_true rfl), (Nat.le_of_ble_eq_true rfl), (Nat.le_of_ble_eq_true rfl), (Nat.le_of_ble_eq_true rfl)⟩ dX9_isSingerRefused_36 (t_X5_keep hX hC.tr _ _ _ _ h) rfl rfl rfl (Nat.le_of_ble_eq_true rfl) (fun r9 q10 h => ?_)
          have z_r9 := h.1
          replace h := h.2
          exact a_bret (pc := 39) hC hE z_r9 h (Nat.le_of_ble_eq_true rfl) (Nat.le_of_ble_eq_true rfl) dX9_isSingerRefused_39
    · replace h := h.2 c
      refine a_aload_n (pc := 10) hC dX9_isSingerRefused_10 rfl ?_
      refine a_get (pc := 11) hC cl_X9 (oX_0 hX) 6 (by decide) tw_308 rfl dX9_isSingerRefused_11 ?_
      refine a_iconst (pc := 14) hC dX9_isSingerRefused_14 (v := 3) rfl ?_
      refine a_iload_n (pc := 15) hC dX9_isSingerRefused_15 rfl ?_
      refine a_callV (pc := 16) hC hR vm_X5_keep tw_705 cl_X5 (oX_204 hX) ⟨(Nat.le_of_ble_eq_true rfl), (Nat.le_of_ble_eq_true rfl), (Nat.le_of_ble_eq_true rfl), (Nat.le_of_ble_eq_true rfl)⟩ dX9_isSingerRefused_16 (t_X5_keep hX hC.tr _ _ _ _ h) rfl rfl rfl (Nat.le_of_ble_eq_true rfl) (fun r11 q12 h => ?_)
      have z_r11 := h.1
      replace h := h.2
      exact a_bret (pc := 19) hC hE z_r11 h (Nat.le_of_ble_eq_true rfl) (Nat.le_of_ble_eq_true rfl) dX9_isSingerRefused_19
set_option maxRecDepth 20000 in
theorem t_X9_isEnteringRefused {l : Launch} {g : aG} (hX : isX g) (hl : l.stackTraces = false) (x1 : Int32) (x2 : Int32) (q : aS) (P : Int32 → aS → Prop) (h : w_X9_isEnteringRefused x1 x2 q P) : aMi l g yX9_isEnteringRefused (aWs yX9_isEnteringRefused cX9_isEnteringRefused 3 (some .boolean)) 2 0 0 [.ref (gAd g 0), .int x1, .int x2] q (fun r u => (r = 0 ∨ r = 1) ∧ P r u) (fun _ _ => False) := by
  refine aMi_of RX9 ⟨by decide +kernel, rfl⟩ (cat_all rfl) (Nat.le_of_ble_eq_true rfl) hl hX.cl (fun f hR hC hE => ?_)
  show AW f g 0 [some (.ref (gAd g 0)), some (.int x1), some (.int x2)] [] q 0 0
  unfold w_X9_isEnteringRefused at h
  refine a_aload_n (pc := 0) hC dX9_isEnteringRefused_0 rfl ?_
  refine a_get (pc := 1) hC cl_X9 (oX_0 hX) 0 (by decide) tw_303 rfl dX9_isEnteringRefused_1 ?_
  refine a_iload_n (pc := 4) hC dX9_isEnteringRefused_4 rfl ?_
  refine a_callV (pc := 5) hC hR vm_X8_hasSinger tw_532 cl_X8 (oX_1 hX) ⟨(Nat.le_of_ble_eq_true rfl), (Nat.le_of_ble_eq_true rfl), (Nat.le_of_ble_eq_true rfl), (Nat.le_of_ble_eq_true rfl)⟩ dX9_isEnteringRefused_5 (t_X8_hasSinger hX hC.tr _ _ _ h) rfl rfl rfl (Nat.le_of_ble_eq_true rfl) (fun r3 q4 h => ?_)
  have z_r3 := h.1
  replace h := h.2
  refine a_if_ne (pc := 8) (tgt := 21) hC dX9_isEnteringRefused_8 (by decide) (fun c => ?_) (fun c => ?_)
  · replace h := h.1 c
    refine a_aload_n (pc := 21) hC dX9_isEnteringRefused_21 rfl ?_
    refine a_get (pc := 22) hC cl_X9 (oX_0 hX) 0 (by decide) tw_303 rfl dX9_isEnteringRefused_22 ?_
    refine a_iload_n (pc := 25) hC dX9_isEnteringRefused_25 rfl ?_
    refine a_callV (pc := 26) hC hR vm_X8_hasRoom tw_470 cl_X8 (oX_1 hX) ⟨(Nat.le_of_ble_eq_true rfl), (Nat.le_of_ble_eq_true rfl), (Nat.le_of_ble_eq_true rfl), (Nat.le_of_ble_eq_true rfl)⟩ dX9_isEnteringRefused_26 (t_X8_hasRoom hX hC.tr _ _ _ h) rfl rfl rfl (Nat.le_of_ble_eq_true rfl) (fun r5 q6 h => ?_)
    have z_r5 := h.1
    replace h := h.2
    refine a_if_ne (pc := 29) (tgt := 42) hC dX9_isEnteringRefused_29 (by decide) (fun c => ?_) (fun c => ?_)
    · replace h := h.1 c
      refine a_aload_n (pc := 42) hC dX9_isEnteringRefused_42 rfl ?_
      refine a_get (pc := 43) hC cl_X9 (oX_0 hX) 0 (by decide) tw_303 rfl dX9_isEnteringRefused_43 ?_
      refine a_get (pc := 46) hC cl_X8 (oX_1 hX) 2 (by decide) tw_155 rfl dX9_isEnteringRefused_46 ?_
      refine a_get (pc := 49) hC cl_X7 (oX_12 hX) 3 (by decide) tw_130 rfl dX9_isEnteringRefused_49 ?_
      refine a_iload_n (pc := 52) hC dX9_isEnteringRefused_52 rfl ?_
      refine a_iald (pc := 53) hC (oX_15 hX) h.1 dX9_isEnteringRefused_53 ?_
      replace h := h.2
      refine a_iload_n (pc := 54) hC dX9_isEnteringRefused_54 rfl ?_
      refine a_icmp_ne (pc := 55) (tgt := 68) hC dX9_isEnteringRefused_55 (by decide) (fun c => ?_) (fun c => ?_)
      · replace h := h.1 c
        refine a_aload_n (pc := 68) hC dX9_isEnteringRefused_68 rfl ?_
        refine a_get (pc := 69) hC cl_X9 (oX_0 hX) 0 (by decide) tw_303 rfl dX9_isEnteringRefused_69 ?_
        refine a_iload_n (pc := 72) hC dX9_isEnteringRefused_72 rfl ?_
        refine a_callV (pc := 73) hC hR vm_X8_isFull tw_721 cl_X8 (oX_1 hX) ⟨(Nat.le_of_ble_eq_true rfl), (Nat.le_of_ble_eq_true rfl), (Nat.le_of_ble_eq_true rfl), (Nat.le_of_ble_eq_true rfl)⟩ dX9_isEnteringRefused_73 (t_X8_isFull hX hC.tr _ _ _ h) rfl rfl rfl (Nat.le_of_ble_eq_true rfl) (fun r7 q8 h => ?_)
        have z_r7 := h.1
        replace h := h.2
        refine a_if_eq (pc := 76) (tgt := 100) hC dX9_isEnteringRefused_76 (by decide) (fun c => ?_) (fun c => ?_)
        · replace h := h.1 c
          refine a_aload_n (pc := 100) hC dX9_isEnteringRefused_100 rfl ?_
          refine a_get (pc := 101) hC cl_X9 (oX_0 hX) 0 (by decide) tw_303 rfl dX9_isEnteringRefused_101 ?_
          refine a_iload_n (pc := 104) hC dX9_isEnteringRefused_104 rfl ?_
          refine a_iload_n (pc := 105) hC dX9_isEnteringRefused_105 rfl ?_
          refine a_callV (pc := 106) hC hR vm_X8_isTooShyFor tw_727 cl_X8 (oX_1 hX) ⟨(Nat.le_of_ble_eq_true rfl), (Nat.le_of_ble_eq_true rfl), (Nat.le_of_ble_eq_true rfl), (Nat.le_of_ble_eq_true rfl)⟩ dX9_isEnteringRefused_106 (t_X8_isTooShyFor hX hC.tr _ _ _ _ h) rfl rfl rfl (Nat.le_of_ble_eq_true rfl) (fun r9 q10 h => ?_)
          have z_r9 := h.1
          replace h := h.2
          refine a_if_eq (pc := 109) (tgt := 133) hC dX9_isEnteringRefused_109 (by decide) (fun c => ?_) (fun c => ?_)
          · replace h := h.1 c
            refine a_iconst (pc := 133) hC dX9_isEnteringRefused_133 (v := 0) rfl ?_
            exact a_bret (pc := 134) hC hE (Or.inl rfl) h (Nat.le_of_ble_eq_true rfl) (Nat.le_of_ble_eq_true rfl) dX9_isEnteringRefused_134
          · replace h := h.2 c
            refine a_aload_n (pc := 112) hC dX9_isEnteringRefused_112 rfl ?_
            refine a_get (pc := 113) hC cl_X9 (oX_0 hX) 6 (by decide) tw_308 rfl dX9_isEnteringRefused_113 ?_
            refine a_bipush (pc := 116) hC dX9_isEnteringRefused_116 (v := 6) rfl ?_
            refine a_aload_n (pc := 118) hC dX9_isEnteringRefused_118 rfl ?_
            refine a_get (pc := 119) hC cl_X9 (oX_0 hX) 0 (by decide) tw_303 rfl dX9_isEnteringRefused_119 ?_
            refine a_iload_n (pc := 122) hC dX9_isEnteringRefused_122 rfl ?_
            refine a_callV (pc := 123) hC hR vm_X8_singersIn tw_487 cl_X8 (oX_1 hX) ⟨(Nat.le_of_ble_eq_true rfl), (Nat.le_of_ble_eq_true rfl), (Nat.le_of_ble_eq_true rfl), (Nat.le_of_ble_eq_true rfl)⟩ dX9_isEnteringRefused_123 (t_X8_singersIn hX hC.tr _ _ _ h) rfl rfl rfl (Nat.le_of_ble_eq_true rfl) (fun r11 q12 h => ?_)
            refine a_callS (pc := 126) hC hR sm_J6_bitCount_0f7a4 tw_491 ⟨(Nat.le_of_ble_eq_true rfl), (Nat.le_of_ble_eq_true rfl), (Nat.le_of_ble_eq_true rfl), (Nat.le_of_ble_eq_true rfl)⟩ dX9_isEnteringRefused_126 (t_J6_bitCount_0f7a4 hX.cl hC.tr _ _ _ h) rfl rfl rfl (Nat.le_of_ble_eq_true rfl) (fun r13 q14 h => ?_)
            refine a_callV (pc := 129) hC hR vm_X5_keep tw_705 cl_X5 (oX_204 hX) ⟨(Nat.le_of_ble_eq_true rfl), (Nat.le_of_ble_eq_true rfl), (Nat.le_of_ble_eq_true rfl), (Nat.le_of_ble_eq_true rfl)⟩ dX9_isEnteringRefused_129 (t_X5_keep hX hC.tr _ _ _ _ h) rfl rfl rfl (Nat.le_of_ble_eq_true rfl) (fun r15 q16 h => ?_)
            have z_r15 := h.1
            replace h := h.2
            exact a_bret (pc := 132) hC hE z_r15 h (Nat.le_of_ble_eq_true rfl) (Nat.le_of_ble_eq_true rfl) dX9_isEnteringRefused_132
        · replace h := h.2 c
          refine a_aload_n (pc := 79) hC dX9_isEnteringRefused_79 rfl ?_
          refine a_get (pc := 80) hC cl_X9 (oX_0 hX) 6 (by decide) tw_308 rfl dX9_isEnteringRefused_80 ?_
          refine a_iconst (pc := 83) hC dX9_isEnteringRefused_83 (v := 5) rfl ?_
          refine a_aload_n (pc := 84) hC dX9_isEnteringRefused_84 rfl ?_
          refine a_get (pc := 85) hC cl_X9 (oX_0 hX) 0 (by decide) tw_303 rfl dX9_isEnteringRefused_85 ?_
          refine a_get (pc := 88) hC cl_X8 (oX_1 hX) 0 (by decide) tw_151 rfl dX9_isEnteringRefused_88 ?_
          refine a_get (pc := 91) hC cl_X6 (oX_2 hX) 1 (by decide) tw_59 rfl dX9_isEnteringRefused_91 ?_
          refine a_iload_n (pc := 94) hC dX9_isEnteringRefused_94 rfl ?_
          refine a_iald (pc := 95) hC (oX_3 hX) h.1 dX9_isEnteringRefused_95 ?_
          replace h := h.2
          refine a_callV (pc := 96) hC hR vm_X5_keep tw_705 cl_X5 (oX_204 hX) ⟨(Nat.le_of_ble_eq_true rfl), (Nat.le_of_ble_eq_true rfl), (Nat.le_of_ble_eq_true rfl), (Nat.le_of_ble_eq_true rfl)⟩ dX9_isEnteringRefused_96 (t_X5_keep hX hC.tr _ _ _ _ h) rfl rfl rfl (Nat.le_of_ble_eq_true rfl) (fun r17 q18 h => ?_)
          have z_r17 := h.1
          replace h := h.2
          exact a_bret (pc := 99) hC hE z_r17 h (Nat.le_of_ble_eq_true rfl) (Nat.le_of_ble_eq_true rfl) dX9_isEnteringRefused_99
      · replace h := h.2 c
        refine a_aload_n (pc := 58) hC dX9_isEnteringRefused_58 rfl ?_
        refine a_get (pc := 59) hC cl_X9 (oX_0 hX) 6 (by decide) tw_308 rfl dX9_isEnteringRefused_59 ?_
        refine a_iconst (pc := 62) hC dX9_isEnteringRefused_62 (v := 4) rfl ?_
        refine a_iload_n (pc := 63) hC dX9_isEnteringRefused_63 rfl ?_
        refine a_callV (pc := 64) hC hR vm_X5_keep tw_705 cl_X5 (oX_204 hX) ⟨(Nat.le_of_ble_eq_true rfl), (Nat.le_of_ble_eq_true rfl), (Nat.le_of_ble_eq_true rfl), (Nat.le_of_ble_eq_true rfl)⟩ dX9_isEnteringRefused_64 (t_X5_keep hX hC.tr _ _ _ _ h) rfl rfl rfl (Nat.le_of_ble_eq_true rfl) (fun r19 q20 h => ?_)
        have z_r19 := h.1
        replace h := h.2
        exact a_bret (pc := 67) hC hE z_r19 h (Nat.le_of_ble_eq_true rfl) (Nat.le_of_ble_eq_true rfl) dX9_isEnteringRefused_67
    · replace h := h.2 c
      refine a_aload_n (pc := 32) hC dX9_isEnteringRefused_32 rfl ?_
      refine a_get (pc := 33) hC cl_X9 (oX_0 hX) 6 (by decide) tw_308 rfl dX9_isEnteringRefused_33 ?_
      refine a_iconst (pc := 36) hC dX9_isEnteringRefused_36 (v := 2) rfl ?_
      refine a_iload_n (pc := 37) hC dX9_isEnteringRefused_37 rfl ?_
      refine a_callV (pc := 38) hC hR vm_X5_keep tw_705 cl_X5 (oX_204 hX) ⟨(Nat.le_of_ble_eq_true rfl), (Nat.le_of_ble_eq_true rfl), (Nat.le_of_ble_eq_true rfl), (Nat.le_of_ble_eq_true rfl)⟩ dX9_isEnteringRefused_38 (t_X5_keep hX hC.tr _ _ _ _ h) rfl rfl rfl (Nat.le_of_ble_eq_true rfl) (fun r21 q22 h => ?_)
      have z_r21 := h.1
      replace h := h.2
      exact a_bret (pc := 41) hC hE z_r21 h (Nat.le_of_ble_eq_true rfl) (Nat.le_of_ble_eq_true rfl) dX9_isEnteringRefused_41
  · replace h := h.2 c
    refine a_aload_n (pc := 11) hC dX9_isEnteringRefused_11 rfl ?_
    refine a_get (pc := 12) hC cl_X9 (oX_0 hX) 6 (by decide) tw_308 rfl dX9_isEnteringRefused_12 ?_
    refine a_iconst (pc := 15) hC dX9_isEnteringRefused_15 (v := 2) rfl ?_
    refine a_iload_n (pc := 16) hC dX9_isEnteringRefused_16 rfl ?_
    refine a_callV (pc := 17) hC hR vm_X5_keep tw_705 cl_X5 (oX_204 hX) ⟨(Nat.le_of_ble_eq_true rfl), (Nat.le_of_ble_eq_true rfl), (Nat.le_of_ble_eq_true rfl), (Nat.le_of_ble_eq_true rfl)⟩ dX9_isEnteringRefused_17 (t_X5_keep hX hC.tr _ _ _ _ h) rfl rfl rfl (Nat.le_of_ble_eq_true rfl) (fun r23 q24 h => ?_)
    have z_r23 := h.1
    replace h := h.2
    exact a_bret (pc := 20) hC hE z_r23 h (Nat.le_of_ble_eq_true rfl) (Nat.le_of_ble_eq_true rfl) dX9_isEnteringRefused_20
set_option maxRecDepth 20000 in
theorem t_X9_isGoingOutRefused {l : Launch} {g : aG} (hX : isX g) (hl : l.stackTraces = false) (x1 : Int32) (q : aS) (P : Int32 → aS → Prop) (h : w_X9_isGoingOutRefused x1 q P) : aMi l g yX9_isGoingOutRefused (aWs yX9_isGoingOutRefused cX9_isGoingOutRefused 2 (some .boolean)) 1 0 0 [.ref (gAd g 0), .int x1] q (fun r u => (r = 0 ∨ r = 1) ∧ P r u) (fun _ _ => False) := by
  refine aMi_of RX9 ⟨by decide +kernel, rfl⟩ (cat_all rfl) (Nat.le_of_ble_eq_true rfl) hl hX.cl (fun f hR hC hE => ?_)
  show AW f g 0 [some (.ref (gAd g 0)), some (.int x1)] [] q 0 0
  unfold w_X9_isGoingOutRefused at h
  refine a_aload_n (pc := 0) hC dX9_isGoingOutRefused_0 rfl ?_
  refine a_get (pc := 1) hC cl_X9 (oX_0 hX) 0 (by decide) tw_303 rfl dX9_isGoingOutRefused_1 ?_
  refine a_iload_n (pc := 4) hC dX9_isGoingOutRefused_4 rfl ?_
  refine a_callV (pc := 5) hC hR vm_X8_hasSinger tw_532 cl_X8 (oX_1 hX) ⟨(Nat.le_of_ble_eq_true rfl), (Nat.le_of_ble_eq_true rfl), (Nat.le_of_ble_eq_true rfl), (Nat.le_of_ble_eq_true rfl)⟩ dX9_isGoingOutRefused_5 (t_X8_hasSinger hX hC.tr _ _ _ h) rfl rfl rfl (Nat.le_of_ble_eq_true rfl) (fun r2 q3 h => ?_)
  have z_r2 := h.1
  replace h := h.2
  refine a_if_ne (pc := 8) (tgt := 21) hC dX9_isGoingOutRefused_8 (by decide) (fun c => ?_) (fun c => ?_)
  · replace h := h.1 c
    refine a_aload_n (pc := 21) hC dX9_isGoingOutRefused_21 rfl ?_
    refine a_get (pc := 22) hC cl_X9 (oX_0 hX) 0 (by decide) tw_303 rfl dX9_isGoingOutRefused_22 ?_
    refine a_iload_n (pc := 25) hC dX9_isGoingOutRefused_25 rfl ?_
    refine a_callV (pc := 26) hC hR vm_X8_isInside tw_548 cl_X8 (oX_1 hX) ⟨(Nat.le_of_ble_eq_true rfl), (Nat.le_of_ble_eq_true rfl), (Nat.le_of_ble_eq_true rfl), (Nat.le_of_ble_eq_true rfl)⟩ dX9_isGoingOutRefused_26 (t_X8_isInside hX hC.tr _ _ _ h) rfl rfl rfl (Nat.le_of_ble_eq_true rfl) (fun r4 q5 h => ?_)
    have z_r4 := h.1
    replace h := h.2
    refine a_if_ne (pc := 29) (tgt := 43) hC dX9_isGoingOutRefused_29 (by decide) (fun c => ?_) (fun c => ?_)
    · replace h := h.1 c
      refine a_iconst (pc := 43) hC dX9_isGoingOutRefused_43 (v := 0) rfl ?_
      exact a_bret (pc := 44) hC hE (Or.inl rfl) h (Nat.le_of_ble_eq_true rfl) (Nat.le_of_ble_eq_true rfl) dX9_isGoingOutRefused_44
    · replace h := h.2 c
      refine a_aload_n (pc := 32) hC dX9_isGoingOutRefused_32 rfl ?_
      refine a_get (pc := 33) hC cl_X9 (oX_0 hX) 6 (by decide) tw_308 rfl dX9_isGoingOutRefused_33 ?_
      refine a_bipush (pc := 36) hC dX9_isGoingOutRefused_36 (v := 10) rfl ?_
      refine a_iload_n (pc := 38) hC dX9_isGoingOutRefused_38 rfl ?_
      refine a_callV (pc := 39) hC hR vm_X5_keep tw_705 cl_X5 (oX_204 hX) ⟨(Nat.le_of_ble_eq_true rfl), (Nat.le_of_ble_eq_true rfl), (Nat.le_of_ble_eq_true rfl), (Nat.le_of_ble_eq_true rfl)⟩ dX9_isGoingOutRefused_39 (t_X5_keep hX hC.tr _ _ _ _ h) rfl rfl rfl (Nat.le_of_ble_eq_true rfl) (fun r6 q7 h => ?_)
      have z_r6 := h.1
      replace h := h.2
      exact a_bret (pc := 42) hC hE z_r6 h (Nat.le_of_ble_eq_true rfl) (Nat.le_of_ble_eq_true rfl) dX9_isGoingOutRefused_42
  · replace h := h.2 c
    refine a_aload_n (pc := 11) hC dX9_isGoingOutRefused_11 rfl ?_
    refine a_get (pc := 12) hC cl_X9 (oX_0 hX) 6 (by decide) tw_308 rfl dX9_isGoingOutRefused_12 ?_
    refine a_iconst (pc := 15) hC dX9_isGoingOutRefused_15 (v := 2) rfl ?_
    refine a_iload_n (pc := 16) hC dX9_isGoingOutRefused_16 rfl ?_
    refine a_callV (pc := 17) hC hR vm_X5_keep tw_705 cl_X5 (oX_204 hX) ⟨(Nat.le_of_ble_eq_true rfl), (Nat.le_of_ble_eq_true rfl), (Nat.le_of_ble_eq_true rfl), (Nat.le_of_ble_eq_true rfl)⟩ dX9_isGoingOutRefused_17 (t_X5_keep hX hC.tr _ _ _ _ h) rfl rfl rfl (Nat.le_of_ble_eq_true rfl) (fun r8 q9 h => ?_)
    have z_r8 := h.1
    replace h := h.2
    exact a_bret (pc := 20) hC hE z_r8 h (Nat.le_of_ble_eq_true rfl) (Nat.le_of_ble_eq_true rfl) dX9_isGoingOutRefused_20
set_option maxRecDepth 20000 in
theorem t_X9_isCarryingRefused {l : Launch} {g : aG} (hX : isX g) (hl : l.stackTraces = false) (x1 : Int32) (x2 : Int32) (q : aS) (P : Int32 → aS → Prop) (h : w_X9_isCarryingRefused x1 x2 q P) : aMi l g yX9_isCarryingRefused (aWs yX9_isCarryingRefused cX9_isCarryingRefused 3 (some .boolean)) 1 0 0 [.ref (gAd g 0), .int x1, .int x2] q (fun r u => (r = 0 ∨ r = 1) ∧ P r u) (fun _ _ => False) := by
  refine aMi_of RX9 ⟨by decide +kernel, rfl⟩ (cat_all rfl) (Nat.le_of_ble_eq_true rfl) hl hX.cl (fun f hR hC hE => ?_)
  show AW f g 0 [some (.ref (gAd g 0)), some (.int x1), some (.int x2)] [] q 0 0
  unfold w_X9_isCarryingRefused at h
  refine a_aload_n (pc := 0) hC dX9_isCarryingRefused_0 rfl ?_
  refine a_get (pc := 1) hC cl_X9 (oX_0 hX) 0 (by decide) tw_303 rfl dX9_isCarryingRefused_1 ?_
  refine a_iload_n (pc := 4) hC dX9_isCarryingRefused_4 rfl ?_
  refine a_callV (pc := 5) hC hR vm_X8_hasEcho tw_518 cl_X8 (oX_1 hX) ⟨(Nat.le_of_ble_eq_true rfl), (Nat.le_of_ble_eq_true rfl), (Nat.le_of_ble_eq_true rfl), (Nat.le_of_ble_eq_true rfl)⟩ dX9_isCarryingRefused_5 (t_X8_hasEcho hX hC.tr _ _ _ h) rfl rfl rfl (Nat.le_of_ble_eq_true rfl) (fun r3 q4 h => ?_)
  have z_r3 := h.1
  replace h := h.2
  refine a_if_ne (pc := 8) (tgt := 21) hC dX9_isCarryingRefused_8 (by decide) (fun c => ?_) (fun c => ?_)
  · replace h := h.1 c
    refine a_aload_n (pc := 21) hC dX9_isCarryingRefused_21 rfl ?_
    refine a_get (pc := 22) hC cl_X9 (oX_0 hX) 0 (by decide) tw_303 rfl dX9_isCarryingRefused_22 ?_
    refine a_iload_n (pc := 25) hC dX9_isCarryingRefused_25 rfl ?_
    refine a_callV (pc := 26) hC hR vm_X8_hasRoom tw_470 cl_X8 (oX_1 hX) ⟨(Nat.le_of_ble_eq_true rfl), (Nat.le_of_ble_eq_true rfl), (Nat.le_of_ble_eq_true rfl), (Nat.le_of_ble_eq_true rfl)⟩ dX9_isCarryingRefused_26 (t_X8_hasRoom hX hC.tr _ _ _ h) rfl rfl rfl (Nat.le_of_ble_eq_true rfl) (fun r5 q6 h => ?_)
    have z_r5 := h.1
    replace h := h.2
    refine a_if_ne (pc := 29) (tgt := 42) hC dX9_isCarryingRefused_29 (by decide) (fun c => ?_) (fun c => ?_)
    · replace h := h.1 c
      refine a_aload_n (pc := 42) hC dX9_isCarryingRefused_42 rfl ?_
      refine a_get (pc := 43) hC cl_X9 (oX_0 hX) 0 (by decide) tw_303 rfl dX9_isCarryingRefused_43 ?_
      refine a_get (pc := 46) hC cl_X8 (oX_1 hX) 1 (by decide) tw_153 rfl dX9_isCarryingRefused_46 ?_
      refine a_get (pc := 49) hC cl_X1 (oX_6 hX) 1 (by decide) tw_87 rfl dX9_isCarryingRefused_49 ?_
      refine a_iload_n (pc := 52) hC dX9_isCarryingRefused_52 rfl ?_
      refine a_iald (pc := 53) hC (oX_7 hX) h.1 dX9_isCarryingRefused_53 ?_
      replace h := h.2
      refine a_iload_n (pc := 54) hC dX9_isCarryingRefused_54 rfl ?_
      refine a_icmp_ne (pc := 55) (tgt := 68) hC dX9_isCarryingRefused_55 (by decide) (fun c => ?_) (fun c => ?_)
      · replace h := h.1 c
        refine a_aload_n (pc := 68) hC dX9_isCarryingRefused_68 rfl ?_
        refine a_get (pc := 69) hC cl_X9 (oX_0 hX) 0 (by decide) tw_303 rfl dX9_isCarryingRefused_69 ?_
        refine a_iload_n (pc := 72) hC dX9_isCarryingRefused_72 rfl ?_
        refine a_callV (pc := 73) hC hR vm_X8_isLet tw_611 cl_X8 (oX_1 hX) ⟨(Nat.le_of_ble_eq_true rfl), (Nat.le_of_ble_eq_true rfl), (Nat.le_of_ble_eq_true rfl), (Nat.le_of_ble_eq_true rfl)⟩ dX9_isCarryingRefused_73 (t_X8_isLet hX hC.tr _ _ _ h) rfl rfl rfl (Nat.le_of_ble_eq_true rfl) (fun r7 q8 h => ?_)
        have z_r7 := h.1
        replace h := h.2
        refine a_if_eq (pc := 76) (tgt := 101) hC dX9_isCarryingRefused_76 (by decide) (fun c => ?_) (fun c => ?_)
        · replace h := h.1 c
          refine a_iconst (pc := 101) hC dX9_isCarryingRefused_101 (v := 0) rfl ?_
          exact a_bret (pc := 102) hC hE (Or.inl rfl) h (Nat.le_of_ble_eq_true rfl) (Nat.le_of_ble_eq_true rfl) dX9_isCarryingRefused_102
        · replace h := h.2 c
          refine a_aload_n (pc := 79) hC dX9_isCarryingRefused_79 rfl ?_
          refine a_get (pc := 80) hC cl_X9 (oX_0 hX) 6 (by decide) tw_308 rfl dX9_isCarryingRefused_80 ?_
          refine a_bipush (pc := 83) hC dX9_isCarryingRefused_83 (v := 7) rfl ?_
          refine a_aload_n (pc := 85) hC dX9_isCarryingRefused_85 rfl ?_
          refine a_get (pc := 86) hC cl_X9 (oX_0 hX) 0 (by decide) tw_303 rfl dX9_isCarryingRefused_86 ?_
          refine a_get (pc := 89) hC cl_X8 (oX_1 hX) 1 (by decide) tw_153 rfl dX9_isCarryingRefused_89 ?_
          refine a_get (pc := 92) hC cl_X1 (oX_6 hX) 3 (by decide) tw_93 rfl dX9_isCarryingRefused_92 ?_
          refine a_iload_n (pc := 95) hC dX9_isCarryingRefused_95 rfl ?_
          refine a_iald (pc := 96) hC (oX_9 hX) h.1 dX9_isCarryingRefused_96 ?_
          replace h := h.2
          refine a_callV (pc := 97) hC hR vm_X5_keep tw_705 cl_X5 (oX_204 hX) ⟨(Nat.le_of_ble_eq_true rfl), (Nat.le_of_ble_eq_true rfl), (Nat.le_of_ble_eq_true rfl), (Nat.le_of_ble_eq_true rfl)⟩ dX9_isCarryingRefused_97 (t_X5_keep hX hC.tr _ _ _ _ h) rfl rfl rfl (Nat.le_of_ble_eq_true rfl) (fun r9 q10 h => ?_)
          have z_r9 := h.1
          replace h := h.2
          exact a_bret (pc := 100) hC hE z_r9 h (Nat.le_of_ble_eq_true rfl) (Nat.le_of_ble_eq_true rfl) dX9_isCarryingRefused_100
      · replace h := h.2 c
        refine a_aload_n (pc := 58) hC dX9_isCarryingRefused_58 rfl ?_
        refine a_get (pc := 59) hC cl_X9 (oX_0 hX) 6 (by decide) tw_308 rfl dX9_isCarryingRefused_59 ?_
        refine a_iconst (pc := 62) hC dX9_isCarryingRefused_62 (v := 4) rfl ?_
        refine a_iload_n (pc := 63) hC dX9_isCarryingRefused_63 rfl ?_
        refine a_callV (pc := 64) hC hR vm_X5_keep tw_705 cl_X5 (oX_204 hX) ⟨(Nat.le_of_ble_eq_true rfl), (Nat.le_of_ble_eq_true rfl), (Nat.le_of_ble_eq_true rfl), (Nat.le_of_ble_eq_true rfl)⟩ dX9_isCarryingRefused_64 (t_X5_keep hX hC.tr _ _ _ _ h) rfl rfl rfl (Nat.le_of_ble_eq_true rfl) (fun r11 q12 h => ?_)
        have z_r11 := h.1
        replace h := h.2
        exact a_bret (pc := 67) hC hE z_r11 h (Nat.le_of_ble_eq_true rfl) (Nat.le_of_ble_eq_true rfl) dX9_isCarryingRefused_67
    · replace h := h.2 c
      refine a_aload_n (pc := 32) hC dX9_isCarryingRefused_32 rfl ?_
      refine a_get (pc := 33) hC cl_X9 (oX_0 hX) 6 (by decide) tw_308 rfl dX9_isCarryingRefused_33 ?_
      refine a_iconst (pc := 36) hC dX9_isCarryingRefused_36 (v := 2) rfl ?_
      refine a_iload_n (pc := 37) hC dX9_isCarryingRefused_37 rfl ?_
      refine a_callV (pc := 38) hC hR vm_X5_keep tw_705 cl_X5 (oX_204 hX) ⟨(Nat.le_of_ble_eq_true rfl), (Nat.le_of_ble_eq_true rfl), (Nat.le_of_ble_eq_true rfl), (Nat.le_of_ble_eq_true rfl)⟩ dX9_isCarryingRefused_38 (t_X5_keep hX hC.tr _ _ _ _ h) rfl rfl rfl (Nat.le_of_ble_eq_true rfl) (fun r13 q14 h => ?_)
      have z_r13 := h.1
      replace h := h.2
      exact a_bret (pc := 41) hC hE z_r13 h (Nat.le_of_ble_eq_true rfl) (Nat.le_of_ble_eq_true rfl) dX9_isCarryingRefused_41
  · replace h := h.2 c
    refine a_aload_n (pc := 11) hC dX9_isCarryingRefused_11 rfl ?_
    refine a_get (pc := 12) hC cl_X9 (oX_0 hX) 6 (by decide) tw_308 rfl dX9_isCarryingRefused_12 ?_
    refine a_iconst (pc := 15) hC dX9_isCarryingRefused_15 (v := 2) rfl ?_
    refine a_iload_n (pc := 16) hC dX9_isCarryingRefused_16 rfl ?_
    refine a_callV (pc := 17) hC hR vm_X5_keep tw_705 cl_X5 (oX_204 hX) ⟨(Nat.le_of_ble_eq_true rfl), (Nat.le_of_ble_eq_true rfl), (Nat.le_of_ble_eq_true rfl), (Nat.le_of_ble_eq_true rfl)⟩ dX9_isCarryingRefused_17 (t_X5_keep hX hC.tr _ _ _ _ h) rfl rfl rfl (Nat.le_of_ble_eq_true rfl) (fun r15 q16 h => ?_)
    have z_r15 := h.1
    replace h := h.2
    exact a_bret (pc := 20) hC hE z_r15 h (Nat.le_of_ble_eq_true rfl) (Nat.le_of_ble_eq_true rfl) dX9_isCarryingRefused_20
set_option maxRecDepth 20000 in
theorem t_X9_isRentingRefused {l : Launch} {g : aG} (hX : isX g) (hl : l.stackTraces = false) (x1 : Int32) (x2 : Int32) (x3 : Int32) (q : aS) (P : Int32 → aS → Prop) (h : w_X9_isRentingRefused x1 x2 x3 q P) : aMi l g yX9_isRentingRefused (aWs yX9_isRentingRefused cX9_isRentingRefused 4 (some .boolean)) 1 0 0 [.ref (gAd g 0), .int x1, .int x2, .int x3] q (fun r u => (r = 0 ∨ r = 1) ∧ P r u) (fun _ _ => False) := by
  refine aMi_of RX9 ⟨by decide +kernel, rfl⟩ (cat_all rfl) (Nat.le_of_ble_eq_true rfl) hl hX.cl (fun f hR hC hE => ?_)
  show AW f g 0 [some (.ref (gAd g 0)), some (.int x1), some (.int x2), some (.int x3)] [] q 0 0
  unfold w_X9_isRentingRefused at h
  refine a_aload_n (pc := 0) hC dX9_isRentingRefused_0 rfl ?_
  refine a_get (pc := 1) hC cl_X9 (oX_0 hX) 0 (by decide) tw_303 rfl dX9_isRentingRefused_1 ?_
  refine a_iload_n (pc := 4) hC dX9_isRentingRefused_4 rfl ?_
  refine a_callV (pc := 5) hC hR vm_X8_hasSinger tw_532 cl_X8 (oX_1 hX) ⟨(Nat.le_of_ble_eq_true rfl), (Nat.le_of_ble_eq_true rfl), (Nat.le_of_ble_eq_true rfl), (Nat.le_of_ble_eq_true rfl)⟩ dX9_isRentingRefused_5 (t_X8_hasSinger hX hC.tr _ _ _ h) rfl rfl rfl (Nat.le_of_ble_eq_true rfl) (fun r4 q5 h => ?_)
  have z_r4 := h.1
  replace h := h.2
  refine a_if_ne (pc := 8) (tgt := 21) hC dX9_isRentingRefused_8 (by decide) (fun c => ?_) (fun c => ?_)
  · replace h := h.1 c
    refine a_aload_n (pc := 21) hC dX9_isRentingRefused_21 rfl ?_
    refine a_get (pc := 22) hC cl_X9 (oX_0 hX) 0 (by decide) tw_303 rfl dX9_isRentingRefused_22 ?_
    refine a_iload_n (pc := 25) hC dX9_isRentingRefused_25 rfl ?_
    refine a_callV (pc := 26) hC hR vm_X8_hasEcho tw_518 cl_X8 (oX_1 hX) ⟨(Nat.le_of_ble_eq_true rfl), (Nat.le_of_ble_eq_true rfl), (Nat.le_of_ble_eq_true rfl), (Nat.le_of_ble_eq_true rfl)⟩ dX9_isRentingRefused_26 (t_X8_hasEcho hX hC.tr _ _ _ h) rfl rfl rfl (Nat.le_of_ble_eq_true rfl) (fun r6 q7 h => ?_)
    have z_r6 := h.1
    replace h := h.2
    refine a_if_ne (pc := 29) (tgt := 42) hC dX9_isRentingRefused_29 (by decide) (fun c => ?_) (fun c => ?_)
    · replace h := h.1 c
      refine a_iload_n (pc := 42) hC dX9_isRentingRefused_42 rfl ?_
      refine a_iconst (pc := 43) hC dX9_isRentingRefused_43 (v := 1) rfl ?_
      refine a_icmp_lt (pc := 44) (tgt := 53) hC dX9_isRentingRefused_44 (by decide) (fun c => ?_) (fun c => ?_)
      · replace h := h.1 c
        refine a_aload_n (pc := 53) hC dX9_isRentingRefused_53 rfl ?_
        refine a_get (pc := 54) hC cl_X9 (oX_0 hX) 6 (by decide) tw_308 rfl dX9_isRentingRefused_54 ?_
        refine a_iconst (pc := 57) hC dX9_isRentingRefused_57 (v := 3) rfl ?_
        refine a_iload_n (pc := 58) hC dX9_isRentingRefused_58 rfl ?_
        refine a_callV (pc := 59) hC hR vm_X5_keep tw_705 cl_X5 (oX_204 hX) ⟨(Nat.le_of_ble_eq_true rfl), (Nat.le_of_ble_eq_true rfl), (Nat.le_of_ble_eq_true rfl), (Nat.le_of_ble_eq_true rfl)⟩ dX9_isRentingRefused_59 (t_X5_keep hX hC.tr _ _ _ _ h) rfl rfl rfl (Nat.le_of_ble_eq_true rfl) (fun r8 q9 h => ?_)
        have z_r8 := h.1
        replace h := h.2
        exact a_bret (pc := 62) hC hE z_r8 h (Nat.le_of_ble_eq_true rfl) (Nat.le_of_ble_eq_true rfl) dX9_isRentingRefused_62
      · replace h := h.2 c
        refine a_iload_n (pc := 47) hC dX9_isRentingRefused_47 rfl ?_
        refine a_bipush (pc := 48) hC dX9_isRentingRefused_48 (v := 9) rfl ?_
        refine a_icmp_le (pc := 50) (tgt := 63) hC dX9_isRentingRefused_50 (by decide) (fun c => ?_) (fun c => ?_)
        · replace h := h.1 c
          refine a_aload_n (pc := 63) hC dX9_isRentingRefused_63 rfl ?_
          refine a_get (pc := 64) hC cl_X9 (oX_0 hX) 0 (by decide) tw_303 rfl dX9_isRentingRefused_64 ?_
          refine a_iload_n (pc := 67) hC dX9_isRentingRefused_67 rfl ?_
          refine a_callV (pc := 68) hC hR vm_X8_isLet tw_611 cl_X8 (oX_1 hX) ⟨(Nat.le_of_ble_eq_true rfl), (Nat.le_of_ble_eq_true rfl), (Nat.le_of_ble_eq_true rfl), (Nat.le_of_ble_eq_true rfl)⟩ dX9_isRentingRefused_68 (t_X8_isLet hX hC.tr _ _ _ h) rfl rfl rfl (Nat.le_of_ble_eq_true rfl) (fun r10 q11 h => ?_)
          have z_r10 := h.1
          replace h := h.2
          refine a_if_eq (pc := 71) (tgt := 96) hC dX9_isRentingRefused_71 (by decide) (fun c => ?_) (fun c => ?_)
          · replace h := h.1 c
            refine a_aload_n (pc := 96) hC dX9_isRentingRefused_96 rfl ?_
            refine a_get (pc := 97) hC cl_X9 (oX_0 hX) 0 (by decide) tw_303 rfl dX9_isRentingRefused_97 ?_
            refine a_iload_n (pc := 100) hC dX9_isRentingRefused_100 rfl ?_
            refine a_iload_n (pc := 101) hC dX9_isRentingRefused_101 rfl ?_
            refine a_callV (pc := 102) hC hR vm_X8_isWithEcho tw_743 cl_X8 (oX_1 hX) ⟨(Nat.le_of_ble_eq_true rfl), (Nat.le_of_ble_eq_true rfl), (Nat.le_of_ble_eq_true rfl), (Nat.le_of_ble_eq_true rfl)⟩ dX9_isRentingRefused_102 (t_X8_isWithEcho hX hC.tr _ _ _ _ h) rfl rfl rfl (Nat.le_of_ble_eq_true rfl) (fun r12 q13 h => ?_)
            have z_r12 := h.1
            replace h := h.2
            refine a_if_ne (pc := 105) (tgt := 130) hC dX9_isRentingRefused_105 (by decide) (fun c => ?_) (fun c => ?_)
            · replace h := h.1 c
              refine a_aload_n (pc := 130) hC dX9_isRentingRefused_130 rfl ?_
              refine a_get (pc := 131) hC cl_X9 (oX_0 hX) 0 (by decide) tw_303 rfl dX9_isRentingRefused_131 ?_
              refine a_iload_n (pc := 134) hC dX9_isRentingRefused_134 rfl ?_
              refine a_iload_n (pc := 135) hC dX9_isRentingRefused_135 rfl ?_
              refine a_callV (pc := 136) hC hR vm_X8_canPayFor tw_747 cl_X8 (oX_1 hX) ⟨(Nat.le_of_ble_eq_true rfl), (Nat.le_of_ble_eq_true rfl), (Nat.le_of_ble_eq_true rfl), (Nat.le_of_ble_eq_true rfl)⟩ dX9_isRentingRefused_136 (t_X8_canPayFor hX hC.tr _ _ _ _ h) rfl rfl rfl (Nat.le_of_ble_eq_true rfl) (fun r14 q15 h => ?_)
              have z_r14 := h.1
              replace h := h.2
              refine a_if_ne (pc := 139) (tgt := 164) hC dX9_isRentingRefused_139 (by decide) (fun c => ?_) (fun c => ?_)
              · replace h := h.1 c
                refine a_iconst (pc := 164) hC dX9_isRentingRefused_164 (v := 0) rfl ?_
                exact a_bret (pc := 165) hC hE (Or.inl rfl) h (Nat.le_of_ble_eq_true rfl) (Nat.le_of_ble_eq_true rfl) dX9_isRentingRefused_165
              · replace h := h.2 c
                refine a_aload_n (pc := 142) hC dX9_isRentingRefused_142 rfl ?_
                refine a_get (pc := 143) hC cl_X9 (oX_0 hX) 6 (by decide) tw_308 rfl dX9_isRentingRefused_143 ?_
                refine a_bipush (pc := 146) hC dX9_isRentingRefused_146 (v := 9) rfl ?_
                refine a_aload_n (pc := 148) hC dX9_isRentingRefused_148 rfl ?_
                refine a_get (pc := 149) hC cl_X9 (oX_0 hX) 0 (by decide) tw_303 rfl dX9_isRentingRefused_149 ?_
                refine a_get (pc := 152) hC cl_X8 (oX_1 hX) 2 (by decide) tw_155 rfl dX9_isRentingRefused_152 ?_
                refine a_get (pc := 155) hC cl_X7 (oX_12 hX) 2 (by decide) tw_127 rfl dX9_isRentingRefused_155 ?_
                refine a_iload_n (pc := 158) hC dX9_isRentingRefused_158 rfl ?_
                refine a_iald (pc := 159) hC (oX_14 hX) h.1 dX9_isRentingRefused_159 ?_
                replace h := h.2
                refine a_callV (pc := 160) hC hR vm_X5_keep tw_705 cl_X5 (oX_204 hX) ⟨(Nat.le_of_ble_eq_true rfl), (Nat.le_of_ble_eq_true rfl), (Nat.le_of_ble_eq_true rfl), (Nat.le_of_ble_eq_true rfl)⟩ dX9_isRentingRefused_160 (t_X5_keep hX hC.tr _ _ _ _ h) rfl rfl rfl (Nat.le_of_ble_eq_true rfl) (fun r16 q17 h => ?_)
                have z_r16 := h.1
                replace h := h.2
                exact a_bret (pc := 163) hC hE z_r16 h (Nat.le_of_ble_eq_true rfl) (Nat.le_of_ble_eq_true rfl) dX9_isRentingRefused_163
            · replace h := h.2 c
              refine a_aload_n (pc := 108) hC dX9_isRentingRefused_108 rfl ?_
              refine a_get (pc := 109) hC cl_X9 (oX_0 hX) 6 (by decide) tw_308 rfl dX9_isRentingRefused_109 ?_
              refine a_bipush (pc := 112) hC dX9_isRentingRefused_112 (v := 8) rfl ?_
              refine a_aload_n (pc := 114) hC dX9_isRentingRefused_114 rfl ?_
              refine a_get (pc := 115) hC cl_X9 (oX_0 hX) 0 (by decide) tw_303 rfl dX9_isRentingRefused_115 ?_
              refine a_get (pc := 118) hC cl_X8 (oX_1 hX) 1 (by decide) tw_153 rfl dX9_isRentingRefused_118 ?_
              refine a_get (pc := 121) hC cl_X1 (oX_6 hX) 1 (by decide) tw_87 rfl dX9_isRentingRefused_121 ?_
              refine a_iload_n (pc := 124) hC dX9_isRentingRefused_124 rfl ?_
              refine a_iald (pc := 125) hC (oX_7 hX) h.1 dX9_isRentingRefused_125 ?_
              replace h := h.2
              refine a_callV (pc := 126) hC hR vm_X5_keep tw_705 cl_X5 (oX_204 hX) ⟨(Nat.le_of_ble_eq_true rfl), (Nat.le_of_ble_eq_true rfl), (Nat.le_of_ble_eq_true rfl), (Nat.le_of_ble_eq_true rfl)⟩ dX9_isRentingRefused_126 (t_X5_keep hX hC.tr _ _ _ _ h) rfl rfl rfl (Nat.le_of_ble_eq_true rfl) (fun r18 q19 h => ?_)
              have z_r18 := h.1
              replace h := h.2
              exact a_bret (pc := 129) hC hE z_r18 h (Nat.le_of_ble_eq_true rfl) (Nat.le_of_ble_eq_true rfl) dX9_isRentingRefused_129
          · replace h := h.2 c
            refine a_aload_n (pc := 74) hC dX9_isRentingRefused_74 rfl ?_
            refine a_get (pc := 75) hC cl_X9 (oX_0 hX) 6 (by decide) tw_308 rfl dX9_isRentingRefused_75 ?_
            refine a_bipush (pc := 78) hC dX9_isRentingRefused_78 (v := 7) rfl ?_
            refine a_aload_n (pc := 80) hC dX9_isRentingRefused_80 rfl ?_
            refine a_get (pc := 81) hC cl_X9 (oX_0 hX) 0 (by decide) tw_303 rfl dX9_isRentingRefused_81 ?_
            refine a_get (pc := 84) hC cl_X8 (oX_1 hX) 1 (by decide) tw_153 rfl dX9_isRentingRefused_84 ?_
            refine a_get (pc := 87) hC cl_X1 (oX_6 hX) 3 (by decide) tw_93 rfl dX9_isRentingRefused_87 ?_
            refine a_iload_n (pc := 90) hC dX9_isRentingRefused_90 rfl ?_
            refine a_iald (pc := 91) hC (oX_9 hX) h.1 dX9_isRentingRefused_91 ?_
            replace h := h.2
            refine a_callV (pc := 92) hC hR vm_X5_keep tw_705 cl_X5 (oX_204 hX) ⟨(Nat.le_of_ble_eq_true rfl), (Nat.le_of_ble_eq_true rfl), (Nat.le_of_ble_eq_true rfl), (Nat.le_of_ble_eq_true rfl)⟩ dX9_isRentingRefused_92 (t_X5_keep hX hC.tr _ _ _ _ h) rfl rfl rfl (Nat.le_of_ble_eq_true rfl) (fun r20 q21 h => ?_)
            have z_r20 := h.1
            replace h := h.2
            exact a_bret (pc := 95) hC hE z_r20 h (Nat.le_of_ble_eq_true rfl) (Nat.le_of_ble_eq_true rfl) dX9_isRentingRefused_95
        · replace h := h.2 c
          refine a_aload_n (pc := 53) hC dX9_isRentingRefused_53 rfl ?_
          refine a_get (pc := 54) hC cl_X9 (oX_0 hX) 6 (by decide) tw_308 rfl dX9_isRentingRefused_54 ?_
          refine a_iconst (pc := 57) hC dX9_isRentingRefused_57 (v := 3) rfl ?_
          refine a_iload_n (pc := 58) hC dX9_isRentingRefused_58 rfl ?_
          refine a_callV (pc := 59) hC hR vm_X5_keep tw_705 cl_X5 (oX_204 hX) ⟨(Nat.le_of_ble_eq_true rfl), (Nat.le_of_ble_eq_true rfl), (Nat.le_of_ble_eq_true rfl), (Nat.le_of_ble_eq_true rfl)⟩ dX9_isRentingRefused_59 (t_X5_keep hX hC.tr _ _ _ _ h) rfl rfl rfl (Nat.le_of_ble_eq_true rfl) (fun r22 q23 h => ?_)
          have z_r22 := h.1
          replace h := h.2
          exact a_bret (pc := 62) hC hE z_r22 h (Nat.le_of_ble_eq_true rfl) (Nat.le_of_ble_eq_true rfl) dX9_isRentingRefused_62
    · replace h := h.2 c
      refine a_aload_n (pc := 32) hC dX9_isRentingRefused_32 rfl ?_
      refine a_get (pc := 33) hC cl_X9 (oX_0 hX) 6 (by decide) tw_308 rfl dX9_isRentingRefused_33 ?_
      refine a_iconst (pc := 36) hC dX9_isRentingRefused_36 (v := 2) rfl ?_
      refine a_iload_n (pc := 37) hC dX9_isRentingRefused_37 rfl ?_
      refine a_callV (pc := 38) hC hR vm_X5_keep tw_705 cl_X5 (oX_204 hX) ⟨(Nat.le_of_ble_eq_true rfl), (Nat.le_of_ble_eq_true rfl), (Nat.le_of_ble_eq_true rfl), (Nat.le_of_ble_eq_true rfl)⟩ dX9_isRentingRefused_38 (t_X5_keep hX hC.tr _ _ _ _ h) rfl rfl rfl (Nat.le_of_ble_eq_true rfl) (fun r24 q25 h => ?_)
      have z_r24 := h.1
      replace h := h.2
      exact a_bret (pc := 41) hC hE z_r24 h (Nat.le_of_ble_eq_true rfl) (Nat.le_of_ble_eq_true rfl) dX9_isRentingRefused_41
  · replace h := h.2 c
    refine a_aload_n (pc := 11) hC dX9_isRentingRefused_11 rfl ?_
    refine a_get (pc := 12) hC cl_X9 (oX_0 hX) 6 (by decide) tw_308 rfl dX9_isRentingRefused_12 ?_
    refine a_iconst (pc := 15) hC dX9_isRentingRefused_15 (v := 2) rfl ?_
    refine a_iload_n (pc := 16) hC dX9_isRentingRefused_16 rfl ?_
    refine a_callV (pc := 17) hC hR vm_X5_keep tw_705 cl_X5 (oX_204 hX) ⟨(Nat.le_of_ble_eq_true rfl), (Nat.le_of_ble_eq_true rfl), (Nat.le_of_ble_eq_true rfl), (Nat.le_of_ble_eq_true rfl)⟩ dX9_isRentingRefused_17 (t_X5_keep hX hC.tr _ _ _ _ h) rfl rfl rfl (Nat.le_of_ble_eq_true rfl) (fun r26 q27 h => ?_)
    have z_r26 := h.1
    replace h := h.2
    exact a_bret (pc := 20) hC hE z_r26 h (Nat.le_of_ble_eq_true rfl) (Nat.le_of_ble_eq_true rfl) dX9_isRentingRefused_20
set_option maxRecDepth 20000 in
theorem t_X9_isGivingBackRefused {l : Launch} {g : aG} (hX : isX g) (hl : l.stackTraces = false) (x1 : Int32) (x2 : Int32) (q : aS) (P : Int32 → aS → Prop) (h : w_X9_isGivingBackRefused x1 x2 q P) : aMi l g yX9_isGivingBackRefused (aWs yX9_isGivingBackRefused cX9_isGivingBackRefused 3 (some .boolean)) 1 0 0 [.ref (gAd g 0), .int x1, .int x2] q (fun r u => (r = 0 ∨ r = 1) ∧ P r u) (fun _ _ => False) := by
  refine aMi_of RX9 ⟨by decide +kernel, rfl⟩ (cat_all rfl) (Nat.le_of_ble_eq_true rfl) hl hX.cl (fun f hR hC hE => ?_)
  show AW f g 0 [some (.ref (gAd g 0)), some (.int x1), some (.int x2)] [] q 0 0
  unfold w_X9_isGivingBackRefused at h
  refine a_aload_n (pc := 0) hC dX9_isGivingBackRefused_0 rfl ?_
  refine a_get (pc := 1) hC cl_X9 (oX_0 hX) 0 (by decide) tw_303 rfl dX9_isGivingBackRefused_1 ?_
  refine a_iload_n (pc := 4) hC dX9_isGivingBackRefused_4 rfl ?_
  refine a_callV (pc := 5) hC hR vm_X8_hasSinger tw_532 cl_X8 (oX_1 hX) ⟨(Nat.le_of_ble_eq_true rfl), (Nat.le_of_ble_eq_true rfl), (Nat.le_of_ble_eq_true rfl), (Nat.le_of_ble_eq_true rfl)⟩ dX9_isGivingBackRefused_5 (t_X8_hasSinger hX hC.tr _ _ _ h) rfl rfl rfl (Nat.le_of_ble_eq_true rfl) (fun r3 q4 h => ?_)
  have z_r3 := h.1
  replace h := h.2
  refine a_if_ne (pc := 8) (tgt := 21) hC dX9_isGivingBackRefused_8 (by decide) (fun c => ?_) (fun c => ?_)
  · replace h := h.1 c
    refine a_aload_n (pc := 21) hC dX9_isGivingBackRefused_21 rfl ?_
    refine a_get (pc := 22) hC cl_X9 (oX_0 hX) 0 (by decide) tw_303 rfl dX9_isGivingBackRefused_22 ?_
    refine a_iload_n (pc := 25) hC dX9_isGivingBackRefused_25 rfl ?_
    refine a_callV (pc := 26) hC hR vm_X8_hasEcho tw_518 cl_X8 (oX_1 hX) ⟨(Nat.le_of_ble_eq_true rfl), (Nat.le_of_ble_eq_true rfl), (Nat.le_of_ble_eq_true rfl), (Nat.le_of_ble_eq_true rfl)⟩ dX9_isGivingBackRefused_26 (t_X8_hasEcho hX hC.tr _ _ _ h) rfl rfl rfl (Nat.le_of_ble_eq_true rfl) (fun r5 q6 h => ?_)
    have z_r5 := h.1
    replace h := h.2
    refine a_if_ne (pc := 29) (tgt := 42) hC dX9_isGivingBackRefused_29 (by decide) (fun c => ?_) (fun c => ?_)
    · replace h := h.1 c
      refine a_aload_n (pc := 42) hC dX9_isGivingBackRefused_42 rfl ?_
      refine a_get (pc := 43) hC cl_X9 (oX_0 hX) 0 (by decide) tw_303 rfl dX9_isGivingBackRefused_43 ?_
      refine a_get (pc := 46) hC cl_X8 (oX_1 hX) 1 (by decide) tw_153 rfl dX9_isGivingBackRefused_46 ?_
      refine a_get (pc := 49) hC cl_X1 (oX_6 hX) 3 (by decide) tw_93 rfl dX9_isGivingBackRefused_49 ?_
      refine a_iload_n (pc := 52) hC dX9_isGivingBackRefused_52 rfl ?_
      refine a_iald (pc := 53) hC (oX_9 hX) h.1 dX9_isGivingBackRefused_53 ?_
      replace h := h.2
      refine a_iload_n (pc := 54) hC dX9_isGivingBackRefused_54 rfl ?_
      refine a_icmp_eq (pc := 55) (tgt := 80) hC dX9_isGivingBackRefused_55 (by decide) (fun c => ?_) (fun c => ?_)
      · replace h := h.1 c
        refine a_iconst (pc := 80) hC dX9_isGivingBackRefused_80 (v := 0) rfl ?_
        exact a_bret (pc := 81) hC hE (Or.inl rfl) h (Nat.le_of_ble_eq_true rfl) (Nat.le_of_ble_eq_true rfl) dX9_isGivingBackRefused_81
      · replace h := h.2 c
        refine a_aload_n (pc := 58) hC dX9_isGivingBackRefused_58 rfl ?_
        refine a_get (pc := 59) hC cl_X9 (oX_0 hX) 6 (by decide) tw_308 rfl dX9_isGivingBackRefused_59 ?_
        refine a_bipush (pc := 62) hC dX9_isGivingBackRefused_62 (v := 11) rfl ?_
        refine a_aload_n (pc := 64) hC dX9_isGivingBackRefused_64 rfl ?_
        refine a_get (pc := 65) hC cl_X9 (oX_0 hX) 0 (by decide) tw_303 rfl dX9_isGivingBackRefused_65 ?_
        refine a_get (pc := 68) hC cl_X8 (oX_1 hX) 1 (by decide) tw_153 rfl dX9_isGivingBackRefused_68 ?_
        refine a_get (pc := 71) hC cl_X1 (oX_6 hX) 3 (by decide) tw_93 rfl dX9_isGivingBackRefused_71 ?_
        refine a_iload_n (pc := 74) hC dX9_isGivingBackRefused_74 rfl ?_
        refine a_iald (pc := 75) hC (oX_9 hX) h.1 dX9_isGivingBackRefused_75 ?_
        replace h := h.2
        refine a_callV (pc := 76) hC hR vm_X5_keep tw_705 cl_X5 (oX_204 hX) ⟨(Nat.le_of_ble_eq_true rfl), (Nat.le_of_ble_eq_true rfl), (Nat.le_of_ble_eq_true rfl), (Nat.le_of_ble_eq_true rfl)⟩ dX9_isGivingBackRefused_76 (t_X5_keep hX hC.tr _ _ _ _ h) rfl rfl rfl (Nat.le_of_ble_eq_true rfl) (fun r7 q8 h => ?_)
        have z_r7 := h.1
        replace h := h.2
        exact a_bret (pc := 79) hC hE z_r7 h (Nat.le_of_ble_eq_true rfl) (Nat.le_of_ble_eq_true rfl) dX9_isGivingBackRefused_79
    · replace h := h.2 c
      refine a_aload_n (pc := 32) hC dX9_isGivingBackRefused_32 rfl ?_
      refine a_get (pc := 33) hC cl_X9 (oX_0 hX) 6 (by decide) tw_308 rfl dX9_isGivingBackRefused_33 ?_
      refine a_iconst (pc := 36) hC dX9_isGivingBackRefused_36 (v := 2) rfl ?_
      refine a_iload_n (pc := 37) hC dX9_isGivingBackRefused_37 rfl ?_
      refine a_callV (pc := 38) hC hR vm_X5_keep tw_705 cl_X5 (oX_204 hX) ⟨(Nat.le_of_ble_eq_true rfl), (Nat.le_of_ble_eq_true rfl), (Nat.le_of_ble_eq_true rfl), (Nat.le_of_ble_eq_true rfl)⟩ dX9_isGivingBackRefused_38 (t_X5_keep hX hC.tr _ _ _ _ h) rfl rfl rfl (Nat.le_of_ble_eq_true rfl) (fun r9 q10 h => ?_)
      have z_r9 := h.1
      replace h := h.2
      exact a_bret (pc := 41) hC hE z_r9 h (Nat.le_of_ble_eq_true rfl) (Nat.le_of_ble_eq_true rfl) dX9_isGivingBackRefused_41
  · replace h := h.2 c
    refine a_aload_n (pc := 11) hC dX9_isGivingBackRefused_11 rfl ?_
    refine a_get (pc := 12) hC cl_X9 (oX_0 hX) 6 (by decide) tw_308 rfl dX9_isGivingBackRefused_12 ?_
    refine a_iconst (pc := 15) hC dX9_isGivingBackRefused_15 (v := 2) rfl ?_
    refine a_iload_n (pc := 16) hC dX9_isGivingBackRefused_16 rfl ?_
    refine a_callV (pc := 17) hC hR vm_X5_keep tw_705 cl_X5 (oX_204 hX) ⟨(Nat.le_of_ble_eq_true rfl), (Nat.le_of_ble_eq_true rfl), (Nat.le_of_ble_eq_true rfl), (Nat.le_of_ble_eq_true rfl)⟩ dX9_isGivingBackRefused_17 (t_X5_keep hX hC.tr _ _ _ _ h) rfl rfl rfl (Nat.le_of_ble_eq_true rfl) (fun r11 q12 h => ?_)
    have z_r11 := h.1
    replace h := h.2
    exact a_bret (pc := 20) hC hE z_r11 h (Nat.le_of_ble_eq_true rfl) (Nat.le_of_ble_eq_true rfl) dX9_isGivingBackRefused_20
set_option maxRecDepth 20000 in
theorem t_X9_isSingingRefused {l : Launch} {g : aG} (hX : isX g) (hl : l.stackTraces = false) (x1 : Int32) (q : aS) (P : Int32 → aS → Prop) (h : w_X9_isSingingRefused x1 q P) : aMi l g yX9_isSingingRefused (aWs yX9_isSingingRefused cX9_isSingingRefused 2 (some .boolean)) 1 0 0 [.ref (gAd g 0), .int x1] q (fun r u => (r = 0 ∨ r = 1) ∧ P r u) (fun _ _ => False) := by
  refine aMi_of RX9 ⟨by decide +kernel, rfl⟩ (cat_all rfl) (Nat.le_of_ble_eq_true rfl) hl hX.cl (fun f hR hC hE => ?_)
  show AW f g 0 [some (.ref (gAd g 0)), some (.int x1)] [] q 0 0
  unfold w_X9_isSingingRefused at h
  refine a_aload_n (pc := 0) hC dX9_isSingingRefused_0 rfl ?_
  refine a_get (pc := 1) hC cl_X9 (oX_0 hX) 0 (by decide) tw_303 rfl dX9_isSingingRefused_1 ?_
  refine a_iload_n (pc := 4) hC dX9_isSingingRefused_4 rfl ?_
  refine a_callV (pc := 5) hC hR vm_X8_hasSinger tw_532 cl_X8 (oX_1 hX) ⟨(Nat.le_of_ble_eq_true rfl), (Nat.le_of_ble_eq_true rfl), (Nat.le_of_ble_eq_true rfl), (Nat.le_of_ble_eq_true rfl)⟩ dX9_isSingingRefused_5 (t_X8_hasSinger hX hC.tr _ _ _ h) rfl rfl rfl (Nat.le_of_ble_eq_true rfl) (fun r2 q3 h => ?_)
  have z_r2 := h.1
  replace h := h.2
  refine a_if_ne (pc := 8) (tgt := 21) hC dX9_isSingingRefused_8 (by decide) (fun c => ?_) (fun c => ?_)
  · replace h := h.1 c
    refine a_aload_n (pc := 21) hC dX9_isSingingRefused_21 rfl ?_
    refine a_get (pc := 22) hC cl_X9 (oX_0 hX) 0 (by decide) tw_303 rfl dX9_isSingingRefused_22 ?_
    refine a_iload_n (pc := 25) hC dX9_isSingingRefused_25 rfl ?_
    refine a_callV (pc := 26) hC hR vm_X8_isInside tw_548 cl_X8 (oX_1 hX) ⟨(Nat.le_of_ble_eq_true rfl), (Nat.le_of_ble_eq_true rfl), (Nat.le_of_ble_eq_true rfl), (Nat.le_of_ble_eq_true rfl)⟩ dX9_isSingingRefused_26 (t_X8_isInside hX hC.tr _ _ _ h) rfl rfl rfl (Nat.le_of_ble_eq_true rfl) (fun r4 q5 h => ?_)
    have z_r4 := h.1
    replace h := h.2
    refine a_if_ne (pc := 29) (tgt := 43) hC dX9_isSingingRefused_29 (by decide) (fun c => ?_) (fun c => ?_)
    · replace h := h.1 c
      refine a_aload_n (pc := 43) hC dX9_isSingingRefused_43 rfl ?_
      refine a_get (pc := 44) hC cl_X9 (oX_0 hX) 0 (by decide) tw_303 rfl dX9_isSingingRefused_44 ?_
      refine a_get (pc := 47) hC cl_X8 (oX_1 hX) 2 (by decide) tw_155 rfl dX9_isSingingRefused_47 ?_
      refine a_get (pc := 50) hC cl_X7 (oX_12 hX) 2 (by decide) tw_127 rfl dX9_isSingingRefused_50 ?_
      refine a_iload_n (pc := 53) hC dX9_isSingingRefused_53 rfl ?_
      refine a_iald (pc := 54) hC (oX_14 hX) h.1 dX9_isSingingRefused_54 ?_
      replace h := h.2
      refine a_iconst (pc := 55) hC dX9_isSingingRefused_55 (v := 1) rfl ?_
      refine a_icmp_ge (pc := 56) (tgt := 81) hC dX9_isSingingRefused_56 (by decide) (fun c => ?_) (fun c => ?_)
      · replace h := h.1 c
        refine a_iconst (pc := 81) hC dX9_isSingingRefused_81 (v := 0) rfl ?_
        exact a_bret (pc := 82) hC hE (Or.inl rfl) h (Nat.le_of_ble_eq_true rfl) (Nat.le_of_ble_eq_true rfl) dX9_isSingingRefused_82
      · replace h := h.2 c
        refine a_aload_n (pc := 59) hC dX9_isSingingRefused_59 rfl ?_
        refine a_get (pc := 60) hC cl_X9 (oX_0 hX) 6 (by decide) tw_308 rfl dX9_isSingingRefused_60 ?_
        refine a_bipush (pc := 63) hC dX9_isSingingRefused_63 (v := 9) rfl ?_
        refine a_aload_n (pc := 65) hC dX9_isSingingRefused_65 rfl ?_
        refine a_get (pc := 66) hC cl_X9 (oX_0 hX) 0 (by decide) tw_303 rfl dX9_isSingingRefused_66 ?_
        refine a_get (pc := 69) hC cl_X8 (oX_1 hX) 2 (by decide) tw_155 rfl dX9_isSingingRefused_69 ?_
        refine a_get (pc := 72) hC cl_X7 (oX_12 hX) 2 (by decide) tw_127 rfl dX9_isSingingRefused_72 ?_
        refine a_iload_n (pc := 75) hC dX9_isSingingRefused_75 rfl ?_
        refine a_iald (pc := 76) hC (oX_14 hX) h.1 dX9_isSingingRefused_76 ?_
        replace h := h.2
        refine a_callV (pc := 77) hC hR vm_X5_keep tw_705 cl_X5 (oX_204 hX) ⟨(Nat.le_of_ble_eq_true rfl), (Nat.le_of_ble_eq_true rfl), (Nat.le_of_ble_eq_true rfl), (Nat.le_of_ble_eq_true rfl)⟩ dX9_isSingingRefused_77 (t_X5_keep hX hC.tr _ _ _ _ h) rfl rfl rfl (Nat.le_of_ble_eq_true rfl) (fun r6 q7 h => ?_)
        have z_r6 := h.1
        replace h := h.2
        exact a_bret (pc := 80) hC hE z_r6 h (Nat.le_of_ble_eq_true rfl) (Nat.le_of_ble_eq_true rfl) dX9_isSingingRefused_80
    · replace h := h.2 c
      refine a_aload_n (pc := 32) hC dX9_isSingingRefused_32 rfl ?_
      refine a_get (pc := 33) hC cl_X9 (oX_0 hX) 6 (by decide) tw_308 rfl dX9_isSingingRefused_33 ?_
      refine a_bipush (pc := 36) hC dX9_isSingingRefused_36 (v := 10) rfl ?_
      refine a_iload_n (pc := 38) hC dX9_isSingingRefused_38 rfl ?_
      refine a_callV (pc := 39) hC hR vm_X5_keep tw_705 cl_X5 (oX_204 hX) ⟨(Nat.le_of_ble_eq_true rfl), (Nat.le_of_ble_eq_true rfl), (Nat.le_of_ble_eq_true rfl), (Nat.le_of_ble_eq_true rfl)⟩ dX9_isSingingRefused_39 (t_X5_keep hX hC.tr _ _ _ _ h) rfl rfl rfl (Nat.le_of_ble_eq_true rfl) (fun r8 q9 h => ?_)
      have z_r8 := h.1
      replace h := h.2
      exact a_bret (pc := 42) hC hE z_r8 h (Nat.le_of_ble_eq_true rfl) (Nat.le_of_ble_eq_true rfl) dX9_isSingingRefused_42
  · replace h := h.2 c
    refine a_aload_n (pc := 11) hC dX9_isSingingRefused_11 rfl ?_
    refine a_get (pc := 12) hC cl_X9 (oX_0 hX) 6 (by decide) tw_308 rfl dX9_isSingingRefused_12 ?_
    refine a_iconst (pc := 15) hC dX9_isSingingRefused_15 (v := 2) rfl ?_
    refine a_iload_n (pc := 16) hC dX9_isSingingRefused_16 rfl ?_
    refine a_callV (pc := 17) hC hR vm_X5_keep tw_705 cl_X5 (oX_204 hX) ⟨(Nat.le_of_ble_eq_true rfl), (Nat.le_of_ble_eq_true rfl), (Nat.le_of_ble_eq_true rfl), (Nat.le_of_ble_eq_true rfl)⟩ dX9_isSingingRefused_17 (t_X5_keep hX hC.tr _ _ _ _ h) rfl rfl rfl (Nat.le_of_ble_eq_true rfl) (fun r10 q11 h => ?_)
    have z_r10 := h.1
    replace h := h.2
    exact a_bret (pc := 20) hC hE z_r10 h (Nat.le_of_ble_eq_true rfl) (Nat.le_of_ble_eq_true rfl) dX9_isSingingRefused_20
set_option maxRecDepth 20000 in
theorem t_X9_isRefused {l : Launch} {g : aG} (hX : isX g) (kd : Nat) (hkd : kd < 10) (hl : l.stackTraces = false) (x2 : Int32) (x3 : Int32) (x4 : Int32) (q : aS) (P : Int32 → aS → Prop) (h : w_X9_isRefused kd x2 x3 x4 q P) : aMi l g yX9_isRefused (aWs yX9_isRefused cX9_isRefused 5 (some .boolean)) 3 0 0 [.ref (gAd g 0), .ref (gK g kd), .int x2, .int x3, .int x4] q (fun r u => (r = 0 ∨ r = 1) ∧ P r u) (fun _ _ => False) := by
  refine aMi_of RX9 ⟨by decide +kernel, rfl⟩ (cat_all rfl) (Nat.le_of_ble_eq_true rfl) hl hX.cl (fun f hR hC hE => ?_)
  show AW f g 0 [some (.ref (gAd g 0)), some (.ref (gK g kd)), some (.int x2), some (.int x3), some (.int x4)] [] q 0 0
  unfold w_X9_isRefused at h
  refine a_sw (pc := 0) hX hC tw_693 dX9_isRefused_0 ?_
  refine a_aload_n (pc := 3) hC dX9_isRefused_3 rfl ?_
  refine a_ord (pc := 4) hX hC hR hkd rfl ⟨(Nat.le_of_ble_eq_true rfl), (Nat.le_of_ble_eq_true rfl), (Nat.le_of_ble_eq_true rfl)⟩ (Nat.le_of_ble_eq_true rfl) dX9_isRefused_4 ?_
  refine a_swi (pc := 7) hX hC hkd dX9_isRefused_7 ?_
  refine tab_or (fun c0 => ?_) (fun c0 => ?_) h
  · intro h
    refine a_tabIn (pc := 8) (tgt := 60) hC dX9_isRefused_8 (by rw [c0]; decide) (by rw [c0]; decide) (by rw [c0]; rfl) (by decide) ?_
    refine a_aload_n (pc := 60) hC dX9_isRefused_60 rfl ?_
    refine a_iload_n (pc := 61) hC dX9_isRefused_61 rfl ?_
    refine a_callV (pc := 62) hC hR vm_X9_isRoomRefused tw_701 cl_X9 (oX_0 hX) ⟨(Nat.le_of_ble_eq_true rfl), (Nat.le_of_ble_eq_true rfl), (Nat.le_of_ble_eq_true rfl), (Nat.le_of_ble_eq_true rfl)⟩ dX9_isRefused_62 (t_X9_isRoomRefused hX hC.tr _ _ _ h) rfl rfl rfl (Nat.le_of_ble_eq_true rfl) (fun r4 q5 h => ?_)
    have z_r4 := h.1
    replace h := h.2
    exact a_bret (pc := 65) hC hE z_r4 h (Nat.le_of_ble_eq_true rfl) (Nat.le_of_ble_eq_true rfl) dX9_isRefused_65
  intro h
  refine tab_or (fun c1 => ?_) (fun c1 => ?_) h
  · intro h
    refine a_tabIn (pc := 8) (tgt := 66) hC dX9_isRefused_8 (by rw [c1]; decide) (by rw [c1]; decide) (by rw [c1]; rfl) (by decide) ?_
    refine a_aload_n (pc := 66) hC dX9_isRefused_66 rfl ?_
    refine a_iload_n (pc := 67) hC dX9_isRefused_67 rfl ?_
    refine a_iload_n (pc := 68) hC dX9_isRefused_68 rfl ?_
    refine a_callV (pc := 69) hC hR vm_X9_isEchoRefused tw_709 cl_X9 (oX_0 hX) ⟨(Nat.le_of_ble_eq_true rfl), (Nat.le_of_ble_eq_true rfl), (Nat.le_of_ble_eq_true rfl), (Nat.le_of_ble_eq_true rfl)⟩ dX9_isRefused_69 (t_X9_isEchoRefused hX hC.tr _ _ _ _ h) rfl rfl rfl (Nat.le_of_ble_eq_true rfl) (fun r6 q7 h => ?_)
    have z_r6 := h.1
    replace h := h.2
    exact a_bret (pc := 72) hC hE z_r6 h (Nat.le_of_ble_eq_true rfl) (Nat.le_of_ble_eq_true rfl) dX9_isRefused_72
  intro h
  refine tab_or (fun c2 => ?_) (fun c2 => ?_) h
  · intro h
    refine a_tabIn (pc := 8) (tgt := 73) hC dX9_isRefused_8 (by rw [c2]; decide) (by rw [c2]; decide) (by rw [c2]; rfl) (by decide) ?_
    refine a_aload_n (pc := 73) hC dX9_isRefused_73 rfl ?_
    refine a_iload_n (pc := 74) hC dX9_isRefused_74 rfl ?_
    refine a_iload_n (pc := 75) hC dX9_isRefused_75 rfl ?_
    refine a_callV (pc := 76) hC hR vm_X9_isSingerRefused tw_713 cl_X9 (oX_0 hX) ⟨(Nat.le_of_ble_eq_true rfl), (Nat.le_of_ble_eq_true rfl), (Nat.le_of_ble_eq_true rfl), (Nat.le_of_ble_eq_true rfl)⟩ dX9_isRefused_76 (t_X9_isSingerRefused hX hC.tr _ _ _ _ h) rfl rfl rfl (Nat.le_of_ble_eq_true rfl) (fun r8 q9 h => ?_)
    have z_r8 := h.1
    replace h := h.2
    exact a_bret (pc := 79) hC hE z_r8 h (Nat.le_of_ble_eq_true rfl) (Nat.le_of_ble_eq_true rfl) dX9_isRefused_79
  intro h
  refine tab_or (fun c3 => ?_) (fun c3 => ?_) h
  · intro h
    refine a_tabIn (pc := 8) (tgt := 80) hC dX9_isRefused_8 (by rw [c3]; decide) (by rw [c3]; decide) (by rw [c3]; rfl) (by decide) ?_
    refine a_aload_n (pc := 80) hC dX9_isRefused_80 rfl ?_
    refine a_iload_n (pc := 81) hC dX9_isRefused_81 rfl ?_
    refine a_iload_n (pc := 82) hC dX9_isRefused_82 rfl ?_
    refine a_callV (pc := 83) hC hR vm_X9_isEnteringRefused tw_717 cl_X9 (oX_0 hX) ⟨(Nat.le_of_ble_eq_true rfl), (Nat.le_of_ble_eq_true rfl), (Nat.le_of_ble_eq_true rfl), (Nat.le_of_ble_eq_true rfl)⟩ dX9_isRefused_83 (t_X9_isEnteringRefused hX hC.tr _ _ _ _ h) rfl rfl rfl (Nat.le_of_ble_eq_true rfl) (fun r10 q11 h => ?_)
    have z_r10 := h.1
    replace h := h.2
    exact a_bret (pc := 86) hC hE z_r10 h (Nat.le_of_ble_eq_true rfl) (Nat.le_of_ble_eq_true rfl) dX9_isRefused_86
  intro h
  refine tab_or (fun c4 => ?_) (fun c4 => ?_) h
  · intro h
    refine a_tabIn (pc := 8) (tgt := 87) hC dX9_isRefused_8 (by rw [c4]; decide) (by rw [c4]; decide) (by rw [c4]; rfl) (by decide) ?_
    refine a_aload_n (pc := 87) hC dX9_isRefused_87 rfl ?_
    refine a_iload_n (pc := 88) hC dX9_isRefused_88 rfl ?_
    refine a_callV (pc := 89) hC hR vm_X9_isGoingOutRefused tw_731 cl_X9 (oX_0 hX) ⟨(Nat.le_of_ble_eq_true rfl), (Nat.le_of_ble_eq_true rfl), (Nat.le_of_ble_eq_true rfl), (Nat.le_of_ble_eq_true rfl)⟩ dX9_isRefused_89 (t_X9_isGoingOutRefused hX hC.tr _ _ _ h) rfl rfl rfl (Nat.le_of_ble_eq_true rfl) (fun r12 q13 h => ?_)
    have z_r12 := h.1
    replace h := h.2
    exact a_bret (pc := 92) hC hE z_r12 h (Nat.le_of_ble_eq_true rfl) (Nat.le_of_ble_eq_true rfl) dX9_isRefused_92
  intro h
  refine tab_or (fun c5 => ?_) (fun c5 => ?_) h
  · intro h
    refine a_tabIn (pc := 8) (tgt := 93) hC dX9_isRefused_8 (by rw [c5]; decide) (by rw [c5]; decide) (by rw [c5]; rfl) (by decide) ?_
    refine a_aload_n (pc := 93) hC dX9_isRefused_93 rfl ?_
    refine a_iload_n (pc := 94) hC dX9_isRefused_94 rfl ?_
    refine a_iload_n (pc := 95) hC dX9_isRefused_95 rfl ?_
    refine a_callV (pc := 96) hC hR vm_X9_isCarryingRefused tw_735 cl_X9 (oX_0 hX) ⟨(Nat.le_of_ble_eq_true rfl), (Nat.le_of_ble_eq_true rfl), (Nat.le_of_ble_eq_true rfl), (Nat.le_of_ble_eq_true rfl)⟩ dX9_isRefused_96 (t_X9_isCarryingRefused hX hC.tr _ _ _ _ h) rfl rfl rfl (Nat.le_of_ble_eq_true rfl) (fun r14 q15 h => ?_)
    have z_r14 := h.1
    replace h := h.2
    exact a_bret (pc := 99) hC hE z_r14 h (Nat.le_of_ble_eq_true rfl) (Nat.le_of_ble_eq_true rfl) dX9_isRefused_99
  intro h
  refine tab_or (fun c6 => ?_) (fun c6 => ?_) h
  · intro h
    refine a_tabIn (pc := 8) (tgt := 100) hC dX9_isRefused_8 (by rw [c6]; decide) (by rw [c6]; decide) (by rw [c6]; rfl) (by decide) ?_
    refine a_aload_n (pc := 100) hC dX9_isRefused_100 rfl ?_
    refine a_iload_n (pc := 101) hC dX9_isRefused_101 rfl ?_
    refine a_iload_n (pc := 102) hC dX9_isRefused_102 rfl ?_
    refine a_iload (pc := 103) hC dX9_isRefused_103 rfl ?_
    refine a_callV (pc := 105) hC hR vm_X9_isRentingRefused tw_739 cl_X9 (oX_0 hX) ⟨(Nat.le_of_ble_eq_true rfl), (Nat.le_of_ble_eq_true rfl), (Nat.le_of_ble_eq_true rfl), (Nat.le_of_ble_eq_true rfl)⟩ dX9_isRefused_105 (t_X9_isRentingRefused hX hC.tr _ _ _ _ _ h) rfl rfl rfl (Nat.le_of_ble_eq_true rfl) (fun r16 q17 h => ?_)
    have z_r16 := h.1
    replace h := h.2
    exact a_bret (pc := 108) hC hE z_r16 h (Nat.le_of_ble_eq_true rfl) (Nat.le_of_ble_eq_true rfl) dX9_isRefused_108
  intro h
  refine tab_or (fun c7 => ?_) (fun c7 => ?_) h
  · intro h
    refine a_tabIn (pc := 8) (tgt := 109) hC dX9_isRefused_8 (by rw [c7]; decide) (by rw [c7]; decide) (by rw [c7]; rfl) (by decide) ?_
    refine a_aload_n (pc := 109) hC dX9_isRefused_109 rfl ?_
    refine a_iload_n (pc := 110) hC dX9_isRefused_110 rfl ?_
    refine a_iload_n (pc := 111) hC dX9_isRefused_111 rfl ?_
    refine a_callV (pc := 112) hC hR vm_X9_isGivingBackRefused tw_751 cl_X9 (oX_0 hX) ⟨(Nat.le_of_ble_eq_true rfl), (Nat.le_of_ble_eq_true rfl), (Nat.le_of_ble_eq_true rfl), (Nat.le_of_ble_eq_true rfl)⟩ dX9_isRefused_112 (t_X9_isGivingBackRefused hX hC.tr _ _ _ _ h) rfl rfl rfl (Nat.le_of_ble_eq_true rfl) (fun r18 q19 h => ?_)
    have z_r18 := h.1
    replace h := h.2
    exact a_bret (pc := 115) hC hE z_r18 h (Nat.le_of_ble_eq_true rfl) (Nat.le_of_ble_eq_true rfl) dX9_isRefused_115
  intro h
  refine tab_or (fun c8 => ?_) (fun c8 => ?_) h
  · intro h
    refine a_tabIn (pc := 8) (tgt := 116) hC dX9_isRefused_8 (by rw [c8]; decide) (by rw [c8]; decide) (by rw [c8]; rfl) (by decide) ?_
    refine a_aload_n (pc := 116) hC dX9_isRefused_116 rfl ?_
    refine a_iload_n (pc := 117) hC dX9_isRefused_117 rfl ?_
    refine a_callV (pc := 118) hC hR vm_X9_isSingingRefused tw_755 cl_X9 (oX_0 hX) ⟨(Nat.le_of_ble_eq_true rfl), (Nat.le_of_ble_eq_true rfl), (Nat.le_of_ble_eq_true rfl), (Nat.le_of_ble_eq_true rfl)⟩ dX9_isRefused_118 (t_X9_isSingingRefused hX hC.tr _ _ _ h) rfl rfl rfl (Nat.le_of_ble_eq_true rfl) (fun r20 q21 h => ?_)
    have z_r20 := h.1
    replace h := h.2
    exact a_bret (pc := 121) hC hE z_r20 h (Nat.le_of_ble_eq_true rfl) (Nat.le_of_ble_eq_true rfl) dX9_isRefused_121
  intro h
  refine a_tabOut (pc := 8) (tgt := 122) hC dX9_isRefused_8 (by have e0 := tab_ne (z := 1) rfl c0; have e1 := tab_ne (z := 2) rfl c1; have e2 := tab_ne (z := 3) rfl c2; have e3 := tab_ne (z := 4) rfl c3; have e4 := tab_ne (z := 5) rfl c4; have e5 := tab_ne (z := 6) rfl c5; have e6 := tab_ne (z := 7) rfl c6; have e7 := tab_ne (z := 8) rfl c7; have e8 := tab_ne (z := 9) rfl c8; omega) (by decide) ?_
  refine a_iconst (pc := 122) hC dX9_isRefused_122 (v := 0) rfl ?_
  exact a_bret (pc := 123) hC hE (Or.inl rfl) h (Nat.le_of_ble_eq_true rfl) (Nat.le_of_ble_eq_true rfl) dX9_isRefused_123
set_option maxRecDepth 20000 in
theorem t_X9_doOrder {l : Launch} {g : aG} (hX : isX g) (kd : Nat) (hkd : kd < 10) (hl : l.stackTraces = false) (x2 : Int32) (x3 : Int32) (x4 : Int32) (q : aS) (P : Int32 → aS → Prop) (h : w_X9_doOrder kd x2 x3 x4 q P) : aMi l g yX9_doOrder (aWs yX9_doOrder cX9_doOrder 5 (some .int)) 5 0 0 [.ref (gAd g 0), .ref (gK g kd), .int x2, .int x3, .int x4] q P (fun _ _ => False) := by
  refine aMi_of RX9 ⟨by decide +kernel, rfl⟩ (cat_all rfl) (Nat.le_of_ble_eq_true rfl) hl hX.cl (fun f hR hC hE => ?_)
  show AW f g 0 [some (.ref (gAd g 0)), some (.ref (gK g kd)), some (.int x2), some (.int x3), some (.int x4)] [] q 0 0
  unfold w_X9_doOrder at h
  refine a_sw (pc := 0) hX hC tw_693 dX9_doOrder_0 ?_
  refine a_aload_n (pc := 3) hC dX9_doOrder_3 rfl ?_
  refine a_ord (pc := 4) hX hC hR hkd rfl ⟨(Nat.le_of_ble_eq_true rfl), (Nat.le_of_ble_eq_true rfl), (Nat.le_of_ble_eq_true rfl)⟩ (Nat.le_of_ble_eq_true rfl) dX9_doOrder_4 ?_
  refine a_swi (pc := 7) hX hC hkd dX9_doOrder_7 ?_
  refine tab_or (fun c0 => ?_) (fun c0 => ?_) h
  · intro h
    refine a_tabIn (pc := 8) (tgt := 60) hC dX9_doOrder_8 (by rw [c0]; decide) (by rw [c0]; decide) (by rw [c0]; rfl) (by decide) ?_
    refine a_aload_n (pc := 60) hC dX9_doOrder_60 rfl ?_
    refine a_get (pc := 61) hC cl_X9 (oX_0 hX) 0 (by decide) tw_303 rfl dX9_doOrder_61 ?_
    refine a_iload_n (pc := 64) hC dX9_doOrder_64 rfl ?_
    refine a_callV (pc := 65) hC hR vm_X8_addRoom tw_805 cl_X8 (oX_1 hX) ⟨(Nat.le_of_ble_eq_true rfl), (Nat.le_of_ble_eq_true rfl), (Nat.le_of_ble_eq_true rfl), (Nat.le_of_ble_eq_true rfl)⟩ dX9_doOrder_65 (t_X8_addRoom hX hC.tr _ _ _ h) rfl rfl rfl (Nat.le_of_ble_eq_true rfl) (fun r4 q5 h => ?_)
    exact a_iret (pc := 68) hC hE h (Nat.le_of_ble_eq_true rfl) (Nat.le_of_ble_eq_true rfl) dX9_doOrder_68
  intro h
  refine tab_or (fun c1 => ?_) (fun c1 => ?_) h
  · intro h
    refine a_tabIn (pc := 8) (tgt := 69) hC dX9_doOrder_8 (by rw [c1]; decide) (by rw [c1]; decide) (by rw [c1]; rfl) (by decide) ?_
    refine a_aload_n (pc := 69) hC dX9_doOrder_69 rfl ?_
    refine a_get (pc := 70) hC cl_X9 (oX_0 hX) 0 (by decide) tw_303 rfl dX9_doOrder_70 ?_
    refine a_iload_n (pc := 73) hC dX9_doOrder_73 rfl ?_
    refine a_iload_n (pc := 74) hC dX9_doOrder_74 rfl ?_
    refine a_callV (pc := 75) hC hR vm_X8_addEcho tw_809 cl_X8 (oX_1 hX) ⟨(Nat.le_of_ble_eq_true rfl), (Nat.le_of_ble_eq_true rfl), (Nat.le_of_ble_eq_true rfl), (Nat.le_of_ble_eq_true rfl)⟩ dX9_doOrder_75 (t_X8_addEcho hX hC.tr _ _ _ _ h) rfl rfl rfl (Nat.le_of_ble_eq_true rfl) (fun r6 q7 h => ?_)
    exact a_iret (pc := 78) hC hE h (Nat.le_of_ble_eq_true rfl) (Nat.le_of_ble_eq_true rfl) dX9_doOrder_78
  intro h
  refine tab_or (fun c2 => ?_) (fun c2 => ?_) h
  · intro h
    refine a_tabIn (pc := 8) (tgt := 79) hC dX9_doOrder_8 (by rw [c2]; decide) (by rw [c2]; decide) (by rw [c2]; rfl) (by decide) ?_
    refine a_aload_n (pc := 79) hC dX9_doOrder_79 rfl ?_
    refine a_get (pc := 80) hC cl_X9 (oX_0 hX) 0 (by decide) tw_303 rfl dX9_doOrder_80 ?_
    refine a_iload_n (pc := 83) hC dX9_doOrder_83 rfl ?_
    refine a_iload_n (pc := 84) hC dX9_doOrder_84 rfl ?_
    refine a_callV (pc := 85) hC hR vm_X8_addSinger tw_813 cl_X8 (oX_1 hX) ⟨(Nat.le_of_ble_eq_true rfl), (Nat.le_of_ble_eq_true rfl), (Nat.le_of_ble_eq_true rfl), (Nat.le_of_ble_eq_true rfl)⟩ dX9_doOrder_85 (t_X8_addSinger hX hC.tr _ _ _ _ h) rfl rfl rfl (Nat.le_of_ble_eq_true rfl) (fun r8 q9 h => ?_)
    exact a_iret (pc := 88) hC hE h (Nat.le_of_ble_eq_true rfl) (Nat.le_of_ble_eq_true rfl) dX9_doOrder_88
  intro h
  refine tab_or (fun c3 => ?_) (fun c3 => ?_) h
  · intro h
    refine a_tabIn (pc := 8) (tgt := 89) hC dX9_doOrder_8 (by rw [c3]; decide) (by rw [c3]; decide) (by rw [c3]; rfl) (by decide) ?_
    refine a_aload_n (pc := 89) hC dX9_doOrder_89 rfl ?_
    refine a_get (pc := 90) hC cl_X9 (oX_0 hX) 0 (by decide) tw_303 rfl dX9_doOrder_90 ?_
    refine a_iload_n (pc := 93) hC dX9_doOrder_93 rfl ?_
    refine a_iload_n (pc := 94) hC dX9_doOrder_94 rfl ?_
    refine a_callV (pc := 95) hC hR vm_X8_moveIn tw_817 cl_X8 (oX_1 hX) ⟨(Nat.le_of_ble_eq_true rfl), (Nat.le_of_ble_eq_true rfl), (Nat.le_of_ble_eq_true rfl), (Nat.le_of_ble_eq_true rfl)⟩ dX9_doOrder_95 (t_X8_moveIn hX hC.tr _ _ _ _ h) rfl rfl rfl (Nat.le_of_ble_eq_true rfl) (fun r10 q11 h => ?_)
    exact a_iret (pc := 98) hC hE h (Nat.le_of_ble_eq_true rfl) (Nat.le_of_ble_eq_true rfl) dX9_doOrder_98
  intro h
  refine tab_or (fun c4 => ?_) (fun c4 => ?_) h
  · intro h
    refine a_tabIn (pc := 8) (tgt := 99) hC dX9_doOrder_8 (by rw [c4]; decide) (by rw [c4]; decide) (by rw [c4]; rfl) (by decide) ?_
    refine a_aload_n (pc := 99) hC dX9_doOrder_99 rfl ?_
    refine a_get (pc := 100) hC cl_X9 (oX_0 hX) 0 (by decide) tw_303 rfl dX9_doOrder_100 ?_
    refine a_iload_n (pc := 103) hC dX9_doOrder_103 rfl ?_
    refine a_callV (pc := 104) hC hR vm_X8_moveOut tw_821 cl_X8 (oX_1 hX) ⟨(Nat.le_of_ble_eq_true rfl), (Nat.le_of_ble_eq_true rfl), (Nat.le_of_ble_eq_true rfl), (Nat.le_of_ble_eq_true rfl)⟩ dX9_doOrder_104 (t_X8_moveOut hX hC.tr _ _ _ h) rfl rfl rfl (Nat.le_of_ble_eq_true rfl) (fun r12 q13 h => ?_)
    exact a_iret (pc := 107) hC hE h (Nat.le_of_ble_eq_true rfl) (Nat.le_of_ble_eq_true rfl) dX9_doOrder_107
  intro h
  refine tab_or (fun c5 => ?_) (fun c5 => ?_) h
  · intro h
    refine a_tabIn (pc := 8) (tgt := 108) hC dX9_doOrder_8 (by rw [c5]; decide) (by rw [c5]; decide) (by rw [c5]; rfl) (by decide) ?_
    refine a_aload_n (pc := 108) hC dX9_doOrder_108 rfl ?_
    refine a_get (pc := 109) hC cl_X9 (oX_0 hX) 0 (by decide) tw_303 rfl dX9_doOrder_109 ?_
    refine a_iload_n (pc := 112) hC dX9_doOrder_112 rfl ?_
    refine a_iload_n (pc := 113) hC dX9_doOrder_113 rfl ?_
    refine a_callV (pc := 114) hC hR vm_X8_moveEcho tw_825 cl_X8 (oX_1 hX) ⟨(Nat.le_of_ble_eq_true rfl), (Nat.le_of_ble_eq_true rfl), (Nat.le_of_ble_eq_true rfl), (Nat.le_of_ble_eq_true rfl)⟩ dX9_doOrder_114 (t_X8_moveEcho hX hC.tr _ _ _ _ h) rfl rfl rfl (Nat.le_of_ble_eq_true rfl) (fun r14 q15 h => ?_)
    exact a_iret (pc := 117) hC hE h (Nat.le_of_ble_eq_true rfl) (Nat.le_of_ble_eq_true rfl) dX9_doOrder_117
  intro h
  refine tab_or (fun c6 => ?_) (fun c6 => ?_) h
  · intro h
    refine a_tabIn (pc := 8) (tgt := 118) hC dX9_doOrder_8 (by rw [c6]; decide) (by rw [c6]; decide) (by rw [c6]; rfl) (by decide) ?_
    refine a_aload_n (pc := 118) hC dX9_doOrder_118 rfl ?_
    refine a_get (pc := 119) hC cl_X9 (oX_0 hX) 0 (by decide) tw_303 rfl dX9_doOrder_119 ?_
    refine a_iload_n (pc := 122) hC dX9_doOrder_122 rfl ?_
    refine a_iload_n (pc := 123) hC dX9_doOrder_123 rfl ?_
    refine a_iload (pc := 124) hC dX9_doOrder_124 rfl ?_
    refine a_callV (pc := 126) hC hR vm_X8_letEcho tw_829 cl_X8 (oX_1 hX) ⟨(Nat.le_of_ble_eq_true rfl), (Nat.le_of_ble_eq_true rfl), (Nat.le_of_ble_eq_true rfl), (Nat.le_of_ble_eq_true rfl)⟩ dX9_doOrder_126 (t_X8_letEcho hX hC.tr _ _ _ _ _ h) rfl rfl rfl (Nat.le_of_ble_eq_true rfl) (fun r16 q17 h => ?_)
    exact a_iret (pc := 129) hC hE h (Nat.le_of_ble_eq_true rfl) (Nat.le_of_ble_eq_true rfl) dX9_doOrder_129
  intro h
  refine tab_or (fun c7 => ?_) (fun c7 => ?_) h
  · intro h
    refine a_tabIn (pc := 8) (tgt := 130) hC dX9_doOrder_8 (by rw [c7]; decide) (by rw [c7]; decide) (by rw [c7]; rfl) (by decide) ?_
    refine a_aload_n (pc := 130) hC dX9_doOrder_130 rfl ?_
    refine a_get (pc := 131) hC cl_X9 (oX_0 hX) 0 (by decide) tw_303 rfl dX9_doOrder_131 ?_
    refine a_iload_n (pc := 134) hC dX9_doOrder_134 rfl ?_
    refine a_callV (pc := 135) hC hR vm_X8_endLetting tw_833 cl_X8 (oX_1 hX) ⟨(Nat.le_of_ble_eq_true rfl), (Nat.le_of_ble_eq_true rfl), (Nat.le_of_ble_eq_true rfl), (Nat.le_of_ble_eq_true rfl)⟩ dX9_doOrder_135 (t_X8_endLetting hX hC.tr _ _ _ h) rfl rfl rfl (Nat.le_of_ble_eq_true rfl) (fun r18 q19 h => ?_)
    exact a_iret (pc := 138) hC hE h (Nat.le_of_ble_eq_true rfl) (Nat.le_of_ble_eq_true rfl) dX9_doOrder_138
  intro h
  refine tab_or (fun c8 => ?_) (fun c8 => ?_) h
  · intro h
    refine a_tabIn (pc := 8) (tgt := 139) hC dX9_doOrder_8 (by rw [c8]; decide) (by rw [c8]; decide) (by rw [c8]; rfl) (by decide) ?_
    refine a_aload_n (pc := 139) hC dX9_doOrder_139 rfl ?_
    refine a_get (pc := 140) hC cl_X9 (oX_0 hX) 0 (by decide) tw_303 rfl dX9_doOrder_140 ?_
    refine a_iload_n (pc := 143) hC dX9_doOrder_143 rfl ?_
    refine a_callV (pc := 144) hC hR vm_X8_singVerse tw_837 cl_X8 (oX_1 hX) ⟨(Nat.le_of_ble_eq_true rfl), (Nat.le_of_ble_eq_true rfl), (Nat.le_of_ble_eq_true rfl), (Nat.le_of_ble_eq_true rfl)⟩ dX9_doOrder_144 (t_X8_singVerse hX hC.tr _ _ _ h) rfl rfl rfl (Nat.le_of_ble_eq_true rfl) (fun r20 q21 h => ?_)
    exact a_iret (pc := 147) hC hE h (Nat.le_of_ble_eq_true rfl) (Nat.le_of_ble_eq_true rfl) dX9_doOrder_147
  intro h
  refine a_tabOut (pc := 8) (tgt := 148) hC dX9_doOrder_8 (by have e0 := tab_ne (z := 1) rfl c0; have e1 := tab_ne (z := 2) rfl c1; have e2 := tab_ne (z := 3) rfl c2; have e3 := tab_ne (z := 4) rfl c3; have e4 := tab_ne (z := 5) rfl c4; have e5 := tab_ne (z := 6) rfl c5; have e6 := tab_ne (z := 7) rfl c6; have e7 := tab_ne (z := 8) rfl c7; have e8 := tab_ne (z := 9) rfl c8; omega) (by decide) ?_
  refine a_aload_n (pc := 148) hC dX9_doOrder_148 rfl ?_
  refine a_get (pc := 149) hC cl_X9 (oX_0 hX) 0 (by decide) tw_303 rfl dX9_doOrder_149 ?_
  refine a_callV (pc := 152) hC hR vm_X8_letNightPass tw_846 cl_X8 (oX_1 hX) ⟨(Nat.le_of_ble_eq_true rfl), (Nat.le_of_ble_eq_true rfl), (Nat.le_of_ble_eq_true rfl), (Nat.le_of_ble_eq_true rfl)⟩ dX9_doOrder_152 (t_X8_letNightPass hX hC.tr _ _ h) rfl rfl rfl (Nat.le_of_ble_eq_true rfl) (fun r22 q23 h => ?_)
  exact a_iret (pc := 155) hC hE h (Nat.le_of_ble_eq_true rfl) (Nat.le_of_ble_eq_true rfl) dX9_doOrder_155
set_option maxRecDepth 20000 in
theorem t_X9_change {l : Launch} {g : aG} (hX : isX g) (kd : Nat) (hkd : kd < 10) (hl : l.stackTraces = false) (x2 : Int32) (x3 : Int32) (x4 : Int32) (q : aS) (P : Int32 → aS → Prop) (X : String → aS → Prop) (h : w_X9_change kd x2 x3 x4 q P X) : aMi l g yX9_change (aWs yX9_change cX9_change 5 (some .int)) 8 1 6 [.ref (gAd g 0), .ref (gK g kd), .int x2, .int x3, .int x4] q P X := by
  refine aMi_of RX9 ⟨by decide +kernel, rfl⟩ (cat_all rfl) (Nat.le_of_ble_eq_true rfl) hl hX.cl (fun f hR hC hE => ?_)
  show AW f g 0 [some (.ref (gAd g 0)), some (.ref (gK g kd)), some (.int x2), some (.int x3), some (.int x4)] [] q 0 0
  unfold w_X9_change at h
  refine a_aload_n (pc := 0) hC dX9_change_0 rfl ?_
  refine a_aload_n (pc := 1) hC dX9_change_1 rfl ?_
  refine a_iload_n (pc := 2) hC dX9_change_2 rfl ?_
  refine a_iload_n (pc := 3) hC dX9_change_3 rfl ?_
  refine a_iload (pc := 4) hC dX9_change_4 rfl ?_
  refine a_callV (pc := 6) hC hR vm_X9_isRefused tw_689 cl_X9 (oX_0 hX) ⟨(Nat.le_of_ble_eq_true rfl), (Nat.le_of_ble_eq_true rfl), (Nat.le_of_ble_eq_true rfl), (Nat.le_of_ble_eq_true rfl)⟩ dX9_change_6 (t_X9_isRefused hX _ hkd hC.tr _ _ _ _ _ h) rfl rfl rfl (Nat.le_of_ble_eq_true rfl) (fun r4 q5 h => ?_)
  have z_r4 := h.1
  replace h := h.2
  refine a_if_eq (pc := 9) (tgt := 23) hC dX9_change_9 (by decide) (fun c => ?_) (fun c => ?_)
  · replace h := h.1 c
    refine a_aload_n (pc := 23) hC dX9_change_23 rfl ?_
    refine a_get (pc := 24) hC cl_X9 (oX_0 hX) 4 (by decide) tw_306 rfl dX9_change_24 ?_
    refine a_aload_n (pc := 27) hC dX9_change_27 rfl ?_
    refine a_get (pc := 28) hC cl_X9 (oX_0 hX) 0 (by decide) tw_303 rfl dX9_change_28 ?_
    refine a_callVv (pc := 31) hC hR vm_X4_keep tw_775 cl_X4 (oX_52 hX) ⟨(Nat.le_of_ble_eq_true rfl), (Nat.le_of_ble_eq_true rfl), (Nat.le_of_ble_eq_true rfl), (Nat.le_of_ble_eq_true rfl)⟩ dX9_change_31 (t_X4_keep hX _ (Or.inl rfl) hC.tr _ _ h) rfl rfl rfl (Nat.le_of_ble_eq_true rfl) (fun q7 h => ?_)
    refine a_aload_n (pc := 34) hC dX9_change_34 rfl ?_
    refine a_aload_n (pc := 35) hC dX9_change_35 rfl ?_
    refine a_iload_n (pc := 36) hC dX9_change_36 rfl ?_
    refine a_iload_n (pc := 37) hC dX9_change_37 rfl ?_
    refine a_iload (pc := 38) hC dX9_change_38 rfl ?_
    refine a_callV (pc := 40) hC hR vm_X9_doOrder tw_801 cl_X9 (oX_0 hX) ⟨(Nat.le_of_ble_eq_true rfl), (Nat.le_of_ble_eq_true rfl), (Nat.le_of_ble_eq_true rfl), (Nat.le_of_ble_eq_true rfl)⟩ dX9_change_40 (t_X9_doOrder hX _ hkd hC.tr _ _ _ _ _ h) rfl rfl rfl (Nat.le_of_ble_eq_true rfl) (fun r8 q9 h => ?_)
    exact a_iret (pc := 43) hC hE h (Nat.le_of_ble_eq_true rfl) (Nat.le_of_ble_eq_true rfl) dX9_change_43
  · replace h := h.2 c
    exact a_throwW (pc := 12) hX hC hR hE.1 ex_294 mm_414 rfl ⟨(Nat.le_of_ble_eq_true rfl), (Nat.le_of_ble_eq_true rfl), (Nat.le_of_ble_eq_true rfl), (Nat.le_of_ble_eq_true rfl), (Nat.le_of_ble_eq_true rfl)⟩ (Nat.le_of_ble_eq_true rfl) dX9_change_12 dX9_change_15 dX9_change_16 dX9_change_19 dX9_change_22 h
