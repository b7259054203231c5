theorem dX8_hasRoom_0 : decode cX8_hasRoom 0 = .ok (.iload_n 1, 1) := by decide +kernel
theorem dX8_hasRoom_1 : decode cX8_hasRoom 1 = .ok (.ifCond .lt 18, 3) := by decide +kernel
theorem dX8_hasRoom_4 : decode cX8_hasRoom 4 = .ok (.iload_n 1, 1) := by decide +kernel
theorem dX8_hasRoom_5 : decode cX8_hasRoom 5 = .ok (.aload_n 0, 1) := by decide +kernel
theorem dX8_hasRoom_6 : decode cX8_hasRoom 6 = .ok (.getfield 12, 3) := by decide +kernel
theorem dX8_hasRoom_9 : decode cX8_hasRoom 9 = .ok (.getfield 55, 3) := by decide +kernel
theorem dX8_hasRoom_12 : decode cX8_hasRoom 12 = .ok (.if_icmp .ge 7, 3) := by decide +kernel
theorem dX8_hasRoom_15 : decode cX8_hasRoom 15 = .ok (.iconst 1, 1) := by decide +kernel
theorem dX8_hasRoom_16 : decode cX8_hasRoom 16 = .ok (.goto 4, 3) := by decide +kernel
theorem dX8_hasRoom_19 : decode cX8_hasRoom 19 = .ok (.iconst 0, 1) := by decide +kernel
theorem dX8_hasRoom_20 : decode cX8_hasRoom 20 = .ok (.ireturn, 1) := by decide +kernel
theorem vm_X8_hasRoom : aVm yX8_hasRoom RX8 cX8_hasRoom 2 (some .boolean) 1 := ⟨tw_473, tw_471, tw_472, tw_2, rfl, by decide +kernel, by decide +kernel, by decide +kernel⟩
theorem dX8_hasEcho_0 : decode cX8_hasEcho 0 = .ok (.iload_n 1, 1) := by decide +kernel
theorem dX8_hasEcho_1 : decode cX8_hasEcho 1 = .ok (.ifCond .lt 18, 3) := by decide +kernel
theorem dX8_hasEcho_4 : decode cX8_hasEcho 4 = .ok (.iload_n 1, 1) := by decide +kernel
theorem dX8_hasEcho_5 : decode cX8_hasEcho 5 = .ok (.aload_n 0, 1) := by decide +kernel
theorem dX8_hasEcho_6 : decode cX8_hasEcho 6 = .ok (.getfield 21, 3) := by decide +kernel
theorem dX8_hasEcho_9 : decode cX8_hasEcho 9 = .ok (.getfield 58, 3) := by decide +kernel
theorem dX8_hasEcho_12 : decode cX8_hasEcho 12 = .ok (.if_icmp .ge 7, 3) := by decide +kernel
theorem dX8_hasEcho_15 : decode cX8_hasEcho 15 = .ok (.iconst 1, 1) := by decide +kernel
theorem dX8_hasEcho_16 : decode cX8_hasEcho 16 = .ok (.goto 4, 3) := by decide +kernel
theorem dX8_hasEcho_19 : decode cX8_hasEcho 19 = .ok (.iconst 0, 1) := by decide +kernel
theorem dX8_hasEcho_20 : decode cX8_hasEcho 20 = .ok (.ireturn, 1) := by decide +kernel
theorem vm_X8_hasEcho : aVm yX8_hasEcho RX8 cX8_hasEcho 2 (some .boolean) 1 := ⟨tw_521, tw_519, tw_520, tw_2, rfl, by decide +kernel, by decide +kernel, by decide +kernel⟩
theorem dX8_hasSinger_0 : decode cX8_hasSinger 0 = .ok (.iload_n 1, 1) := by decide +kernel
theorem dX8_hasSinger_1 : decode cX8_hasSinger 1 = .ok (.ifCond .lt 18, 3) := by decide +kernel
theorem dX8_hasSinger_4 : decode cX8_hasSinger 4 = .ok (.iload_n 1, 1) := by decide +kernel
theorem dX8_hasSinger_5 : decode cX8_hasSinger 5 = .ok (.aload_n 0, 1) := by decide +kernel
theorem dX8_hasSinger_6 : decode cX8_hasSinger 6 = .ok (.getfield 28, 3) := by decide +kernel
theorem dX8_hasSinger_9 : decode cX8_hasSinger 9 = .ok (.getfield 59, 3) := by decide +kernel
theorem dX8_hasSinger_12 : decode cX8_hasSinger 12 = .ok (.if_icmp .ge 7, 3) := by decide +kernel
theorem dX8_hasSinger_15 : decode cX8_hasSinger 15 = .ok (.iconst 1, 1) := by decide +kernel
theorem dX8_hasSinger_16 : decode cX8_hasSinger 16 = .ok (.goto 4, 3) := by decide +kernel
theorem dX8_hasSinger_19 : decode cX8_hasSinger 19 = .ok (.iconst 0, 1) := by decide +kernel
theorem dX8_hasSinger_20 : decode cX8_hasSinger 20 = .ok (.ireturn, 1) := by decide +kernel
theorem vm_X8_hasSinger : aVm yX8_hasSinger RX8 cX8_hasSinger 2 (some .boolean) 1 := ⟨tw_535, tw_533, tw_534, tw_2, rfl, by decide +kernel, by decide +kernel, by decide +kernel⟩
theorem dX8_isInside_0 : decode cX8_isInside 0 = .ok (.aload_n 0, 1) := by decide +kernel
theorem dX8_isInside_1 : decode cX8_isInside 1 = .ok (.getfield 28, 3) := by decide +kernel
theorem dX8_isInside_4 : decode cX8_isInside 4 = .ok (.getfield 60, 3) := by decide +kernel
theorem dX8_isInside_7 : decode cX8_isInside 7 = .ok (.iload_n 1, 1) := by decide +kernel
theorem dX8_isInside_8 : decode cX8_isInside 8 = .ok (.iaload, 1) := by decide +kernel
theorem dX8_isInside_9 : decode cX8_isInside 9 = .ok (.iconst (-1), 1) := by decide +kernel
theorem dX8_isInside_10 : decode cX8_isInside 10 = .ok (.if_icmp .eq 7, 3) := by decide +kernel
theorem dX8_isInside_13 : decode cX8_isInside 13 = .ok (.iconst 1, 1) := by decide +kernel
theorem dX8_isInside_14 : decode cX8_isInside 14 = .ok (.goto 4, 3) := by decide +kernel
theorem dX8_isInside_17 : decode cX8_isInside 17 = .ok (.iconst 0, 1) := by decide +kernel
theorem dX8_isInside_18 : decode cX8_isInside 18 = .ok (.ireturn, 1) := by decide +kernel
theorem vm_X8_isInside : aVm yX8_isInside RX8 cX8_isInside 2 (some .boolean) 1 := ⟨tw_551, tw_549, tw_550, tw_2, rfl, by decide +kernel, by decide +kernel, by decide +kernel⟩
theorem dX8_isLet_0 : decode cX8_isLet 0 = .ok (.aload_n 0, 1) := by decide +kernel
theorem dX8_isLet_1 : decode cX8_isLet 1 = .ok (.getfield 21, 3) := by decide +kernel
theorem dX8_isLet_4 : decode cX8_isLet 4 = .ok (.getfield 64, 3) := by decide +kernel
theorem dX8_isLet_7 : decode cX8_isLet 7 = .ok (.iload_n 1, 1) := by decide +kernel
theorem dX8_isLet_8 : decode cX8_isLet 8 = .ok (.iaload, 1) := by decide +kernel
theorem dX8_isLet_9 : decode cX8_isLet 9 = .ok (.iconst (-1), 1) := by decide +kernel
theorem dX8_isLet_10 : decode cX8_isLet 10 = .ok (.if_icmp .eq 7, 3) := by decide +kernel
theorem dX8_isLet_13 : decode cX8_isLet 13 = .ok (.iconst 1, 1) := by decide +kernel
theorem dX8_isLet_14 : decode cX8_isLet 14 = .ok (.goto 4, 3) := by decide +kernel
theorem dX8_isLet_17 : decode cX8_isLet 17 = .ok (.iconst 0, 1) := by decide +kernel
theorem dX8_isLet_18 : decode cX8_isLet 18 = .ok (.ireturn, 1) := by decide +kernel
theorem vm_X8_isLet : aVm yX8_isLet RX8 cX8_isLet 2 (some .boolean) 1 := ⟨tw_508, tw_506, tw_507, tw_2, rfl, by decide +kernel, by decide +kernel, by decide +kernel⟩
theorem dX8_isWithEcho_0 : decode cX8_isWithEcho 0 = .ok (.aload_n 0, 1) := by decide +kernel
theorem dX8_isWithEcho_1 : decode cX8_isWithEcho 1 = .ok (.getfield 28, 3) := by decide +kernel
theorem dX8_isWithEcho_4 : decode cX8_isWithEcho 4 = .ok (.getfield 60, 3) := by decide +kernel
theorem dX8_isWithEcho_7 : decode cX8_isWithEcho 7 = .ok (.iload_n 1, 1) := by decide +kernel
theorem dX8_isWithEcho_8 : decode cX8_isWithEcho 8 = .ok (.iaload, 1) := by decide +kernel
theorem dX8_isWithEcho_9 : decode cX8_isWithEcho 9 = .ok (.aload_n 0, 1) := by decide +kernel
theorem dX8_isWithEcho_10 : decode cX8_isWithEcho 10 = .ok (.getfield 21, 3) := by decide +kernel
theorem dX8_isWithEcho_13 : decode cX8_isWithEcho 13 = .ok (.getfield 67, 3) := by decide +kernel
theorem dX8_isWithEcho_16 : decode cX8_isWithEcho 16 = .ok (.iload_n 2, 1) := by decide +kernel
theorem dX8_isWithEcho_17 : decode cX8_isWithEcho 17 = .ok (.iaload, 1) := by decide +kernel
theorem dX8_isWithEcho_18 : decode cX8_isWithEcho 18 = .ok (.if_icmp .ne 7, 3) := by decide +kernel
theorem dX8_isWithEcho_21 : decode cX8_isWithEcho 21 = .ok (.iconst 1, 1) := by decide +kernel
theorem dX8_isWithEcho_22 : decode cX8_isWithEcho 22 = .ok (.goto 4, 3) := by decide +kernel
theorem dX8_isWithEcho_25 : decode cX8_isWithEcho 25 = .ok (.iconst 0, 1) := by decide +kernel
theorem dX8_isWithEcho_26 : decode cX8_isWithEcho 26 = .ok (.ireturn, 1) := by decide +kernel
theorem vm_X8_isWithEcho : aVm yX8_isWithEcho RX8 cX8_isWithEcho 3 (some .boolean) 2 := ⟨tw_746, tw_744, tw_745, tw_2, rfl, by decide +kernel, by decide +kernel, by decide +kernel⟩
theorem dX8_canPayFor_0 : decode cX8_canPayFor 0 = .ok (.aload_n 0, 1) := by decide +kernel
theorem dX8_canPayFor_1 : decode cX8_canPayFor 1 = .ok (.getfield 28, 3) := by decide +kernel
theorem dX8_canPayFor_4 : decode cX8_canPayFor 4 = .ok (.getfield 68, 3) := by decide +kernel
theorem dX8_canPayFor_7 : decode cX8_canPayFor 7 = .ok (.iload_n 1, 1) := by decide +kernel
theorem dX8_canPayFor_8 : decode cX8_canPayFor 8 = .ok (.iaload, 1) := by decide +kernel
theorem dX8_canPayFor_9 : decode cX8_canPayFor 9 = .ok (.aload_n 0, 1) := by decide +kernel
theorem dX8_canPayFor_10 : decode cX8_canPayFor 10 = .ok (.getfield 21, 3) := by decide +kernel
theorem dX8_canPayFor_13 : decode cX8_canPayFor 13 = .ok (.getfield 71, 3) := by decide +kernel
theorem dX8_canPayFor_16 : decode cX8_canPayFor 16 = .ok (.iload_n 2, 1) := by decide +kernel
theorem dX8_canPayFor_17 : decode cX8_canPayFor 17 = .ok (.iaload, 1) := by decide +kernel
theorem dX8_canPayFor_18 : decode cX8_canPayFor 18 = .ok (.if_icmp .lt 7, 3) := by decide +kernel
theorem dX8_canPayFor_21 : decode cX8_canPayFor 21 = .ok (.iconst 1, 1) := by decide +kernel
theorem dX8_canPayFor_22 : decode cX8_canPayFor 22 = .ok (.goto 4, 3) := by decide +kernel
theorem dX8_canPayFor_25 : decode cX8_canPayFor 25 = .ok (.iconst 0, 1) := by decide +kernel
theorem dX8_canPayFor_26 : decode cX8_canPayFor 26 = .ok (.ireturn, 1) := by decide +kernel
theorem vm_X8_canPayFor : aVm yX8_canPayFor RX8 cX8_canPayFor 3 (some .boolean) 2 := ⟨tw_750, tw_748, tw_749, tw_2, rfl, by decide +kernel, by decide +kernel, by decide +kernel⟩
theorem dX8_singersIn_0 : decode cX8_singersIn 0 = .ok (.iconst 0, 1) := by decide +kernel
theorem dX8_singersIn_1 : decode cX8_singersIn 1 = .ok (.istore_n 2, 1) := by decide +kernel
theorem dX8_singersIn_2 : decode cX8_singersIn 2 = .ok (.iconst 0, 1) := by decide +kernel
theorem dX8_singersIn_3 : decode cX8_singersIn 3 = .ok (.istore_n 3, 1) := by decide +kernel
theorem dX8_singersIn_4 : decode cX8_singersIn 4 = .ok (.iload_n 3, 1) := by decide +kernel
theorem dX8_singersIn_5 : decode cX8_singersIn 5 = .ok (.aload_n 0, 1) := by decide +kernel
theorem dX8_singersIn_6 : decode cX8_singersIn 6 = .ok (.getfield 28, 3) := by decide +kernel
theorem dX8_singersIn_9 : decode cX8_singersIn 9 = .ok (.getfield 59, 3) := by decide +kernel
theorem dX8_singersIn_12 : decode cX8_singersIn 12 = .ok (.if_icmp .ge 28, 3) := by decide +kernel
theorem dX8_singersIn_15 : decode cX8_singersIn 15 = .ok (.aload_n 0, 1) := by decide +kernel
theorem dX8_singersIn_16 : decode cX8_singersIn 16 = .ok (.getfield 28, 3) := by decide +kernel
theorem dX8_singersIn_19 : decode cX8_singersIn 19 = .ok (.getfield 60, 3) := by decide +kernel
theorem dX8_singersIn_22 : decode cX8_singersIn 22 = .ok (.iload_n 3, 1) := by decide +kernel
theorem dX8_singersIn_23 : decode cX8_singersIn 23 = .ok (.iaload, 1) := by decide +kernel
theorem dX8_singersIn_24 : decode cX8_singersIn 24 = .ok (.iload_n 1, 1) := by decide +kernel
theorem dX8_singersIn_25 : decode cX8_singersIn 25 = .ok (.if_icmp .ne 9, 3) := by decide +kernel
theorem dX8_singersIn_28 : decode cX8_singersIn 28 = .ok (.iload_n 2, 1) := by decide +kernel
theorem dX8_singersIn_29 : decode cX8_singersIn 29 = .ok (.iconst 1, 1) := by decide +kernel
theorem dX8_singersIn_30 : decode cX8_singersIn 30 = .ok (.iload_n 3, 1) := by decide +kernel
theorem dX8_singersIn_31 : decode cX8_singersIn 31 = .ok (.ishl, 1) := by decide +kernel
theorem dX8_singersIn_32 : decode cX8_singersIn 32 = .ok (.ior, 1) := by decide +kernel
theorem dX8_singersIn_33 : decode cX8_singersIn 33 = .ok (.istore_n 2, 1) := by decide +kernel
theorem dX8_singersIn_34 : decode cX8_singersIn 34 = .ok (.iinc 3 1, 3) := by decide +kernel
theorem dX8_singersIn_37 : decode cX8_singersIn 37 = .ok (.goto (-33), 3) := by decide +kernel
theorem dX8_singersIn_40 : decode cX8_singersIn 40 = .ok (.iload_n 2, 1) := by decide +kernel
theorem dX8_singersIn_41 : decode cX8_singersIn 41 = .ok (.ireturn, 1) := by decide +kernel
theorem vm_X8_singersIn : aVm yX8_singersIn RX8 cX8_singersIn 4 (some .int) 1 := ⟨tw_490, tw_488, tw_489, tw_2, rfl, by decide +kernel, by decide +kernel, by decide +kernel⟩
theorem dX8_echoesIn_0 : decode cX8_echoesIn 0 = .ok (.iconst 0, 1) := by decide +kernel
theorem dX8_echoesIn_1 : decode cX8_echoesIn 1 = .ok (.istore_n 2, 1) := by decide +kernel
theorem dX8_echoesIn_2 : decode cX8_echoesIn 2 = .ok (.iconst 0, 1) := by decide +kernel
theorem dX8_echoesIn_3 : decode cX8_echoesIn 3 = .ok (.istore_n 3, 1) := by decide +kernel
theorem dX8_echoesIn_4 : decode cX8_echoesIn 4 = .ok (.iload_n 3, 1) := by decide +kernel
theorem dX8_echoesIn_5 : decode cX8_echoesIn 5 = .ok (.aload_n 0, 1) := by decide +kernel
theorem dX8_echoesIn_6 : decode cX8_echoesIn 6 = .ok (.getfield 21, 3) := by decide +kernel
theorem dX8_echoesIn_9 : decode cX8_echoesIn 9 = .ok (.getfield 58, 3) := by decide +kernel
theorem dX8_echoesIn_12 : decode cX8_echoesIn 12 = .ok (.if_icmp .ge 28, 3) := by decide +kernel
theorem dX8_echoesIn_15 : decode cX8_echoesIn 15 = .ok (.aload_n 0, 1) := by decide +kernel
theorem dX8_echoesIn_16 : decode cX8_echoesIn 16 = .ok (.getfield 21, 3) := by decide +kernel
theorem dX8_echoesIn_19 : decode cX8_echoesIn 19 = .ok (.getfield 67, 3) := by decide +kernel
theorem dX8_echoesIn_22 : decode cX8_echoesIn 22 = .ok (.iload_n 3, 1) := by decide +kernel
theorem dX8_echoesIn_23 : decode cX8_echoesIn 23 = .ok (.iaload, 1) := by decide +kernel
theorem dX8_echoesIn_24 : decode cX8_echoesIn 24 = .ok (.iload_n 1, 1) := by decide +kernel
theorem dX8_echoesIn_25 : decode cX8_echoesIn 25 = .ok (.if_icmp .ne 9, 3) := by decide +kernel
theorem dX8_echoesIn_28 : decode cX8_echoesIn 28 = .ok (.iload_n 2, 1) := by decide +kernel
theorem dX8_echoesIn_29 : decode cX8_echoesIn 29 = .ok (.iconst 1, 1) := by decide +kernel
theorem dX8_echoesIn_30 : decode cX8_echoesIn 30 = .ok (.iload_n 3, 1) := by decide +kernel
theorem dX8_echoesIn_31 : decode cX8_echoesIn 31 = .ok (.ishl, 1) := by decide +kernel
theorem dX8_echoesIn_32 : decode cX8_echoesIn 32 = .ok (.ior, 1) := by decide +kernel
theorem dX8_echoesIn_33 : decode cX8_echoesIn 33 = .ok (.istore_n 2, 1) := by decide +kernel
theorem dX8_echoesIn_34 : decode cX8_echoesIn 34 = .ok (.iinc 3 1, 3) := by decide +kernel
theorem dX8_echoesIn_37 : decode cX8_echoesIn 37 = .ok (.goto (-33), 3) := by decide +kernel
theorem dX8_echoesIn_40 : decode cX8_echoesIn 40 = .ok (.iload_n 2, 1) := by decide +kernel
theorem dX8_echoesIn_41 : decode cX8_echoesIn 41 = .ok (.ireturn, 1) := by decide +kernel
theorem vm_X8_echoesIn : aVm yX8_echoesIn RX8 cX8_echoesIn 4 (some .int) 1 := ⟨tw_500, tw_498, tw_499, tw_2, rfl, by decide +kernel, by decide +kernel, by decide +kernel⟩
theorem dX8_isFull_0 : decode cX8_isFull 0 = .ok (.aload_n 0, 1) := by decide +kernel
theorem dX8_isFull_1 : decode cX8_isFull 1 = .ok (.iload_n 1, 1) := by decide +kernel
theorem dX8_isFull_2 : decode cX8_isFull 2 = .ok (.invokevirtual 74, 3) := by decide +kernel
theorem dX8_isFull_5 : decode cX8_isFull 5 = .ok (.invokestatic 78, 3) := by decide +kernel
theorem dX8_isFull_8 : decode cX8_isFull 8 = .ok (.aload_n 0, 1) := by decide +kernel
theorem dX8_isFull_9 : decode cX8_isFull 9 = .ok (.getfield 12, 3) := by decide +kernel
theorem dX8_isFull_12 : decode cX8_isFull 12 = .ok (.getfield 83, 3) := by decide +kernel
theorem dX8_isFull_15 : decode cX8_isFull 15 = .ok (.iload_n 1, 1) := by decide +kernel
theorem dX8_isFull_16 : decode cX8_isFull 16 = .ok (.iaload, 1) := by decide +kernel
theorem dX8_isFull_17 : decode cX8_isFull 17 = .ok (.if_icmp .lt 7, 3) := by decide +kernel
theorem dX8_isFull_20 : decode cX8_isFull 20 = .ok (.iconst 1, 1) := by decide +kernel
theorem dX8_isFull_21 : decode cX8_isFull 21 = .ok (.goto 4, 3) := by decide +kernel
theorem dX8_isFull_24 : decode cX8_isFull 24 = .ok (.iconst 0, 1) := by decide +kernel
theorem dX8_isFull_25 : decode cX8_isFull 25 = .ok (.ireturn, 1) := by decide +kernel
theorem vm_X8_isFull : aVm yX8_isFull RX8 cX8_isFull 2 (some .boolean) 1 := ⟨tw_724, tw_722, tw_723, tw_2, rfl, by decide +kernel, by decide +kernel, by decide +kernel⟩
theorem dX8_isTooShyFor_0 : decode cX8_isTooShyFor 0 = .ok (.aload_n 0, 1) := by decide +kernel
theorem dX8_isTooShyFor_1 : decode cX8_isTooShyFor 1 = .ok (.iload_n 2, 1) := by decide +kernel
theorem dX8_isTooShyFor_2 : decode cX8_isTooShyFor 2 = .ok (.invokevirtual 74, 3) := by decide +kernel
theorem dX8_isTooShyFor_5 : decode cX8_isTooShyFor 5 = .ok (.invokestatic 78, 3) := by decide +kernel
theorem dX8_isTooShyFor_8 : decode cX8_isTooShyFor 8 = .ok (.bipush 9, 2) := by decide +kernel
theorem dX8_isTooShyFor_10 : decode cX8_isTooShyFor 10 = .ok (.aload_n 0, 1) := by decide +kernel
theorem dX8_isTooShyFor_11 : decode cX8_isTooShyFor 11 = .ok (.getfield 28, 3) := by decide +kernel
theorem dX8_isTooShyFor_14 : decode cX8_isTooShyFor 14 = .ok (.getfield 86, 3) := by decide +kernel
theorem dX8_isTooShyFor_17 : decode cX8_isTooShyFor 17 = .ok (.iload_n 1, 1) := by decide +kernel
theorem dX8_isTooShyFor_18 : decode cX8_isTooShyFor 18 = .ok (.iaload, 1) := by decide +kernel
theorem dX8_isTooShyFor_19 : decode cX8_isTooShyFor 19 = .ok (.isub, 1) := by decide +kernel
theorem dX8_isTooShyFor_20 : decode cX8_isTooShyFor 20 = .ok (.iconst 3, 1) := by decide +kernel
theorem dX8_isTooShyFor_21 : decode cX8_isTooShyFor 21 = .ok (.idiv, 1) := by decide +kernel
theorem dX8_isTooShyFor_22 : decode cX8_isTooShyFor 22 = .ok (.if_icmp .le 7, 3) := by decide +kernel
theorem dX8_isTooShyFor_25 : decode cX8_isTooShyFor 25 = .ok (.iconst 1, 1) := by decide +kernel
theorem dX8_isTooShyFor_26 : decode cX8_isTooShyFor 26 = .ok (.goto 4, 3) := by decide +kernel
theorem dX8_isTooShyFor_29 : decode cX8_isTooShyFor 29 = .ok (.iconst 0, 1) := by decide +kernel
theorem dX8_isTooShyFor_30 : decode cX8_isTooShyFor 30 = .ok (.ireturn, 1) := by decide +kernel
theorem vm_X8_isTooShyFor : aVm yX8_isTooShyFor RX8 cX8_isTooShyFor 3 (some .boolean) 2 := ⟨tw_730, tw_728, tw_729, tw_2, rfl, by decide +kernel, by decide +kernel, by decide +kernel⟩
theorem dX8_freeIn_0 : decode cX8_freeIn 0 = .ok (.iconst 0, 1) := by decide +kernel
theorem dX8_freeIn_1 : decode cX8_freeIn 1 = .ok (.istore_n 2, 1) := by decide +kernel
theorem dX8_freeIn_2 : decode cX8_freeIn 2 = .ok (.iconst 0, 1) := by decide +kernel
theorem dX8_freeIn_3 : decode cX8_freeIn 3 = .ok (.istore_n 3, 1) := by decide +kernel
theorem dX8_freeIn_4 : decode cX8_freeIn 4 = .ok (.iload_n 3, 1) := by decide +kernel
theorem dX8_freeIn_5 : decode cX8_freeIn 5 = .ok (.aload_n 0, 1) := by decide +kernel
theorem dX8_freeIn_6 : decode cX8_freeIn 6 = .ok (.getfield 21, 3) := by decide +kernel
theorem dX8_freeIn_9 : decode cX8_freeIn 9 = .ok (.getfield 58, 3) := by decide +kernel
theorem dX8_freeIn_12 : decode cX8_freeIn 12 = .ok (.if_icmp .ge 36, 3) := by decide +kernel
theorem dX8_freeIn_15 : decode cX8_freeIn 15 = .ok (.aload_n 0, 1) := by decide +kernel
theorem dX8_freeIn_16 : decode cX8_freeIn 16 = .ok (.getfield 21, 3) := by decide +kernel
theorem dX8_freeIn_19 : decode cX8_freeIn 19 = .ok (.getfield 67, 3) := by decide +kernel
theorem dX8_freeIn_22 : decode cX8_freeIn 22 = .ok (.iload_n 3, 1) := by decide +kernel
theorem dX8_freeIn_23 : decode cX8_freeIn 23 = .ok (.iaload, 1) := by decide +kernel
theorem dX8_freeIn_24 : decode cX8_freeIn 24 = .ok (.iload_n 1, 1) := by decide +kernel
theorem dX8_freeIn_25 : decode cX8_freeIn 25 = .ok (.if_icmp .ne 17, 3) := by decide +kernel
theorem dX8_freeIn_28 : decode cX8_freeIn 28 = .ok (.aload_n 0, 1) := by decide +kernel
theorem dX8_freeIn_29 : decode cX8_freeIn 29 = .ok (.iload_n 3, 1) := by decide +kernel
theorem dX8_freeIn_30 : decode cX8_freeIn 30 = .ok (.invokevirtual 89, 3) := by decide +kernel
theorem dX8_freeIn_33 : decode cX8_freeIn 33 = .ok (.ifCond .ne 9, 3) := by decide +kernel
theorem dX8_freeIn_36 : decode cX8_freeIn 36 = .ok (.iload_n 2, 1) := by decide +kernel
theorem dX8_freeIn_37 : decode cX8_freeIn 37 = .ok (.iconst 1, 1) := by decide +kernel
theorem dX8_freeIn_38 : decode cX8_freeIn 38 = .ok (.iload_n 3, 1) := by decide +kernel
theorem dX8_freeIn_39 : decode cX8_freeIn 39 = .ok (.ishl, 1) := by decide +kernel
theorem dX8_freeIn_40 : decode cX8_freeIn 40 = .ok (.ior, 1) := by decide +kernel
theorem dX8_freeIn_41 : decode cX8_freeIn 41 = .ok (.istore_n 2, 1) := by decide +kernel
theorem dX8_freeIn_42 : decode cX8_freeIn 42 = .ok (.iinc 3 1, 3) := by decide +kernel
theorem dX8_freeIn_45 : decode cX8_freeIn 45 = .ok (.goto (-41), 3) := by decide +kernel
theorem dX8_freeIn_48 : decode cX8_freeIn 48 = .ok (.iload_n 2, 1) := by decide +kernel
theorem dX8_freeIn_49 : decode cX8_freeIn 49 = .ok (.ireturn, 1) := by decide +kernel
theorem vm_X8_freeIn : aVm yX8_freeIn RX8 cX8_freeIn 4 (some .int) 1 := ⟨tw_504, tw_502, tw_503, tw_2, rfl, by decide +kernel, by decide +kernel, by decide +kernel⟩
theorem dX8_aboveDamp_0 : decode cX8_aboveDamp 0 = .ok (.iconst 0, 1) := by decide +kernel
theorem dX8_aboveDamp_1 : decode cX8_aboveDamp 1 = .ok (.aload_n 0, 1) := by decide +kernel
theorem dX8_aboveDamp_2 : decode cX8_aboveDamp 2 = .ok (.getfield 21, 3) := by decide +kernel
theorem dX8_aboveDamp_5 : decode cX8_aboveDamp 5 = .ok (.getfield 71, 3) := by decide +kernel
theorem dX8_aboveDamp_8 : decode cX8_aboveDamp 8 = .ok (.iload_n 1, 1) := by decide +kernel
theorem dX8_aboveDamp_9 : decode cX8_aboveDamp 9 = .ok (.iaload, 1) := by decide +kernel
theorem dX8_aboveDamp_10 : decode cX8_aboveDamp 10 = .ok (.aload_n 0, 1) := by decide +kernel
theorem dX8_aboveDamp_11 : decode cX8_aboveDamp 11 = .ok (.getfield 12, 3) := by decide +kernel
theorem dX8_aboveDamp_14 : decode cX8_aboveDamp 14 = .ok (.getfield 93, 3) := by decide +kernel
theorem dX8_aboveDamp_17 : decode cX8_aboveDamp 17 = .ok (.aload_n 0, 1) := by decide +kernel
theorem dX8_aboveDamp_18 : decode cX8_aboveDamp 18 = .ok (.getfield 21, 3) := by decide +kernel
theorem dX8_aboveDamp_21 : decode cX8_aboveDamp 21 = .ok (.getfield 67, 3) := by decide +kernel
theorem dX8_aboveDamp_24 : decode cX8_aboveDamp 24 = .ok (.iload_n 1, 1) := by decide +kernel
theorem dX8_aboveDamp_25 : decode cX8_aboveDamp 25 = .ok (.iaload, 1) := by decide +kernel
theorem dX8_aboveDamp_26 : decode cX8_aboveDamp 26 = .ok (.iaload, 1) := by decide +kernel
theorem dX8_aboveDamp_27 : decode cX8_aboveDamp 27 = .ok (.isub, 1) := by decide +kernel
theorem dX8_aboveDamp_28 : decode cX8_aboveDamp 28 = .ok (.invokestatic 96, 3) := by decide +kernel
theorem dX8_aboveDamp_31 : decode cX8_aboveDamp 31 = .ok (.ireturn, 1) := by decide +kernel
theorem vm_X8_aboveDamp : aVm yX8_aboveDamp RX8 cX8_aboveDamp 2 (some .int) 1 := ⟨tw_579, tw_577, tw_578, tw_2, rfl, by decide +kernel, by decide +kernel, by decide +kernel⟩
theorem dX8_isHeard_0 : decode cX8_isHeard 0 = .ok (.aload_n 0, 1) := by decide +kernel
theorem dX8_isHeard_1 : decode cX8_isHeard 1 = .ok (.getfield 21, 3) := by decide +kernel
theorem dX8_isHeard_4 : decode cX8_isHeard 4 = .ok (.getfield 67, 3) := by decide +kernel
theorem dX8_isHeard_7 : decode cX8_isHeard 7 = .ok (.iload_n 1, 1) := by decide +kernel
theorem dX8_isHeard_8 : decode cX8_isHeard 8 = .ok (.iaload, 1) := by decide +kernel
theorem dX8_isHeard_9 : decode cX8_isHeard 9 = .ok (.iload_n 3, 1) := by decide +kernel
theorem dX8_isHeard_10 : decode cX8_isHeard 10 = .ok (.if_icmp .ne 20, 3) := by decide +kernel
theorem dX8_isHeard_13 : decode cX8_isHeard 13 = .ok (.aload_n 0, 1) := by decide +kernel
theorem dX8_isHeard_14 : decode cX8_isHeard 14 = .ok (.getfield 21, 3) := by decide +kernel
theorem dX8_isHeard_17 : decode cX8_isHeard 17 = .ok (.getfield 64, 3) := by decide +kernel
theorem dX8_isHeard_20 : decode cX8_isHeard 20 = .ok (.iload_n 1, 1) := by decide +kernel
theorem dX8_isHeard_21 : decode cX8_isHeard 21 = .ok (.iaload, 1) := by decide +kernel
theorem dX8_isHeard_22 : decode cX8_isHeard 22 = .ok (.iload_n 2, 1) := by decide +kernel
theorem dX8_isHeard_23 : decode cX8_isHeard 23 = .ok (.if_icmp .ne 7, 3) := by decide +kernel
theorem dX8_isHeard_26 : decode cX8_isHeard 26 = .ok (.iconst 1, 1) := by decide +kernel
theorem dX8_isHeard_27 : decode cX8_isHeard 27 = .ok (.goto 4, 3) := by decide +kernel
theorem dX8_isHeard_30 : decode cX8_isHeard 30 = .ok (.iconst 0, 1) := by decide +kernel
theorem dX8_isHeard_31 : decode cX8_isHeard 31 = .ok (.ireturn, 1) := by decide +kernel
theorem vm_X8_isHeard : aVm yX8_isHeard RX8 cX8_isHeard 4 (some .boolean) 3 := ⟨tw_575, tw_573, tw_574, tw_2, rfl, by decide +kernel, by decide +kernel, by decide +kernel⟩
theorem dX8_tonesInRoom_0 : decode cX8_tonesInRoom 0 = .ok (.iconst 0, 1) := by decide +kernel
theorem dX8_tonesInRoom_1 : decode cX8_tonesInRoom 1 = .ok (.istore_n 3, 1) := by decide +kernel
theorem dX8_tonesInRoom_2 : decode cX8_tonesInRoom 2 = .ok (.iconst 0, 1) := by decide +kernel
theorem dX8_tonesInRoom_3 : decode cX8_tonesInRoom 3 = .ok (.istore 4, 2) := by decide +kernel
theorem dX8_tonesInRoom_5 : decode cX8_tonesInRoom 5 = .ok (.iload 4, 2) := by decide +kernel
theorem dX8_tonesInRoom_7 : decode cX8_tonesInRoom 7 = .ok (.aload_n 0, 1) := by decide +kernel
theorem dX8_tonesInRoom_8 : decode cX8_tonesInRoom 8 = .ok (.getfield 21, 3) := by decide +kernel
theorem dX8_tonesInRoom_11 : decode cX8_tonesInRoom 11 = .ok (.getfield 58, 3) := by decide +kernel
theorem dX8_tonesInRoom_14 : decode cX8_tonesInRoom 14 = .ok (.if_icmp .ge 29, 3) := by decide +kernel
theorem dX8_tonesInRoom_17 : decode cX8_tonesInRoom 17 = .ok (.aload_n 0, 1) := by decide +kernel
theorem dX8_tonesInRoom_18 : decode cX8_tonesInRoom 18 = .ok (.iload 4, 2) := by decide +kernel
theorem dX8_tonesInRoom_20 : decode cX8_tonesInRoom 20 = .ok (.iload_n 1, 1) := by decide +kernel
theorem dX8_tonesInRoom_21 : decode cX8_tonesInRoom 21 = .ok (.iload_n 2, 1) := by decide +kernel
theorem dX8_tonesInRoom_22 : decode cX8_tonesInRoom 22 = .ok (.invokevirtual 102, 3) := by decide +kernel
theorem dX8_tonesInRoom_25 : decode cX8_tonesInRoom 25 = .ok (.ifCond .eq 12, 3) := by decide +kernel
theorem dX8_tonesInRoom_28 : decode cX8_tonesInRoom 28 = .ok (.iload_n 3, 1) := by decide +kernel
theorem dX8_tonesInRoom_29 : decode cX8_tonesInRoom 29 = .ok (.aload_n 0, 1) := by decide +kernel
theorem dX8_tonesInRoom_30 : decode cX8_tonesInRoom 30 = .ok (.iload 4, 2) := by decide +kernel
theorem dX8_tonesInRoom_32 : decode cX8_tonesInRoom 32 = .ok (.invokevirtual 106, 3) := by decide +kernel
theorem dX8_tonesInRoom_35 : decode cX8_tonesInRoom 35 = .ok (.iadd, 1) := by decide +kernel
theorem dX8_tonesInRoom_36 : decode cX8_tonesInRoom 36 = .ok (.istore_n 3, 1) := by decide +kernel
theorem dX8_tonesInRoom_37 : decode cX8_tonesInRoom 37 = .ok (.iinc 4 1, 3) := by decide +kernel
theorem dX8_tonesInRoom_40 : decode cX8_tonesInRoom 40 = .ok (.goto (-35), 3) := by decide +kernel
theorem dX8_tonesInRoom_43 : decode cX8_tonesInRoom 43 = .ok (.iload_n 3, 1) := by decide +kernel
theorem dX8_tonesInRoom_44 : decode cX8_tonesInRoom 44 = .ok (.ireturn, 1) := by decide +kernel
theorem vm_X8_tonesInRoom : aVm yX8_tonesInRoom RX8 cX8_tonesInRoom 5 (some .int) 2 := ⟨tw_571, tw_569, tw_570, tw_2, rfl, by decide +kernel, by decide +kernel, by decide +kernel⟩
theorem dX8_countHeardOf_0 : decode cX8_countHeardOf 0 = .ok (.iconst 0, 1) := by decide +kernel
theorem dX8_countHeardOf_1 : decode cX8_countHeardOf 1 = .ok (.istore 4, 2) := by decide +kernel
theorem dX8_countHeardOf_3 : decode cX8_countHeardOf 3 = .ok (.iconst 0, 1) := by decide +kernel
theorem dX8_countHeardOf_4 : decode cX8_countHeardOf 4 = .ok (.istore 5, 2) := by decide +kernel
theorem dX8_countHeardOf_6 : decode cX8_countHeardOf 6 = .ok (.iload 5, 2) := by decide +kernel
theorem dX8_countHeardOf_8 : decode cX8_countHeardOf 8 = .ok (.aload_n 0, 1) := by decide +kernel
theorem dX8_countHeardOf_9 : decode cX8_countHeardOf 9 = .ok (.getfield 21, 3) := by decide +kernel
theorem dX8_countHeardOf_12 : decode cX8_countHeardOf 12 = .ok (.getfield 58, 3) := by decide +kernel
theorem dX8_countHeardOf_15 : decode cX8_countHeardOf 15 = .ok (.if_icmp .ge 37, 3) := by decide +kernel
theorem dX8_countHeardOf_18 : decode cX8_countHeardOf 18 = .ok (.aload_n 0, 1) := by decide +kernel
theorem dX8_countHeardOf_19 : decode cX8_countHeardOf 19 = .ok (.iload 5, 2) := by decide +kernel
theorem dX8_countHeardOf_21 : decode cX8_countHeardOf 21 = .ok (.iload_n 2, 1) := by decide +kernel
theorem dX8_countHeardOf_22 : decode cX8_countHeardOf 22 = .ok (.iload_n 3, 1) := by decide +kernel
theorem dX8_countHeardOf_23 : decode cX8_countHeardOf 23 = .ok (.invokevirtual 102, 3) := by decide +kernel
theorem dX8_countHeardOf_26 : decode cX8_countHeardOf 26 = .ok (.ifCond .eq 20, 3) := by decide +kernel
theorem dX8_countHeardOf_29 : decode cX8_countHeardOf 29 = .ok (.aload_n 0, 1) := by decide +kernel
theorem dX8_countHeardOf_30 : decode cX8_countHeardOf 30 = .ok (.getfield 21, 3) := by decide +kernel
theorem dX8_countHeardOf_33 : decode cX8_countHeardOf 33 = .ok (.getfield 71, 3) := by decide +kernel
theorem dX8_countHeardOf_36 : decode cX8_countHeardOf 36 = .ok (.iload 5, 2) := by decide +kernel
theorem dX8_countHeardOf_38 : decode cX8_countHeardOf 38 = .ok (.iaload, 1) := by decide +kernel
theorem dX8_countHeardOf_39 : decode cX8_countHeardOf 39 = .ok (.iload_n 1, 1) := by decide +kernel
theorem dX8_countHeardOf_40 : decode cX8_countHeardOf 40 = .ok (.if_icmp .ne 6, 3) := by decide +kernel
theorem dX8_countHeardOf_43 : decode cX8_countHeardOf 43 = .ok (.iinc 4 1, 3) := by decide +kernel
theorem dX8_countHeardOf_46 : decode cX8_countHeardOf 46 = .ok (.iinc 5 1, 3) := by decide +kernel
theorem dX8_countHeardOf_49 : decode cX8_countHeardOf 49 = .ok (.goto (-43), 3) := by decide +kernel
theorem dX8_countHeardOf_52 : decode cX8_countHeardOf 52 = .ok (.iload 4, 2) := by decide +kernel
theorem dX8_countHeardOf_54 : decode cX8_countHeardOf 54 = .ok (.ireturn, 1) := by decide +kernel
theorem vm_X8_countHeardOf : aVm yX8_countHeardOf RX8 cX8_countHeardOf 6 (some .int) 3 := ⟨tw_1033, tw_1031, tw_1032, tw_2, rfl, by decide +kernel, by decide +kernel, by decide +kernel⟩
theorem dX8_tonesByStrength_0 : decode cX8_tonesByStrength 0 = .ok (.aload_n 0, 1) := by decide +kernel
theorem dX8_tonesByStrength_1 : decode cX8_tonesByStrength 1 = .ok (.getfield 28, 3) := by decide +kernel
theorem dX8_tonesByStrength_4 : decode cX8_tonesByStrength 4 = .ok (.getfield 60, 3) := by decide +kernel
theorem dX8_tonesByStrength_7 : decode cX8_tonesByStrength 7 = .ok (.iload_n 1, 1) := by decide +kernel
theorem dX8_tonesByStrength_8 : decode cX8_tonesByStrength 8 = .ok (.iaload, 1) := by decide +kernel
theorem dX8_tonesByStrength_9 : decode cX8_tonesByStrength 9 = .ok (.istore_n 2, 1) := by decide +kernel
theorem dX8_tonesByStrength_10 : decode cX8_tonesByStrength 10 = .ok (.iconst 0, 1) := by decide +kernel
theorem dX8_tonesByStrength_11 : decode cX8_tonesByStrength 11 = .ok (.istore_n 3, 1) := by decide +kernel
theorem dX8_tonesByStrength_12 : decode cX8_tonesByStrength 12 = .ok (.aload_n 0, 1) := by decide +kernel
theorem dX8_tonesByStrength_13 : decode cX8_tonesByStrength 13 = .ok (.getfield 12, 3) := by decide +kernel
theorem dX8_tonesByStrength_16 : decode cX8_tonesByStrength 16 = .ok (.getfield 93, 3) := by decide +kernel
theorem dX8_tonesByStrength_19 : decode cX8_tonesByStrength 19 = .ok (.iload_n 2, 1) := by decide +kernel
theorem dX8_tonesByStrength_20 : decode cX8_tonesByStrength 20 = .ok (.iaload, 1) := by decide +kernel
theorem dX8_tonesByStrength_21 : decode cX8_tonesByStrength 21 = .ok (.iconst 1, 1) := by decide +kernel
theorem dX8_tonesByStrength_22 : decode cX8_tonesByStrength 22 = .ok (.iadd, 1) := by decide +kernel
theorem dX8_tonesByStrength_23 : decode cX8_tonesByStrength 23 = .ok (.istore 4, 2) := by decide +kernel
theorem dX8_tonesByStrength_25 : decode cX8_tonesByStrength 25 = .ok (.iload 4, 2) := by decide +kernel
theorem dX8_tonesByStrength_27 : decode cX8_tonesByStrength 27 = .ok (.bipush 9, 2) := by decide +kernel
theorem dX8_tonesByStrength_29 : decode cX8_tonesByStrength 29 = .ok (.if_icmp .gt 33, 3) := by decide +kernel
theorem dX8_tonesByStrength_32 : decode cX8_tonesByStrength 32 = .ok (.iload_n 3, 1) := by decide +kernel
theorem dX8_tonesByStrength_33 : decode cX8_tonesByStrength 33 = .ok (.aload_n 0, 1) := by decide +kernel
theorem dX8_tonesByStrength_34 : decode cX8_tonesByStrength 34 = .ok (.iload 4, 2) := by decide +kernel
theorem dX8_tonesByStrength_36 : decode cX8_tonesByStrength 36 = .ok (.iload_n 1, 1) := by decide +kernel
theorem dX8_tonesByStrength_37 : decode cX8_tonesByStrength 37 = .ok (.iload_n 2, 1) := by decide +kernel
theorem dX8_tonesByStrength_38 : decode cX8_tonesByStrength 38 = .ok (.invokevirtual 109, 3) := by decide +kernel
theorem dX8_tonesByStrength_41 : decode cX8_tonesByStrength 41 = .ok (.iload 4, 2) := by decide +kernel
theorem dX8_tonesByStrength_43 : decode cX8_tonesByStrength 43 = .ok (.aload_n 0, 1) := by decide +kernel
theorem dX8_tonesByStrength_44 : decode cX8_tonesByStrength 44 = .ok (.getfield 12, 3) := by decide +kernel
theorem dX8_tonesByStrength_47 : decode cX8_tonesByStrength 47 = .ok (.getfield 93, 3) := by decide +kernel
theorem dX8_tonesByStrength_50 : decode cX8_tonesByStrength 50 = .ok (.iload_n 2, 1) := by decide +kernel
theorem dX8_tonesByStrength_51 : decode cX8_tonesByStrength 51 = .ok (.iaload, 1) := by decide +kernel
theorem dX8_tonesByStrength_52 : decode cX8_tonesByStrength 52 = .ok (.isub, 1) := by decide +kernel
theorem dX8_tonesByStrength_53 : decode cX8_tonesByStrength 53 = .ok (.imul, 1) := by decide +kernel
theorem dX8_tonesByStrength_54 : decode cX8_tonesByStrength 54 = .ok (.iadd, 1) := by decide +kernel
theorem dX8_tonesByStrength_55 : decode cX8_tonesByStrength 55 = .ok (.istore_n 3, 1) := by decide +kernel
theorem dX8_tonesByStrength_56 : decode cX8_tonesByStrength 56 = .ok (.iinc 4 1, 3) := by decide +kernel
theorem dX8_tonesByStrength_59 : decode cX8_tonesByStrength 59 = .ok (.goto (-34), 3) := by decide +kernel
theorem dX8_tonesByStrength_62 : decode cX8_tonesByStrength 62 = .ok (.iload_n 3, 1) := by decide +kernel
theorem dX8_tonesByStrength_63 : decode cX8_tonesByStrength 63 = .ok (.ireturn, 1) := by decide +kernel
theorem vm_X8_tonesByStrength : aVm yX8_tonesByStrength RX8 cX8_tonesByStrength 5 (some .int) 1 := ⟨tw_1029, tw_1027, tw_1028, tw_2, rfl, by decide +kernel, by decide +kernel, by decide +kernel⟩
theorem dX8_tonesAfter_0 : decode cX8_tonesAfter 0 = .ok (.aload_n 0, 1) := by decide +kernel
theorem dX8_tonesAfter_1 : decode cX8_tonesAfter 1 = .ok (.getfield 28, 3) := by decide +kernel
theorem dX8_tonesAfter_4 : decode cX8_tonesAfter 4 = .ok (.getfield 60, 3) := by decide +kernel
theorem dX8_tonesAfter_7 : decode cX8_tonesAfter 7 = .ok (.iload_n 1, 1) := by decide +kernel
theorem dX8_tonesAfter_8 : decode cX8_tonesAfter 8 = .ok (.iaload, 1) := by decide +kernel
theorem dX8_tonesAfter_9 : decode cX8_tonesAfter 9 = .ok (.istore_n 3, 1) := by decide +kernel
theorem dX8_tonesAfter_10 : decode cX8_tonesAfter 10 = .ok (.bipush 9, 2) := by decide +kernel
theorem dX8_tonesAfter_12 : decode cX8_tonesAfter 12 = .ok (.aload_n 0, 1) := by decide +kernel
theorem dX8_tonesAfter_13 : decode cX8_tonesAfter 13 = .ok (.getfield 12, 3) := by decide +kernel
theorem dX8_tonesAfter_16 : decode cX8_tonesAfter 16 = .ok (.getfield 93, 3) := by decide +kernel
theorem dX8_tonesAfter_19 : decode cX8_tonesAfter 19 = .ok (.iload_n 3, 1) := by decide +kernel
theorem dX8_tonesAfter_20 : decode cX8_tonesAfter 20 = .ok (.iaload, 1) := by decide +kernel
theorem dX8_tonesAfter_21 : decode cX8_tonesAfter 21 = .ok (.iload_n 2, 1) := by decide +kernel
theorem dX8_tonesAfter_22 : decode cX8_tonesAfter 22 = .ok (.iadd, 1) := by decide +kernel
theorem dX8_tonesAfter_23 : decode cX8_tonesAfter 23 = .ok (.invokestatic 116, 3) := by decide +kernel
theorem dX8_tonesAfter_26 : decode cX8_tonesAfter 26 = .ok (.istore 4, 2) := by decide +kernel
theorem dX8_tonesAfter_28 : decode cX8_tonesAfter 28 = .ok (.iconst 0, 1) := by decide +kernel
theorem dX8_tonesAfter_29 : decode cX8_tonesAfter 29 = .ok (.istore 5, 2) := by decide +kernel
theorem dX8_tonesAfter_31 : decode cX8_tonesAfter 31 = .ok (.iconst 0, 1) := by decide +kernel
theorem dX8_tonesAfter_32 : decode cX8_tonesAfter 32 = .ok (.istore 6, 2) := by decide +kernel
theorem dX8_tonesAfter_34 : decode cX8_tonesAfter 34 = .ok (.iload 6, 2) := by decide +kernel
theorem dX8_tonesAfter_36 : decode cX8_tonesAfter 36 = .ok (.aload_n 0, 1) := by decide +kernel
theorem dX8_tonesAfter_37 : decode cX8_tonesAfter 37 = .ok (.getfield 21, 3) := by decide +kernel
theorem dX8_tonesAfter_40 : decode cX8_tonesAfter 40 = .ok (.getfield 58, 3) := by decide +kernel
theorem dX8_tonesAfter_43 : decode cX8_tonesAfter 43 = .ok (.if_icmp .ge 56, 3) := by decide +kernel
theorem dX8_tonesAfter_46 : decode cX8_tonesAfter 46 = .ok (.aload_n 0, 1) := by decide +kernel
theorem dX8_tonesAfter_47 : decode cX8_tonesAfter 47 = .ok (.iload 6, 2) := by decide +kernel
theorem dX8_tonesAfter_49 : decode cX8_tonesAfter 49 = .ok (.iload_n 1, 1) := by decide +kernel
theorem dX8_tonesAfter_50 : decode cX8_tonesAfter 50 = .ok (.iload_n 3, 1) := by decide +kernel
theorem dX8_tonesAfter_51 : decode cX8_tonesAfter 51 = .ok (.invokevirtual 102, 3) := by decide +kernel
theorem dX8_tonesAfter_54 : decode cX8_tonesAfter 54 = .ok (.ifCond .eq 39, 3) := by decide +kernel
theorem dX8_tonesAfter_57 : decode cX8_tonesAfter 57 = .ok (.aload_n 0, 1) := by decide +kernel
theorem dX8_tonesAfter_58 : decode cX8_tonesAfter 58 = .ok (.getfield 21, 3) := by decide +kernel
theorem dX8_tonesAfter_61 : decode cX8_tonesAfter 61 = .ok (.getfield 119, 3) := by decide +kernel
theorem dX8_tonesAfter_64 : decode cX8_tonesAfter 64 = .ok (.iload 6, 2) := by decide +kernel
theorem dX8_tonesAfter_66 : decode cX8_tonesAfter 66 = .ok (.iaload, 1) := by decide +kernel
theorem dX8_tonesAfter_67 : decode cX8_tonesAfter 67 = .ok (.iload_n 2, 1) := by decide +kernel
theorem dX8_tonesAfter_68 : decode cX8_tonesAfter 68 = .ok (.if_icmp .le 25, 3) := by decide +kernel
theorem dX8_tonesAfter_71 : decode cX8_tonesAfter 71 = .ok (.iload 5, 2) := by decide +kernel
theorem dX8_tonesAfter_73 : decode cX8_tonesAfter 73 = .ok (.iconst 0, 1) := by decide +kernel
theorem dX8_tonesAfter_74 : decode cX8_tonesAfter 74 = .ok (.aload_n 0, 1) := by decide +kernel
theorem dX8_tonesAfter_75 : decode cX8_tonesAfter 75 = .ok (.getfield 21, 3) := by decide +kernel
theorem dX8_tonesAfter_78 : decode cX8_tonesAfter 78 = .ok (.getfield 71, 3) := by decide +kernel
theorem dX8_tonesAfter_81 : decode cX8_tonesAfter 81 = .ok (.iload 6, 2) := by decide +kernel
theorem dX8_tonesAfter_83 : decode cX8_tonesAfter 83 = .ok (.iaload, 1) := by decide +kernel
theorem dX8_tonesAfter_84 : decode cX8_tonesAfter 84 = .ok (.iload 4, 2) := by decide +kernel
theorem dX8_tonesAfter_86 : decode cX8_tonesAfter 86 = .ok (.isub, 1) := by decide +kernel
theorem dX8_tonesAfter_87 : decode cX8_tonesAfter 87 = .ok (.invokestatic 96, 3) := by decide +kernel
theorem dX8_tonesAfter_90 : decode cX8_tonesAfter 90 = .ok (.iadd, 1) := by decide +kernel
theorem dX8_tonesAfter_91 : decode cX8_tonesAfter 91 = .ok (.istore 5, 2) := by decide +kernel
theorem dX8_tonesAfter_93 : decode cX8_tonesAfter 93 = .ok (.iinc 6 1, 3) := by decide +kernel
theorem dX8_tonesAfter_96 : decode cX8_tonesAfter 96 = .ok (.goto (-62), 3) := by decide +kernel
theorem dX8_tonesAfter_99 : decode cX8_tonesAfter 99 = .ok (.iload 5, 2) := by decide +kernel
theorem dX8_tonesAfter_101 : decode cX8_tonesAfter 101 = .ok (.ireturn, 1) := by decide +kernel
theorem vm_X8_tonesAfter : aVm yX8_tonesAfter RX8 cX8_tonesAfter 7 (some .int) 2 := ⟨tw_594, tw_592, tw_593, tw_2, rfl, by decide +kernel, by decide +kernel, by decide +kernel⟩
theorem dX8_versesInThought_0 : decode cX8_versesInThought 0 = .ok (.iconst 0, 1) := by decide +kernel
theorem dX8_versesInThought_1 : decode cX8_versesInThought 1 = .ok (.istore_n 2, 1) := by decide +kernel
theorem dX8_versesInThought_2 : decode cX8_versesInThought 2 = .ok (.iload_n 2, 1) := by decide +kernel
theorem dX8_versesInThought_3 : decode cX8_versesInThought 3 = .ok (.bipush 9, 2) := by decide +kernel
theorem dX8_versesInThought_5 : decode cX8_versesInThought 5 = .ok (.if_icmp .ge 18, 3) := by decide +kernel
theorem dX8_versesInThought_8 : decode cX8_versesInThought 8 = .ok (.aload_n 0, 1) := by decide +kernel
theorem dX8_versesInThought_9 : decode cX8_versesInThought 9 = .ok (.iload_n 1, 1) := by decide +kernel
theorem dX8_versesInThought_10 : decode cX8_versesInThought 10 = .ok (.iload_n 2, 1) := by decide +kernel
theorem dX8_versesInThought_11 : decode cX8_versesInThought 11 = .ok (.invokevirtual 113, 3) := by decide +kernel
theorem dX8_versesInThought_14 : decode cX8_versesInThought 14 = .ok (.ifCond .le 9, 3) := by decide +kernel
theorem dX8_versesInThought_17 : decode cX8_versesInThought 17 = .ok (.iinc 2 1, 3) := by decide +kernel
theorem dX8_versesInThought_20 : decode cX8_versesInThought 20 = .ok (.goto (-18), 3) := by decide +kernel
theorem dX8_versesInThought_23 : decode cX8_versesInThought 23 = .ok (.iload_n 2, 1) := by decide +kernel
theorem dX8_versesInThought_24 : decode cX8_versesInThought 24 = .ok (.ireturn, 1) := by decide +kernel
theorem vm_X8_versesInThought : aVm yX8_versesInThought RX8 cX8_versesInThought 3 (some .int) 1 := ⟨tw_590, tw_588, tw_589, tw_2, rfl, by decide +kernel, by decide +kernel, by decide +kernel⟩
theorem dX8_versesByEcho_0 : decode cX8_versesByEcho 0 = .ok (.iconst 0, 1) := by decide +kernel
theorem dX8_versesByEcho_1 : decode cX8_versesByEcho 1 = .ok (.istore_n 2, 1) := by decide +kernel
theorem dX8_versesByEcho_2 : decode cX8_versesByEcho 2 = .ok (.iconst 0, 1) := by decide +kernel
theorem dX8_versesByEcho_3 : decode cX8_versesByEcho 3 = .ok (.istore_n 3, 1) := by decide +kernel
theorem dX8_versesByEcho_4 : decode cX8_versesByEcho 4 = .ok (.iload_n 3, 1) := by decide +kernel
theorem dX8_versesByEcho_5 : decode cX8_versesByEcho 5 = .ok (.aload_n 0, 1) := by decide +kernel
theorem dX8_versesByEcho_6 : decode cX8_versesByEcho 6 = .ok (.getfield 21, 3) := by decide +kernel
theorem dX8_versesByEcho_9 : decode cX8_versesByEcho 9 = .ok (.getfield 58, 3) := by decide +kernel
theorem dX8_versesByEcho_12 : decode cX8_versesByEcho 12 = .ok (.if_icmp .ge 49, 3) := by decide +kernel
theorem dX8_versesByEcho_15 : decode cX8_versesByEcho 15 = .ok (.aload_n 0, 1) := by decide +kernel
theorem dX8_versesByEcho_16 : decode cX8_versesByEcho 16 = .ok (.iload_n 3, 1) := by decide +kernel
theorem dX8_versesByEcho_17 : decode cX8_versesByEcho 17 = .ok (.iload_n 1, 1) := by decide +kernel
theorem dX8_versesByEcho_18 : decode cX8_versesByEcho 18 = .ok (.aload_n 0, 1) := by decide +kernel
theorem dX8_versesByEcho_19 : decode cX8_versesByEcho 19 = .ok (.getfield 28, 3) := by decide +kernel
theorem dX8_versesByEcho_22 : decode cX8_versesByEcho 22 = .ok (.getfield 60, 3) := by decide +kernel
theorem dX8_versesByEcho_25 : decode cX8_versesByEcho 25 = .ok (.iload_n 1, 1) := by decide +kernel
theorem dX8_versesByEcho_26 : decode cX8_versesByEcho 26 = .ok (.iaload, 1) := by decide +kernel
theorem dX8_versesByEcho_27 : decode cX8_versesByEcho 27 = .ok (.invokevirtual 102, 3) := by decide +kernel
theorem dX8_versesByEcho_30 : decode cX8_versesByEcho 30 = .ok (.ifCond .eq 25, 3) := by decide +kernel
theorem dX8_versesByEcho_33 : decode cX8_versesByEcho 33 = .ok (.iload_n 2, 1) := by decide +kernel
theorem dX8_versesByEcho_34 : decode cX8_versesByEcho 34 = .ok (.aload_n 0, 1) := by decide +kernel
theorem dX8_versesByEcho_35 : decode cX8_versesByEcho 35 = .ok (.getfield 21, 3) := by decide +kernel
theorem dX8_versesByEcho_38 : decode cX8_versesByEcho 38 = .ok (.getfield 119, 3) := by decide +kernel
theorem dX8_versesByEcho_41 : decode cX8_versesByEcho 41 = .ok (.iload_n 3, 1) := by decide +kernel
theorem dX8_versesByEcho_42 : decode cX8_versesByEcho 42 = .ok (.iaload, 1) := by decide +kernel
theorem dX8_versesByEcho_43 : decode cX8_versesByEcho 43 = .ok (.aload_n 0, 1) := by decide +kernel
theorem dX8_versesByEcho_44 : decode cX8_versesByEcho 44 = .ok (.iload_n 3, 1) := by decide +kernel
theorem dX8_versesByEcho_45 : decode cX8_versesByEcho 45 = .ok (.invokevirtual 106, 3) := by decide +kernel
theorem dX8_versesByEcho_48 : decode cX8_versesByEcho 48 = .ok (.invokestatic 116, 3) := by decide +kernel
theorem dX8_versesByEcho_51 : decode cX8_versesByEcho 51 = .ok (.invokestatic 96, 3) := by decide +kernel
theorem dX8_versesByEcho_54 : decode cX8_versesByEcho 54 = .ok (.istore_n 2, 1) := by decide +kernel
theorem dX8_versesByEcho_55 : decode cX8_versesByEcho 55 = .ok (.iinc 3 1, 3) := by decide +kernel
theorem dX8_versesByEcho_58 : decode cX8_versesByEcho 58 = .ok (.goto (-54), 3) := by decide +kernel
theorem dX8_versesByEcho_61 : decode cX8_versesByEcho 61 = .ok (.iload_n 2, 1) := by decide +kernel
theorem dX8_versesByEcho_62 : decode cX8_versesByEcho 62 = .ok (.ireturn, 1) := by decide +kernel
theorem vm_X8_versesByEcho : aVm yX8_versesByEcho RX8 cX8_versesByEcho 4 (some .int) 1 := ⟨tw_1041, tw_1039, tw_1040, tw_2, rfl, by decide +kernel, by decide +kernel, by decide +kernel⟩
theorem dX8_countLetTo_0 : decode cX8_countLetTo 0 = .ok (.iconst 0, 1) := by decide +kernel
theorem dX8_countLetTo_1 : decode cX8_countLetTo 1 = .ok (.istore_n 2, 1) := by decide +kernel
theorem dX8_countLetTo_2 : decode cX8_countLetTo 2 = .ok (.iconst 0, 1) := by decide +kernel
theorem dX8_countLetTo_3 : decode cX8_countLetTo 3 = .ok (.istore_n 3, 1) := by decide +kernel
theorem dX8_countLetTo_4 : decode cX8_countLetTo 4 = .ok (.iload_n 3, 1) := by decide +kernel
theorem dX8_countLetTo_5 : decode cX8_countLetTo 5 = .ok (.aload_n 0, 1) := by decide +kernel
theorem dX8_countLetTo_6 : decode cX8_countLetTo 6 = .ok (.getfield 21, 3) := by decide +kernel
theorem dX8_countLetTo_9 : decode cX8_countLetTo 9 = .ok (.getfield 58, 3) := by decide +kernel
theorem dX8_countLetTo_12 : decode cX8_countLetTo 12 = .ok (.if_icmp .ge 25, 3) := by decide +kernel
theorem dX8_countLetTo_15 : decode cX8_countLetTo 15 = .ok (.aload_n 0, 1) := by decide +kernel
theorem dX8_countLetTo_16 : decode cX8_countLetTo 16 = .ok (.getfield 21, 3) := by decide +kernel
theorem dX8_countLetTo_19 : decode cX8_countLetTo 19 = .ok (.getfield 64, 3) := by decide +kernel
theorem dX8_countLetTo_22 : decode cX8_countLetTo 22 = .ok (.iload_n 3, 1) := by decide +kernel
theorem dX8_countLetTo_23 : decode cX8_countLetTo 23 = .ok (.iaload, 1) := by decide +kernel
theorem dX8_countLetTo_24 : decode cX8_countLetTo 24 = .ok (.iload_n 1, 1) := by decide +kernel
theorem dX8_countLetTo_25 : decode cX8_countLetTo 25 = .ok (.if_icmp .ne 6, 3) := by decide +kernel
theorem dX8_countLetTo_28 : decode cX8_countLetTo 28 = .ok (.iinc 2 1, 3) := by decide +kernel
theorem dX8_countLetTo_31 : decode cX8_countLetTo 31 = .ok (.iinc 3 1, 3) := by decide +kernel
theorem dX8_countLetTo_34 : decode cX8_countLetTo 34 = .ok (.goto (-30), 3) := by decide +kernel
theorem dX8_countLetTo_37 : decode cX8_countLetTo 37 = .ok (.iload_n 2, 1) := by decide +kernel
theorem dX8_countLetTo_38 : decode cX8_countLetTo 38 = .ok (.ireturn, 1) := by decide +kernel
theorem vm_X8_countLetTo : aVm yX8_countLetTo RX8 cX8_countLetTo 4 (some .int) 1 := ⟨tw_338, tw_336, tw_337, tw_2, rfl, by decide +kernel, by decide +kernel, by decide +kernel⟩
theorem dX8_countLet_0 : decode cX8_countLet 0 = .ok (.aload_n 0, 1) := by decide +kernel
theorem dX8_countLet_1 : decode cX8_countLet 1 = .ok (.getfield 21, 3) := by decide +kernel
theorem dX8_countLet_4 : decode cX8_countLet 4 = .ok (.getfield 58, 3) := by decide +kernel
theorem dX8_countLet_7 : decode cX8_countLet 7 = .ok (.aload_n 0, 1) := by decide +kernel
theorem dX8_countLet_8 : decode cX8_countLet 8 = .ok (.iconst (-1), 1) := by decide +kernel
theorem dX8_countLet_9 : decode cX8_countLet 9 = .ok (.invokevirtual 122, 3) := by decide +kernel
theorem dX8_countLet_12 : decode cX8_countLet 12 = .ok (.isub, 1) := by decide +kernel
theorem dX8_countLet_13 : decode cX8_countLet 13 = .ok (.ireturn, 1) := by decide +kernel
theorem vm_X8_countLet : aVm yX8_countLet RX8 cX8_countLet 1 (some .int) 0 := ⟨tw_334, tw_332, tw_333, tw_2, rfl, by decide +kernel, by decide +kernel, by decide +kernel⟩
theorem dX8_heldOf_0 : decode cX8_heldOf 0 = .ok (.iconst 0, 1) := by decide +kernel
theorem dX8_heldOf_1 : decode cX8_heldOf 1 = .ok (.istore_n 2, 1) := by decide +kernel
theorem dX8_heldOf_2 : decode cX8_heldOf 2 = .ok (.iconst 0, 1) := by decide +kernel
theorem dX8_heldOf_3 : decode cX8_heldOf 3 = .ok (.istore_n 3, 1) := by decide +kernel
theorem dX8_heldOf_4 : decode cX8_heldOf 4 = .ok (.iload_n 3, 1) := by decide +kernel
theorem dX8_heldOf_5 : decode cX8_heldOf 5 = .ok (.aload_n 0, 1) := by decide +kernel
theorem dX8_heldOf_6 : decode cX8_heldOf 6 = .ok (.getfield 21, 3) := by decide +kernel
theorem dX8_heldOf_9 : decode cX8_heldOf 9 = .ok (.getfield 58, 3) := by decide +kernel
theorem dX8_heldOf_12 : decode cX8_heldOf 12 = .ok (.if_icmp .ge 34, 3) := by decide +kernel
theorem dX8_heldOf_15 : decode cX8_heldOf 15 = .ok (.aload_n 0, 1) := by decide +kernel
theorem dX8_heldOf_16 : decode cX8_heldOf 16 = .ok (.getfield 21, 3) := by decide +kernel
theorem dX8_heldOf_19 : decode cX8_heldOf 19 = .ok (.getfield 64, 3) := by decide +kernel
theorem dX8_heldOf_22 : decode cX8_heldOf 22 = .ok (.iload_n 3, 1) := by decide +kernel
theorem dX8_heldOf_23 : decode cX8_heldOf 23 = .ok (.iaload, 1) := by decide +kernel
theorem dX8_heldOf_24 : decode cX8_heldOf 24 = .ok (.iload_n 1, 1) := by decide +kernel
theorem dX8_heldOf_25 : decode cX8_heldOf 25 = .ok (.if_icmp .ne 15, 3) := by decide +kernel
theorem dX8_heldOf_28 : decode cX8_heldOf 28 = .ok (.iload_n 2, 1) := by decide +kernel
theorem dX8_heldOf_29 : decode cX8_heldOf 29 = .ok (.aload_n 0, 1) := by decide +kernel
theorem dX8_heldOf_30 : decode cX8_heldOf 30 = .ok (.getfield 21, 3) := by decide +kernel
theorem dX8_heldOf_33 : decode cX8_heldOf 33 = .ok (.getfield 71, 3) := by decide +kernel
theorem dX8_heldOf_36 : decode cX8_heldOf 36 = .ok (.iload_n 3, 1) := by decide +kernel
theorem dX8_heldOf_37 : decode cX8_heldOf 37 = .ok (.iaload, 1) := by decide +kernel
theorem dX8_heldOf_38 : decode cX8_heldOf 38 = .ok (.iadd, 1) := by decide +kernel
theorem dX8_heldOf_39 : decode cX8_heldOf 39 = .ok (.istore_n 2, 1) := by decide +kernel
theorem dX8_heldOf_40 : decode cX8_heldOf 40 = .ok (.iinc 3 1, 3) := by decide +kernel
theorem dX8_heldOf_43 : decode cX8_heldOf 43 = .ok (.goto (-39), 3) := by decide +kernel
theorem dX8_heldOf_46 : decode cX8_heldOf 46 = .ok (.iload_n 2, 1) := by decide +kernel
theorem dX8_heldOf_47 : decode cX8_heldOf 47 = .ok (.ireturn, 1) := by decide +kernel
theorem vm_X8_heldOf : aVm yX8_heldOf RX8 cX8_heldOf 4 (some .int) 1 := ⟨tw_358, tw_356, tw_357, tw_2, rfl, by decide +kernel, by decide +kernel, by decide +kernel⟩
theorem dX8_heldOfAll_0 : decode cX8_heldOfAll 0 = .ok (.iconst 0, 1) := by decide +kernel
theorem dX8_heldOfAll_1 : decode cX8_heldOfAll 1 = .ok (.istore_n 1, 1) := by decide +kernel
theorem dX8_heldOfAll_2 : decode cX8_heldOfAll 2 = .ok (.iconst 0, 1) := by decide +kernel
theorem dX8_heldOfAll_3 : decode cX8_heldOfAll 3 = .ok (.istore_n 2, 1) := by decide +kernel
theorem dX8_heldOfAll_4 : decode cX8_heldOfAll 4 = .ok (.iload_n 2, 1) := by decide +kernel
theorem dX8_heldOfAll_5 : decode cX8_heldOfAll 5 = .ok (.aload_n 0, 1) := by decide +kernel
theorem dX8_heldOfAll_6 : decode cX8_heldOfAll 6 = .ok (.getfield 28, 3) := by decide +kernel
theorem dX8_heldOfAll_9 : decode cX8_heldOfAll 9 = .ok (.getfield 59, 3) := by decide +kernel
theorem dX8_heldOfAll_12 : decode cX8_heldOfAll 12 = .ok (.if_icmp .ge 17, 3) := by decide +kernel
theorem dX8_heldOfAll_15 : decode cX8_heldOfAll 15 = .ok (.iload_n 1, 1) := by decide +kernel
theorem dX8_heldOfAll_16 : decode cX8_heldOfAll 16 = .ok (.aload_n 0, 1) := by decide +kernel
theorem dX8_heldOfAll_17 : decode cX8_heldOfAll 17 = .ok (.iload_n 2, 1) := by decide +kernel
theorem dX8_heldOfAll_18 : decode cX8_heldOfAll 18 = .ok (.invokevirtual 125, 3) := by decide +kernel
theorem dX8_heldOfAll_21 : decode cX8_heldOfAll 21 = .ok (.iadd, 1) := by decide +kernel
theorem dX8_heldOfAll_22 : decode cX8_heldOfAll 22 = .ok (.istore_n 1, 1) := by decide +kernel
theorem dX8_heldOfAll_23 : decode cX8_heldOfAll 23 = .ok (.iinc 2 1, 3) := by decide +kernel
theorem dX8_heldOfAll_26 : decode cX8_heldOfAll 26 = .ok (.goto (-22), 3) := by decide +kernel
theorem dX8_heldOfAll_29 : decode cX8_heldOfAll 29 = .ok (.iload_n 1, 1) := by decide +kernel
theorem dX8_heldOfAll_30 : decode cX8_heldOfAll 30 = .ok (.ireturn, 1) := by decide +kernel
theorem vm_X8_heldOfAll : aVm yX8_heldOfAll RX8 cX8_heldOfAll 3 (some .int) 0 := ⟨tw_354, tw_352, tw_353, tw_2, rfl, by decide +kernel, by decide +kernel, by decide +kernel⟩
theorem dX8_dampOfAll_0 : decode cX8_dampOfAll 0 = .ok (.iconst 0, 1) := by decide +kernel
theorem dX8_dampOfAll_1 : decode cX8_dampOfAll 1 = .ok (.istore_n 1, 1) := by decide +kernel
theorem dX8_dampOfAll_2 : decode cX8_dampOfAll 2 = .ok (.iconst 0, 1) := by decide +kernel
theorem dX8_dampOfAll_3 : decode cX8_dampOfAll 3 = .ok (.istore_n 2, 1) := by decide +kernel
theorem dX8_dampOfAll_4 : decode cX8_dampOfAll 4 = .ok (.iload_n 2, 1) := by decide +kernel
theorem dX8_dampOfAll_5 : decode cX8_dampOfAll 5 = .ok (.aload_n 0, 1) := by decide +kernel
theorem dX8_dampOfAll_6 : decode cX8_dampOfAll 6 = .ok (.getfield 12, 3) := by decide +kernel
theorem dX8_dampOfAll_9 : decode cX8_dampOfAll 9 = .ok (.getfield 55, 3) := by decide +kernel
theorem dX8_dampOfAll_12 : decode cX8_dampOfAll 12 = .ok (.if_icmp .ge 21, 3) := by decide +kernel
theorem dX8_dampOfAll_15 : decode cX8_dampOfAll 15 = .ok (.iload_n 1, 1) := by decide +kernel
theorem dX8_dampOfAll_16 : decode cX8_dampOfAll 16 = .ok (.aload_n 0, 1) := by decide +kernel
theorem dX8_dampOfAll_17 : decode cX8_dampOfAll 17 = .ok (.getfield 12, 3) := by decide +kernel
theorem dX8_dampOfAll_20 : decode cX8_dampOfAll 20 = .ok (.getfield 93, 3) := by decide +kernel
theorem dX8_dampOfAll_23 : decode cX8_dampOfAll 23 = .ok (.iload_n 2, 1) := by decide +kernel
theorem dX8_dampOfAll_24 : decode cX8_dampOfAll 24 = .ok (.iaload, 1) := by decide +kernel
theorem dX8_dampOfAll_25 : decode cX8_dampOfAll 25 = .ok (.iadd, 1) := by decide +kernel
theorem dX8_dampOfAll_26 : decode cX8_dampOfAll 26 = .ok (.istore_n 1, 1) := by decide +kernel
theorem dX8_dampOfAll_27 : decode cX8_dampOfAll 27 = .ok (.iinc 2 1, 3) := by decide +kernel
theorem dX8_dampOfAll_30 : decode cX8_dampOfAll 30 = .ok (.goto (-26), 3) := by decide +kernel
theorem dX8_dampOfAll_33 : decode cX8_dampOfAll 33 = .ok (.iload_n 1, 1) := by decide +kernel
theorem dX8_dampOfAll_34 : decode cX8_dampOfAll 34 = .ok (.ireturn, 1) := by decide +kernel
theorem vm_X8_dampOfAll : aVm yX8_dampOfAll RX8 cX8_dampOfAll 3 (some .int) 0 := ⟨tw_342, tw_340, tw_341, tw_2, rfl, by decide +kernel, by decide +kernel, by decide +kernel⟩
theorem dX8_versesOfAll_0 : decode cX8_versesOfAll 0 = .ok (.iconst 0, 1) := by decide +kernel
theorem dX8_versesOfAll_1 : decode cX8_versesOfAll 1 = .ok (.istore_n 1, 1) := by decide +kernel
theorem dX8_versesOfAll_2 : decode cX8_versesOfAll 2 = .ok (.iconst 0, 1) := by decide +kernel
theorem dX8_versesOfAll_3 : decode cX8_versesOfAll 3 = .ok (.istore_n 2, 1) := by decide +kernel
theorem dX8_versesOfAll_4 : decode cX8_versesOfAll 4 = .ok (.iload_n 2, 1) := by decide +kernel
theorem dX8_versesOfAll_5 : decode cX8_versesOfAll 5 = .ok (.aload_n 0, 1) := by decide +kernel
theorem dX8_versesOfAll_6 : decode cX8_versesOfAll 6 = .ok (.getfield 12, 3) := by decide +kernel
theorem dX8_versesOfAll_9 : decode cX8_versesOfAll 9 = .ok (.getfield 55, 3) := by decide +kernel
theorem dX8_versesOfAll_12 : decode cX8_versesOfAll 12 = .ok (.if_icmp .ge 21, 3) := by decide +kernel
theorem dX8_versesOfAll_15 : decode cX8_versesOfAll 15 = .ok (.iload_n 1, 1) := by decide +kernel
theorem dX8_versesOfAll_16 : decode cX8_versesOfAll 16 = .ok (.aload_n 0, 1) := by decide +kernel
theorem dX8_versesOfAll_17 : decode cX8_versesOfAll 17 = .ok (.getfield 12, 3) := by decide +kernel
theorem dX8_versesOfAll_20 : decode cX8_versesOfAll 20 = .ok (.getfield 128, 3) := by decide +kernel
theorem dX8_versesOfAll_23 : decode cX8_versesOfAll 23 = .ok (.iload_n 2, 1) := by decide +kernel
theorem dX8_versesOfAll_24 : decode cX8_versesOfAll 24 = .ok (.iaload, 1) := by decide +kernel
theorem dX8_versesOfAll_25 : decode cX8_versesOfAll 25 = .ok (.iadd, 1) := by decide +kernel
theorem dX8_versesOfAll_26 : decode cX8_versesOfAll 26 = .ok (.istore_n 1, 1) := by decide +kernel
theorem dX8_versesOfAll_27 : decode cX8_versesOfAll 27 = .ok (.iinc 2 1, 3) := by decide +kernel
theorem dX8_versesOfAll_30 : decode cX8_versesOfAll 30 = .ok (.goto (-26), 3) := by decide +kernel
theorem dX8_versesOfAll_33 : decode cX8_versesOfAll 33 = .ok (.iload_n 1, 1) := by decide +kernel
theorem dX8_versesOfAll_34 : decode cX8_versesOfAll 34 = .ok (.ireturn, 1) := by decide +kernel
theorem vm_X8_versesOfAll : aVm yX8_versesOfAll RX8 cX8_versesOfAll 3 (some .int) 0 := ⟨tw_346, tw_344, tw_345, tw_2, rfl, by decide +kernel, by decide +kernel, by decide +kernel⟩
theorem dX8_tonesOfAll_0 : decode cX8_tonesOfAll 0 = .ok (.iconst 0, 1) := by decide +kernel
theorem dX8_tonesOfAll_1 : decode cX8_tonesOfAll 1 = .ok (.istore_n 1, 1) := by decide +kernel
theorem dX8_tonesOfAll_2 : decode cX8_tonesOfAll 2 = .ok (.iconst 0, 1) := by decide +kernel
theorem dX8_tonesOfAll_3 : decode cX8_tonesOfAll 3 = .ok (.istore_n 2, 1) := by decide +kernel
theorem dX8_tonesOfAll_4 : decode cX8_tonesOfAll 4 = .ok (.iload_n 2, 1) := by decide +kernel
theorem dX8_tonesOfAll_5 : decode cX8_tonesOfAll 5 = .ok (.aload_n 0, 1) := by decide +kernel
theorem dX8_tonesOfAll_6 : decode cX8_tonesOfAll 6 = .ok (.getfield 21, 3) := by decide +kernel
theorem dX8_tonesOfAll_9 : decode cX8_tonesOfAll 9 = .ok (.getfield 58, 3) := by decide +kernel
theorem dX8_tonesOfAll_12 : decode cX8_tonesOfAll 12 = .ok (.if_icmp .ge 21, 3) := by decide +kernel
theorem dX8_tonesOfAll_15 : decode cX8_tonesOfAll 15 = .ok (.iload_n 1, 1) := by decide +kernel
theorem dX8_tonesOfAll_16 : decode cX8_tonesOfAll 16 = .ok (.aload_n 0, 1) := by decide +kernel
theorem dX8_tonesOfAll_17 : decode cX8_tonesOfAll 17 = .ok (.getfield 21, 3) := by decide +kernel
theorem dX8_tonesOfAll_20 : decode cX8_tonesOfAll 20 = .ok (.getfield 129, 3) := by decide +kernel
theorem dX8_tonesOfAll_23 : decode cX8_tonesOfAll 23 = .ok (.iload_n 2, 1) := by decide +kernel
theorem dX8_tonesOfAll_24 : decode cX8_tonesOfAll 24 = .ok (.iaload, 1) := by decide +kernel
theorem dX8_tonesOfAll_25 : decode cX8_tonesOfAll 25 = .ok (.iadd, 1) := by decide +kernel
theorem dX8_tonesOfAll_26 : decode cX8_tonesOfAll 26 = .ok (.istore_n 1, 1) := by decide +kernel
theorem dX8_tonesOfAll_27 : decode cX8_tonesOfAll 27 = .ok (.iinc 2 1, 3) := by decide +kernel
theorem dX8_tonesOfAll_30 : decode cX8_tonesOfAll 30 = .ok (.goto (-26), 3) := by decide +kernel
theorem dX8_tonesOfAll_33 : decode cX8_tonesOfAll 33 = .ok (.iload_n 1, 1) := by decide +kernel
theorem dX8_tonesOfAll_34 : decode cX8_tonesOfAll 34 = .ok (.ireturn, 1) := by decide +kernel
theorem vm_X8_tonesOfAll : aVm yX8_tonesOfAll RX8 cX8_tonesOfAll 3 (some .int) 0 := ⟨tw_350, tw_348, tw_349, tw_2, rfl, by decide +kernel, by decide +kernel, by decide +kernel⟩
def w_X8_hasRoom (x1 : Int32) (q : aS) (P : Int32 → aS → Prop) : Prop := ((x1 < 0 → P 0 q) ∧ (¬ x1 < 0 → (((q.1 2 0) ≤ x1 → P 0 q) ∧ (¬ (q.1 2 0) ≤ x1 → P 1 q))))
def w_X8_hasEcho (x1 : Int32) (q : aS) (P : Int32 → aS → Prop) : Prop := ((x1 < 0 → P 0 q) ∧ (¬ x1 < 0 → (((q.1 6 0) ≤ x1 → P 0 q) ∧ (¬ (q.1 6 0) ≤ x1 → P 1 q))))
def w_X8_hasSinger (x1 : Int32) (q : aS) (P : Int32 → aS → Prop) : Prop := ((x1 < 0 → P 0 q) ∧ (¬ x1 < 0 → (((q.1 12 0) ≤ x1 → P 0 q) ∧ (¬ (q.1 12 0) ≤ x1 → P 1 q))))
def w_X8_isInside (x1 : Int32) (q : aS) (P : Int32 → aS → Prop) : Prop := (vp_in x1 6 ∧ (((q.1 15 (Int32.toNatClampNeg x1)) = (-1) → P 0 q) ∧ (¬ (q.1 15 (Int32.toNatClampNeg x1)) = (-1) → P 1 q)))
def w_X8_isLet (x1 : Int32) (q : aS) (P : Int32 → aS → Prop) : Prop := (vp_in x1 8 ∧ (((q.1 9 (Int32.toNatClampNeg x1)) = (-1) → P 0 q) ∧ (¬ (q.1 9 (Int32.toNatClampNeg x1)) = (-1) → P 1 q)))
def w_X8_isWithEcho (x1 : Int32) (x2 : Int32) (q : aS) (P : Int32 → aS → Prop) : Prop := (vp_in x1 6 ∧ (vp_in x2 8 ∧ ((¬ (q.1 15 (Int32.toNatClampNeg x1)) = (q.1 7 (Int32.toNatClampNeg x2)) → P 0 q) ∧ ((q.1 15 (Int32.toNatClampNeg x1)) = (q.1 7 (Int32.toNatClampNeg x2)) → P 1 q))))
def w_X8_canPayFor (x1 : Int32) (x2 : Int32) (q : aS) (P : Int32 → aS → Prop) : Prop := (vp_in x1 6 ∧ (vp_in x2 8 ∧ (((q.1 14 (Int32.toNatClampNeg x1)) < (q.1 8 (Int32.toNatClampNeg x2)) → P 0 q) ∧ (¬ (q.1 14 (Int32.toNatClampNeg x1)) < (q.1 8 (Int32.toNatClampNeg x2)) → P 1 q))))
def LX8_singersIn_4 (c1 : Int32) (P : Int32 → aS → Prop) (K : Int32 → aS → Prop) : Nat → Int32 → Int32 → aS → Prop
  | 0, _, _, _ => False
  | N + 1, v2, v3, q => (((q.1 12 0) ≤ v3 → K v2 q) ∧ (¬ (q.1 12 0) ≤ v3 → (vp_in v3 6 ∧ ((¬ (q.1 15 (Int32.toNatClampNeg v3)) = c1 → ∀ x2 : Int32, x2 = v3 + 1 → (LX8_singersIn_4 c1 P K N) v2 x2 q) ∧ ((q.1 15 (Int32.toNatClampNeg v3)) = c1 → ∀ x3 : Int32, x3 = (v2 ||| (1 <<< (v3 &&& 31))) → ∀ x4 : Int32, x4 = v3 + 1 → (LX8_singersIn_4 c1 P K N) x3 x4 q)))))
def w_X8_singersIn (x1 : Int32) (q : aS) (P : Int32 → aS → Prop) : Prop := ∃ M7, LX8_singersIn_4 x1 P (fun y5 q6 => P y5 q6) M7 0 0 q
def LX8_echoesIn_4 (c1 : Int32) (P : Int32 → aS → Prop) (K : Int32 → aS → Prop) : Nat → Int32 → Int32 → aS → Prop
  | 0, _, _, _ => False
  | N + 1, v2, v3, q => (((q.1 6 0) ≤ v3 → K v2 q) ∧ (¬ (q.1 6 0) ≤ v3 → (vp_in v3 8 ∧ ((¬ (q.1 7 (Int32.toNatClampNeg v3)) = c1 → ∀ x2 : Int32, x2 = v3 + 1 → (LX8_echoesIn_4 c1 P K N) v2 x2 q) ∧ ((q.1 7 (Int32.toNatClampNeg v3)) = c1 → ∀ x3 : Int32, x3 = (v2 ||| (1 <<< (v3 &&& 31))) → ∀ x4 : Int32, x4 = v3 + 1 → (LX8_echoesIn_4 c1 P K N) x3 x4 q)))))
def w_X8_echoesIn (x1 : Int32) (q : aS) (P : Int32 → aS → Prop) : Prop := ∃ M7, LX8_echoesIn_4 x1 P (fun y5 q6 => P y5 q6) M7 0 0 q
def w_X8_isFull (x1 : Int32) (q : aS) (P : Int32 → aS → Prop) : Prop := w_X8_singersIn x1 q (fun r2 q3 => w_J6_bitCount_0f7a4 r2 q3 (fun r4 q5 => (vp_in x1 6 ∧ ((r4 < (q5.1 3 (Int32.toNatClampNeg x1)) → P 0 q5) ∧ (¬ r4 < (q5.1 3 (Int32.toNatClampNeg x1)) → P 1 q5)))))
def w_X8_isTooShyFor (x1 : Int32) (x2 : Int32) (q : aS) (P : Int32 → aS → Prop) : Prop := w_X8_singersIn x2 q (fun r3 q4 => w_J6_bitCount_0f7a4 r3 q4 (fun r5 q6 => (vp_in x1 6 ∧ ((r5 ≤ ((9 - (q6.1 13 (Int32.toNatClampNeg x1))) / 3) → P 0 q6) ∧ (¬ r5 ≤ ((9 - (q6.1 13 (Int32.toNatClampNeg x1))) / 3) → P 1 q6)))))
def LX8_freeIn_4 (c1 : Int32) (P : Int32 → aS → Prop) (K : Int32 → aS → Prop) : Nat → Int32 → Int32 → aS → Prop
  | 0, _, _, _ => False
  | N + 1, v2, v3, q => (((q.1 6 0) ≤ v3 → K v2 q) ∧ (¬ (q.1 6 0) ≤ v3 → (vp_in v3 8 ∧ ((¬ (q.1 7 (Int32.toNatClampNeg v3)) = c1 → ∀ x2 : Int32, x2 = v3 + 1 → (LX8_freeIn_4 c1 P K N) v2 x2 q) ∧ ((q.1 7 (Int32.toNatClampNeg v3)) = c1 → w_X8_isLet v3 q (fun r3 q4 => ((¬ r3 = 0 → ∀ x5 : Int32, x5 = v3 + 1 → (LX8_freeIn_4 c1 P K N) v2 x5 q4) ∧ (r3 = 0 → ∀ x6 : Int32, x6 = (v2 ||| (1 <<< (v3 &&& 31))) → ∀ x7 : Int32, x7 = v3 + 1 → (LX8_freeIn_4 c1 P K N) x6 x7 q4))))))))
def w_X8_freeIn (x1 : Int32) (q : aS) (P : Int32 → aS → Prop) : Prop := ∃ M10, LX8_freeIn_4 x1 P (fun y8 q9 => P y8 q9) M10 0 0 q
def w_X8_aboveDamp (x1 : Int32) (q : aS) (P : Int32 → aS → Prop) : Prop := (vp_in x1 8 ∧ (vp_in x1 8 ∧ (vp_in (q.1 7 (Int32.toNatClampNeg x1)) 6 ∧ P (if 0 < ((q.1 8 (Int32.toNatClampNeg x1)) - (q.1 4 (Int32.toNatClampNeg (q.1 7 (Int32.toNatClampNeg x1))))) then ((q.1 8 (Int32.toNatClampNeg x1)) - (q.1 4 (Int32.toNatClampNeg (q.1 7 (Int32.toNatClampNeg x1))))) else 0) q)))
def w_X8_isHeard (x1 : Int32) (x2 : Int32) (x3 : Int32) (q : aS) (P : Int32 → aS → Prop) : Prop := (vp_in x1 8 ∧ ((¬ (q.1 7 (Int32.toNatClampNeg x1)) = x3 → P 0 q) ∧ ((q.1 7 (Int32.toNatClampNeg x1)) = x3 → (vp_in x1 8 ∧ ((¬ (q.1 9 (Int32.toNatClampNeg x1)) = x2 → P 0 q) ∧ ((q.1 9 (Int32.toNatClampNeg x1)) = x2 → P 1 q))))))
def LX8_tonesInRoom_5 (c1 : Int32) (c2 : Int32) (P : Int32 → aS → Prop) (K : Int32 → aS → Prop) : Nat → Int32 → Int32 → aS → Prop
  | 0, _, _, _ => False
  | N + 1, v3, v4, q => (((q.1 6 0) ≤ v4 → K v3 q) ∧ (¬ (q.1 6 0) ≤ v4 → w_X8_isHeard v4 c1 c2 q (fun r3 q4 => ((r3 = 0 → ∀ x5 : Int32, x5 = v4 + 1 → (LX8_tonesInRoom_5 c1 c2 P K N) v3 x5 q4) ∧ (¬ r3 = 0 → w_X8_aboveDamp v4 q4 (fun r6 q7 => ∀ x8 : Int32, x8 = (v3 + r6) → ∀ x9 : Int32, x9 = v4 + 1 → (LX8_tonesInRoom_5 c1 c2 P K N) x8 x9 q7))))))
def w_X8_tonesInRoom (x1 : Int32) (x2 : Int32) (q : aS) (P : Int32 → aS → Prop) : Prop := ∃ M12, LX8_tonesInRoom_5 x1 x2 P (fun y10 q11 => P y10 q11) M12 0 0 q
def LX8_countHeardOf_6 (c1 : Int32) (c2 : Int32) (c3 : Int32) (P : Int32 → aS → Prop) (K : Int32 → aS → Prop) : Nat → Int32 → Int32 → aS → Prop
  | 0, _, _, _ => False
  | N + 1, v4, v5, q => (((q.1 6 0) ≤ v5 → K v4 q) ∧ (¬ (q.1 6 0) ≤ v5 → w_X8_isHeard v5 c2 c3 q (fun r4 q5 => ((r4 = 0 → ∀ x6 : Int32, x6 = v5 + 1 → (LX8_countHeardOf_6 c1 c2 c3 P K N) v4 x6 q5) ∧ (¬ r4 = 0 → (vp_in v5 8 ∧ ((¬ (q5.1 8 (Int32.toNatClampNeg v5)) = c1 → ∀ x7 : Int32, x7 = v5 + 1 → (LX8_countHeardOf_6 c1 c2 c3 P K N) v4 x7 q5) ∧ ((q5.1 8 (Int32.toNatClampNeg v5)) = c1 → ∀ x8 : Int32, x8 = v4 + 1 → ∀ x9 : Int32, x9 = v5 + 1 → (LX8_countHeardOf_6 c1 c2 c3 P K N) x8 x9 q5))))))))
def w_X8_countHeardOf (x1 : Int32) (x2 : Int32) (x3 : Int32) (q : aS) (P : Int32 → aS → Prop) : Prop := ∃ M12, LX8_countHeardOf_6 x1 x2 x3 P (fun y10 q11 => P y10 q11) M12 0 0 q
def LX8_tonesByStrength_25 (c1 : Int32) (c2 : Int32) (P : Int32 → aS → Prop) (K : Int32 → aS → Prop) : Nat → Int32 → Int32 → aS → Prop
  | 0, _, _, _ => False
  | N + 1, v3, v4, q => ((9 < v4 → K v3 q) ∧ (¬ 9 < v4 → w_X8_countHeardOf v4 c1 c2 q (fun r4 q5 => (vp_in c2 6 ∧ ∀ x6 : Int32, x6 = (v3 + (r4 * (v4 - (q5.1 4 (Int32.toNatClampNeg c2))))) → ∀ x7 : Int32, x7 = v4 + 1 → (LX8_tonesByStrength_25 c1 c2 P K N) x6 x7 q5))))
def w_X8_tonesByStrength (x1 : Int32) (q : aS) (P : Int32 → aS → Prop) : Prop := (vp_in x1 6 ∧ ∀ x2 : Int32, x2 = (q.1 15 (Int32.toNatClampNeg x1)) → (vp_in x2 6 ∧ ∀ x3 : Int32, x3 = ((q.1 4 (Int32.toNatClampNeg x2)) + 1) → ∃ M10, LX8_tonesByStrength_25 x1 x2 P (fun y8 q9 => P y8 q9) M10 0 x3 q))
def LX8_tonesAfter_34 (c1 : Int32) (c2 : Int32) (c3 : Int32) (c4 : Int32) (P : Int32 → aS → Prop) (K : Int32 → aS → Prop) : Nat → Int32 → Int32 → aS → Prop
  | 0, _, _, _ => False
  | N + 1, v5, v6, q => (((q.1 6 0) ≤ v6 → K v5 q) ∧ (¬ (q.1 6 0) ≤ v6 → w_X8_isHeard v6 c1 c3 q (fun r5 q6 => ((r5 = 0 → ∀ x7 : Int32, x7 = v6 + 1 → (LX8_tonesAfter_34 c1 c2 c3 c4 P K N) v5 x7 q6) ∧ (¬ r5 = 0 → (vp_in v6 8 ∧ (((q6.1 10 (Int32.toNatClampNeg v6)) ≤ c2 → ∀ x8 : Int32, x8 = v6 + 1 → (LX8_tonesAfter_34 c1 c2 c3 c4 P K N) v5 x8 q6) ∧ (¬ (q6.1 10 (Int32.toNatClampNeg v6)) ≤ c2 → (vp_in v6 8 ∧ ∀ x9 : Int32, x9 = (v5 + (if 0 < ((q6.1 8 (Int32.toNatClampNeg v6)) - c4) then ((q6.1 8 (Int32.toNatClampNeg v6)) - c4) else 0)) → ∀ x10 : Int32, x10 = v6 + 1 → (LX8_tonesAfter_34 c1 c2 c3 c4 P K N) x9 x10 q6)))))))))
def w_X8_tonesAfter (x1 : Int32) (x2 : Int32) (q : aS) (P : Int32 → aS → Prop) : Prop := (vp_in x1 6 ∧ ∀ x3 : Int32, x3 = (q.1 15 (Int32.toNatClampNeg x1)) → (vp_in x3 6 ∧ ∀ x4 : Int32, x4 = (if ((q.1 4 (Int32.toNatClampNeg x3)) + x2) < 9 then ((q.1 4 (Int32.toNatClampNeg x3)) + x2) else 9) → ∃ M13, LX8_tonesAfter_34 x1 x2 x3 x4 P (fun y11 q12 => P y11 q12) M13 0 0 q))
def LX8_versesInThought_2 (c1 : Int32) (P : Int32 → aS → Prop) (K : Int32 → aS → Prop) : Nat → Int32 → aS → Prop
  | 0, _, _ => False
  | N + 1, v2, q => ((9 ≤ v2 → K v2 q) ∧ (¬ 9 ≤ v2 → w_X8_tonesAfter c1 v2 q (fun r2 q3 => ((r2 ≤ 0 → K v2 q3) ∧ (¬ r2 ≤ 0 → ∀ x4 : Int32, x4 = v2 + 1 → (LX8_versesInThought_2 c1 P K N) x4 q3)))))
def w_X8_versesInThought (x1 : Int32) (q : aS) (P : Int32 → aS → Prop) : Prop := ∃ M7, LX8_versesInThought_2 x1 P (fun y5 q6 => P y5 q6) M7 0 q
def LX8_versesByEcho_4 (c1 : Int32) (P : Int32 → aS → Prop) (K : Int32 → aS → Prop) : Nat → Int32 → Int32 → aS → Prop
  | 0, _, _, _ => False
  | N + 1, v2, v3, q => (((q.1 6 0) ≤ v3 → K v2 q) ∧ (¬ (q.1 6 0) ≤ v3 → (vp_in c1 6 ∧ w_X8_isHeard v3 c1 (q.1 15 (Int32.toNatClampNeg c1)) q (fun r2 q3 => ((r2 = 0 → ∀ x4 : Int32, x4 = v3 + 1 → (LX8_versesByEcho_4 c1 P K N) v2 x4 q3) ∧ (¬ r2 = 0 → (vp_in v3 8 ∧ w_X8_aboveDamp v3 q3 (fun r5 q6 => ∀ x7 : Int32, x7 = (if v2 < (if r5 < (q3.1 10 (Int32.toNatClampNeg v3)) then r5 else (q3.1 10 (Int32.toNatClampNeg v3))) then (if r5 < (q3.1 10 (Int32.toNatClampNeg v3)) then r5 else (q3.1 10 (Int32.toNatClampNeg v3))) else v2) → ∀ x8 : Int32, x8 = v3 + 1 → (LX8_versesByEcho_4 c1 P K N) x7 x8 q6))))))))
def w_X8_versesByEcho (x1 : Int32) (q : aS) (P : Int32 → aS → Prop) : Prop := ∃ M11, LX8_versesByEcho_4 x1 P (fun y9 q10 => P y9 q10) M11 0 0 q
def LX8_countLetTo_4 (c1 : Int32) (P : Int32 → aS → Prop) (K : Int32 → aS → Prop) : Nat → Int32 → Int32 → aS → Prop
  | 0, _, _, _ => False
  | N + 1, v2, v3, q => (((q.1 6 0) ≤ v3 → K v2 q) ∧ (¬ (q.1 6 0) ≤ v3 → (vp_in v3 8 ∧ ((¬ (q.1 9 (Int32.toNatClampNeg v3)) = c1 → ∀ x2 : Int32, x2 = v3 + 1 → (LX8_countLetTo_4 c1 P K N) v2 x2 q) ∧ ((q.1 9 (Int32.toNatClampNeg v3)) = c1 → ∀ x3 : Int32, x3 = v2 + 1 → ∀ x4 : Int32, x4 = v3 + 1 → (LX8_countLetTo_4 c1 P K N) x3 x4 q)))))
def w_X8_countLetTo (x1 : Int32) (q : aS) (P : Int32 → aS → Prop) : Prop := ∃ M7, LX8_countLetTo_4 x1 P (fun y5 q6 => P y5 q6) M7 0 0 q
def w_X8_countLet (q : aS) (P : Int32 → aS → Prop) : Prop := w_X8_countLetTo (-1) q (fun r1 q2 => P ((q.1 6 0) - r1) q2)
def LX8_heldOf_4 (c1 : Int32) (P : Int32 → aS → Prop) (K : Int32 → aS → Prop) : Nat → Int32 → Int32 → aS → Prop
  | 0, _, _, _ => False
  | N + 1, v2, v3, q => (((q.1 6 0) ≤ v3 → K v2 q) ∧ (¬ (q.1 6 0) ≤ v3 → (vp_in v3 8 ∧ ((¬ (q.1 9 (Int32.toNatClampNeg v3)) = c1 → ∀ x2 : Int32, x2 = v3 + 1 → (LX8_heldOf_4 c1 P K N) v2 x2 q) ∧ ((q.1 9 (Int32.toNatClampNeg v3)) = c1 → (vp_in v3 8 ∧ ∀ x3 : Int32, x3 = (v2 + (q.1 8 (Int32.toNatClampNeg v3))) → ∀ x4 : Int32, x4 = v3 + 1 → (LX8_heldOf_4 c1 P K N) x3 x4 q))))))
def w_X8_heldOf (x1 : Int32) (q : aS) (P : Int32 → aS → Prop) : Prop := ∃ M7, LX8_heldOf_4 x1 P (fun y5 q6 => P y5 q6) M7 0 0 q
def LX8_heldOfAll_4 (P : Int32 → aS → Prop) (K : Int32 → aS → Prop) : Nat → Int32 → Int32 → aS → Prop
  | 0, _, _, _ => False
  | N + 1, v1, v2, q => (((q.1 12 0) ≤ v2 → K v1 q) ∧ (¬ (q.1 12 0) ≤ v2 → w_X8_heldOf v2 q (fun r1 q2 => ∀ x3 : Int32, x3 = (v1 + r1) → ∀ x4 : Int32, x4 = v2 + 1 → (LX8_heldOfAll_4 P K N) x3 x4 q2)))
def w_X8_heldOfAll (q : aS) (P : Int32 → aS → Prop) : Prop := ∃ M7, LX8_heldOfAll_4 P (fun y5 q6 => P y5 q6) M7 0 0 q
def LX8_dampOfAll_4 (P : Int32 → aS → Prop) (K : Int32 → aS → Prop) : Nat → Int32 → Int32 → aS → Prop
  | 0, _, _, _ => False
  | N + 1, v1, v2, q => (((q.1 2 0) ≤ v2 → K v1 q) ∧ (¬ (q.1 2 0) ≤ v2 → (vp_in v2 6 ∧ ∀ x1 : Int32, x1 = (v1 + (q.1 4 (Int32.toNatClampNeg v2))) → ∀ x2 : Int32, x2 = v2 + 1 → (LX8_dampOfAll_4 P K N) x1 x2 q)))
def w_X8_dampOfAll (q : aS) (P : Int32 → aS → Prop) : Prop := ∃ M5, LX8_dampOfAll_4 P (fun y3 q4 => P y3 q4) M5 0 0 q
def LX8_versesOfAll_4 (P : Int32 → aS → Prop) (K : Int32 → aS → Prop) : Nat → Int32 → Int32 → aS → Prop
  | 0, _, _, _ => False
  | N + 1, v1, v2, q => (((q.1 2 0) ≤ v2 → K v1 q) ∧ (¬ (q.1 2 0) ≤ v2 → (vp_in v2 6 ∧ ∀ x1 : Int32, x1 = (v1 + (q.1 5 (Int32.toNatClampNeg v2))) → ∀ x2 : Int32, x2 = v2 + 1 → (LX8_versesOfAll_4 P K N) x1 x2 q)))
def w_X8_versesOfAll (q : aS) (P : Int32 → aS → Prop) : Prop := ∃ M5, LX8_versesOfAll_4 P (fun y3 q4 => P y3 q4) M5 0 0 q
def LX8_tonesOfAll_4 (P : Int32 → aS → Prop) (K : Int32 → aS → Prop) : Nat → Int32 → Int32 → aS → Prop
  | 0, _, _, _ => False
  | N + 1, v1, v2, q => (((q.1 6 0) ≤ v2 → K v1 q) ∧ (¬ (q.1 6 0) ≤ v2 → (vp_in v2 8 ∧ ∀ x1 : Int32, x1 = (v1 + (q.1 11 (Int32.toNatClampNeg v2))) → ∀ x2 : Int32, x2 = v2 + 1 → (LX8_tonesOfAll_4 P K N) x1 x2 q)))
def w_X8_tonesOfAll (q : aS) (P : Int32 → aS → Prop) : Prop := ∃ M5, LX8_tonesOfAll_4 P (fun y3 q4 => P y3 q4) M5 0 0 q
set_option maxRecDepth 20000 in
theorem t_X8_hasRoom {l : Launch} {g : aG} (hX : isX g) (hl : l.stackTraces = false) (x1 : Int32) (q : aS) (P : Int32 → aS → Prop) (h : w_X8_hasRoom x1 q P) : aMi l g yX8_hasRoom (aWs yX8_hasRoom cX8_hasRoom 2 (some .boolean)) 0 0 0 [.ref (gAd g 1), .int x1] q (fun r u => (r = 0 ∨ r = 1) ∧ P r u) (fun _ _ => False) := by
  refine aMi_of RX8 ⟨by decide +kernel, rfl⟩ (cat_all rfl) (Nat.le_of_ble_eq_true rfl) hl hX.cl (fun f hR hC hE => ?_)
  show AW f g 0 [some (.ref (gAd g 1)), some (.int x1)] [] q 0 0
  unfold w_X8_hasRoom at h
  refine a_iload_n (pc := 0) hC dX8_hasRoom_0 rfl ?_
  refine a_if_lt (pc := 1) (tgt := 19) hC dX8_hasRoom_1 (by decide) (fun c => ?_) (fun c => ?_)
  · replace h := h.1 c
    refine a_iconst (pc := 19) hC dX8_hasRoom_19 (v := 0) rfl ?_
    exact a_bret (pc := 20) hC hE (Or.inl rfl) h (Nat.le_of_ble_eq_true rfl) (Nat.le_of_ble_eq_true rfl) dX8_hasRoom_20
  · replace h := h.2 c
    refine a_iload_n (pc := 4) hC dX8_hasRoom_4 rfl ?_
    refine a_aload_n (pc := 5) hC dX8_hasRoom_5 rfl ?_
    refine a_get (pc := 6) hC cl_X8 (oX_1 hX) 0 (by decide) tw_150 rfl dX8_hasRoom_6 ?_
    refine a_get (pc := 9) hC cl_X6 (oX_2 hX) 0 (by decide) tw_55 rfl dX8_hasRoom_9 ?_
    refine a_icmp_ge (pc := 12) (tgt := 19) hC dX8_hasRoom_12 (by decide) (fun c => ?_) (fun c => ?_)
    · replace h := h.1 c
      refine a_iconst (pc := 19) hC dX8_hasRoom_19 (v := 0) rfl ?_
      exact a_bret (pc := 20) hC hE (Or.inl rfl) h (Nat.le_of_ble_eq_true rfl) (Nat.le_of_ble_eq_true rfl) dX8_hasRoom_20
    · replace h := h.2 c
      refine a_iconst (pc := 15) hC dX8_hasRoom_15 (v := 1) rfl ?_
      refine a_goto (pc := 16) (tgt := 20) hC dX8_hasRoom_16 (by decide) ?_
      exact a_bret (pc := 20) hC hE (Or.inr rfl) h (Nat.le_of_ble_eq_true rfl) (Nat.le_of_ble_eq_true rfl) dX8_hasRoom_20
set_option maxRecDepth 20000 in
theorem t_X8_hasEcho {l : Launch} {g : aG} (hX : isX g) (hl : l.stackTraces = false) (x1 : Int32) (q : aS) (P : Int32 → aS → Prop) (h : w_X8_hasEcho x1 q P) : aMi l g yX8_hasEcho (aWs yX8_hasEcho cX8_hasEcho 2 (some .boolean)) 0 0 0 [.ref (gAd g 1), .int x1] q (fun r u => (r = 0 ∨ r = 1) ∧ P r u) (fun _ _ => False) := by
  refine aMi_of RX8 ⟨by decide +kernel, rfl⟩ (cat_all rfl) (Nat.le_of_ble_eq_true rfl) hl hX.cl (fun f hR hC hE => ?_)
  show AW f g 0 [some (.ref (gAd g 1)), some (.int x1)] [] q 0 0
  unfold w_X8_hasEcho at h
  refine a_iload_n (pc := 0) hC dX8_hasEcho_0 rfl ?_
  refine a_if_lt (pc := 1) (tgt := 19) hC dX8_hasEcho_1 (by decide) (fun c => ?_) (fun c => ?_)
  · replace h := h.1 c
    refine a_iconst (pc := 19) hC dX8_hasEcho_19 (v := 0) rfl ?_
    exact a_bret (pc := 20) hC hE (Or.inl rfl) h (Nat.le_of_ble_eq_true rfl) (Nat.le_of_ble_eq_true rfl) dX8_hasEcho_20
  · replace h := h.2 c
    refine a_iload_n (pc := 4) hC dX8_hasEcho_4 rfl ?_
    refine a_aload_n (pc := 5) hC dX8_hasEcho_5 rfl ?_
    refine a_get (pc := 6) hC cl_X8 (oX_1 hX) 1 (by decide) tw_152 rfl dX8_hasEcho_6 ?_
    refine a_get (pc := 9) hC cl_X1 (oX_6 hX) 0 (by decide) tw_83 rfl dX8_hasEcho_9 ?_
    refine a_icmp_ge (pc := 12) (tgt := 19) hC dX8_hasEcho_12 (by decide) (fun c => ?_) (fun c => ?_)
    · replace h := h.1 c
      refine a_iconst (pc := 19) hC dX8_hasEcho_19 (v := 0) rfl ?_
      exact a_bret (pc := 20) hC hE (Or.inl rfl) h (Nat.le_of_ble_eq_true rfl) (Nat.le_of_ble_eq_true rfl) dX8_hasEcho_20
    · replace h := h.2 c
      refine a_iconst (pc := 15) hC dX8_hasEcho_15 (v := 1) rfl ?_
      refine a_goto (pc := 16) (tgt := 20) hC dX8_hasEcho_16 (by decide) ?_
      exact a_bret (pc := 20) hC hE (Or.inr rfl) h (Nat.le_of_ble_eq_true rfl) (Nat.le_of_ble_eq_true rfl) dX8_hasEcho_20
set_option maxRecDepth 20000 in
theorem t_X8_hasSinger {l : Launch} {g : aG} (hX : isX g) (hl : l.stackTraces = false) (x1 : Int32) (q : aS) (P : Int32 → aS → Prop) (h : w_X8_hasSinger x1 q P) : aMi l g yX8_hasSinger (aWs yX8_hasSinger cX8_hasSinger 2 (some .boolean)) 0 0 0 [.ref (gAd g 1), .int x1] q (fun r u => (r = 0 ∨ r = 1) ∧ P r u) (fun _ _ => False) := by
  refine aMi_of RX8 ⟨by decide +kernel, rfl⟩ (cat_all rfl) (Nat.le_of_ble_eq_true rfl) hl hX.cl (fun f hR hC hE => ?_)
  show AW f g 0 [some (.ref (gAd g 1)), some (.int x1)] [] q 0 0
  unfold w_X8_hasSinger at h
  refine a_iload_n (pc := 0) hC dX8_hasSinger_0 rfl ?_
  refine a_if_lt (pc := 1) (tgt := 19) hC dX8_hasSinger_1 (by decide) (fun c => ?_) (fun c => ?_)
  · replace h := h.1 c
    refine a_iconst (pc := 19) hC dX8_hasSinger_19 (v := 0) rfl ?_
    exact a_bret (pc := 20) hC hE (Or.inl rfl) h (Nat.le_of_ble_eq_true rfl) (Nat.le_of_ble_eq_true rfl) dX8_hasSinger_20
  · replace h := h.2 c
    refine a_iload_n (pc := 4) hC dX8_hasSinger_4 rfl ?_
    refine a_aload_n (pc := 5) hC dX8_hasSinger_5 rfl ?_
    refine a_get (pc := 6) hC cl_X8 (oX_1 hX) 2 (by decide) tw_154 rfl dX8_hasSinger_6 ?_
    refine a_get (pc := 9) hC cl_X7 (oX_12 hX) 0 (by decide) tw_120 rfl dX8_hasSinger_9 ?_
    refine a_icmp_ge (pc := 12) (tgt := 19) hC dX8_hasSinger_12 (by decide) (fun c => ?_) (fun c => ?_)
    · replace h := h.1 c
      refine a_iconst (pc := 19) hC dX8_hasSinger_19 (v := 0) rfl ?_
      exact a_bret (pc := 20) hC hE (Or.inl rfl) h (Nat.le_of_ble_eq_true rfl) (Nat.le_of_ble_eq_true rfl) dX8_hasSinger_20
    · replace h := h.2 c
      refine a_iconst (pc := 15) hC dX8_hasSinger_15 (v := 1) rfl ?_
      refine a_goto (pc := 16) (tgt := 20) hC dX8_hasSinger_16 (by decide) ?_
      exact a_bret (pc := 20) hC hE (Or.inr rfl) h (Nat.le_of_ble_eq_true rfl) (Nat.le_of_ble_eq_true rfl) dX8_hasSinger_20
set_option maxRecDepth 20000 in
theorem t_X8_isInside {l : Launch} {g : aG} (hX : isX g) (hl : l.stackTraces = false) (x1 : Int32) (q : aS) (P : Int32 → aS → Prop) (h : w_X8_isInside x1 q P) : aMi l g yX8_isInside (aWs yX8_isInside cX8_isInside 2 (some .boolean)) 0 0 0 [.ref (gAd g 1), .int x1] q (fun r u => (r = 0 ∨ r = 1) ∧ P r u) (fun _ _ => False) := by
  refine aMi_of RX8 ⟨by decide +kernel, rfl⟩ (cat_all rfl) (Nat.le_of_ble_eq_true rfl) hl hX.cl (fun f hR hC hE => ?_)
  show AW f g 0 [some (.ref (gAd g 1)), some (.int x1)] [] q 0 0
  unfold w_X8_isInside at h
  refine a_aload_n (pc := 0) hC dX8_isInside_0 rfl ?_
  refine a_get (pc := 1) hC cl_X8 (oX_1 hX) 2 (by decide) tw_154 rfl dX8_isInside_1 ?_
  refine a_get (pc := 4) hC cl_X7 (oX_12 hX) 3 (by decide) tw_129 rfl dX8_isInside_4 ?_
  refine a_iload_n (pc := 7) hC dX8_isInside_7 rfl ?_
  refine a_iald (pc := 8) hC (oX_15 hX) h.1 dX8_isInside_8 ?_
  replace h := h.2
  refine a_iconst (pc := 9) hC dX8_isInside_9 (v := (-1)) rfl ?_
  refine a_icmp_eq (pc := 10) (tgt := 17) hC dX8_isInside_10 (by decide) (fun c => ?_) (fun c => ?_)
  · replace h := h.1 c
    refine a_iconst (pc := 17) hC dX8_isInside_17 (v := 0) rfl ?_
    exact a_bret (pc := 18) hC hE (Or.inl rfl) h (Nat.le_of_ble_eq_true rfl) (Nat.le_of_ble_eq_true rfl) dX8_isInside_18
  · replace h := h.2 c
    refine a_iconst (pc := 13) hC dX8_isInside_13 (v := 1) rfl ?_
    refine a_goto (pc := 14) (tgt := 18) hC dX8_isInside_14 (by decide) ?_
    exact a_bret (pc := 18) hC hE (Or.inr rfl) h (Nat.le_of_ble_eq_true rfl) (Nat.le_of_ble_eq_true rfl) dX8_isInside_18
set_option maxRecDepth 20000 in
theorem t_X8_isLet {l : Launch} {g : aG} (hX : isX g) (hl : l.stackTraces = false) (x1 : Int32) (q : aS) (P : Int32 → aS → Prop) (h : w_X8_isLet x1 q P) : aMi l g yX8_isLet (aWs yX8_isLet cX8_isLet 2 (some .boolean)) 0 0 0 [.ref (gAd g 1), .int x1] q (fun r u => (r = 0 ∨ r = 1) ∧ P r u) (fun _ _ => False) := by
  refine aMi_of RX8 ⟨by decide +kernel, rfl⟩ (cat_all rfl) (Nat.le_of_ble_eq_true rfl) hl hX.cl (fun f hR hC hE => ?_)
  show AW f g 0 [some (.ref (gAd g 1)), some (.int x1)] [] q 0 0
  unfold w_X8_isLet at h
  refine a_aload_n (pc := 0) hC dX8_isLet_0 rfl ?_
  refine a_get (pc := 1) hC cl_X8 (oX_1 hX) 1 (by decide) tw_152 rfl dX8_isLet_1 ?_
  refine a_get (pc := 4) hC cl_X1 (oX_6 hX) 3 (by decide) tw_92 rfl dX8_isLet_4 ?_
  refine a_iload_n (pc := 7) hC dX8_isLet_7 rfl ?_
  refine a_iald (pc := 8) hC (oX_9 hX) h.1 dX8_isLet_8 ?_
  replace h := h.2
  refine a_iconst (pc := 9) hC dX8_isLet_9 (v := (-1)) rfl ?_
  refine a_icmp_eq (pc := 10) (tgt := 17) hC dX8_isLet_10 (by decide) (fun c => ?_) (fun c => ?_)
  · replace h := h.1 c
    refine a_iconst (pc := 17) hC dX8_isLet_17 (v := 0) rfl ?_
    exact a_bret (pc := 18) hC hE (Or.inl rfl) h (Nat.le_of_ble_eq_true rfl) (Nat.le_of_ble_eq_true rfl) dX8_isLet_18
  · replace h := h.2 c
    refine a_iconst (pc := 13) hC dX8_isLet_13 (v := 1) rfl ?_
    refine a_goto (pc := 14) (tgt := 18) hC dX8_isLet_14 (by decide) ?_
    exact a_bret (pc := 18) hC hE (Or.inr rfl) h (Nat.le_of_ble_eq_true rfl) (Nat.le_of_ble_eq_true rfl) dX8_isLet_18
set_option maxRecDepth 20000 in
theorem t_X8_isWithEcho {l : Launch} {g : aG} (hX : isX g) (hl : l.stackTraces = false) (x1 : Int32) (x2 : Int32) (q : aS) (P : Int32 → aS → Prop) (h : w_X8_isWithEcho x1 x2 q P) : aMi l g yX8_isWithEcho (aWs yX8_isWithEcho cX8_isWithEcho 3 (some .boolean)) 0 0 0 [.ref (gAd g 1), .int x1, .int x2] q (fun r u => (r = 0 ∨ r = 1) ∧ P r u) (fun _ _ => False) := by
  refine aMi_of RX8 ⟨by decide +kernel, rfl⟩ (cat_all rfl) (Nat.le_of_ble_eq_true rfl) hl hX.cl (fun f hR hC hE => ?_)
  show AW f g 0 [some (.ref (gAd g 1)), some (.int x1), some (.int x2)] [] q 0 0
  unfold w_X8_isWithEcho at h
  refine a_aload_n (pc := 0) hC dX8_isWithEcho_0 rfl ?_
  refine a_get (pc := 1) hC cl_X8 (oX_1 hX) 2 (by decide) tw_154 rfl dX8_isWithEcho_1 ?_
  refine a_get (pc := 4) hC cl_X7 (oX_12 hX) 3 (by decide) tw_129 rfl dX8_isWithEcho_4 ?_
  refine a_iload_n (pc := 7) hC dX8_isWithEcho_7 rfl ?_
  refine a_iald (pc := 8) hC (oX_15 hX) h.1 dX8_isWithEcho_8 ?_
  replace h := h.2
  refine a_aload_n (pc := 9) hC dX8_isWithEcho_9 rfl ?_
  refine a_get (pc := 10) hC cl_X8 (oX_1 hX) 1 (by decide) tw_152 rfl dX8_isWithEcho_10 ?_
  refine a_get (pc := 13) hC cl_X1 (oX_6 hX) 1 (by decide) tw_86 rfl dX8_isWithEcho_13 ?_
  refine a_iload_n (pc := 16) hC dX8_isWithEcho_16 rfl ?_
  refine a_iald (pc := 17) hC (oX_7 hX) h.1 dX8_isWithEcho_17 ?_
  replace h := h.2
  refine a_icmp_ne (pc := 18) (tgt := 25) hC dX8_isWithEcho_18 (by decide) (fun c => ?_) (fun c => ?_)
  · replace h := h.1 c
    refine a_iconst (pc := 25) hC dX8_isWithEcho_25 (v := 0) rfl ?_
    exact a_bret (pc := 26) hC hE (Or.inl rfl) h (Nat.le_of_ble_eq_true rfl) (Nat.le_of_ble_eq_true rfl) dX8_isWithEcho_26
  · replace h := h.2 c
    refine a_iconst (pc := 21) hC dX8_isWithEcho_21 (v := 1) rfl ?_
    refine a_goto (pc := 22) (tgt := 26) hC dX8_isWithEcho_22 (by decide) ?_
    exact a_bret (pc := 26) hC hE (Or.inr rfl) h (Nat.le_of_ble_eq_true rfl) (Nat.le_of_ble_eq_true rfl) dX8_isWithEcho_26
set_option maxRecDepth 20000 in
theorem t_X8_canPayFor {l : Launch} {g : aG} (hX : isX g) (hl : l.stackTraces = false) (x1 : Int32) (x2 : Int32) (q : aS) (P : Int32 → aS → Prop) (h : w_X8_canPayFor x1 x2 q P) : aMi l g yX8_canPayFor (aWs yX8_canPayFor cX8_canPayFor 3 (some .boolean)) 0 0 0 [.ref (gAd g 1), .int x1, .int x2] q (fun r u => (r = 0 ∨ r = 1) ∧ P r u) (fun _ _ => False) := by
  refine aMi_of RX8 ⟨by decide +kernel, rfl⟩ (cat_all rfl) (Nat.le_of_ble_eq_true rfl) hl hX.cl (fun f hR hC hE => ?_)
  show AW f g 0 [some (.ref (gAd g 1)), some (.int x1), some (.int x2)] [] q 0 0
  unfold w_X8_canPayFor at h
  refine a_aload_n (pc := 0) hC dX8_canPayFor_0 rfl ?_
  refine a_get (pc := 1) hC cl_X8 (oX_1 hX) 2 (by decide) tw_154 rfl dX8_canPayFor_1 ?_
  refine a_get (pc := 4) hC cl_X7 (oX_12 hX) 2 (by decide) tw_126 rfl dX8_canPayFor_4 ?_
  refine a_iload_n (pc := 7) hC dX8_canPayFor_7 rfl ?_
  refine a_iald (pc := 8) hC (oX_14 hX) h.1 dX8_canPayFor_8 ?_
  replace h := h.2
  refine a_aload_n (pc := 9) hC dX8_canPayFor_9 rfl ?_
  refine a_get (pc := 10) hC cl_X8 (oX_1 hX) 1 (by decide) tw_152 rfl dX8_canPayFor_10 ?_
  refine a_get (pc := 13) hC cl_X1 (oX_6 hX) 2 (by decide) tw_89 rfl dX8_canPayFor_13 ?_
  refine a_iload_n (pc := 16) hC dX8_canPayFor_16 rfl ?_
  refine a_iald (pc := 17) hC (oX_8 hX) h.1 dX8_canPayFor_17 ?_
  replace h := h.2
  refine a_icmp_lt (pc := 18) (tgt := 25) hC dX8_canPayFor_18 (by decide) (fun c => ?_) (fun c => ?_)
  · replace h := h.1 c
    refine a_iconst (pc := 25) hC dX8_canPayFor_25 (v := 0) rfl ?_
    exact a_bret (pc := 26) hC hE (Or.inl rfl) h (Nat.le_of_ble_eq_true rfl) (Nat.le_of_ble_eq_true rfl) dX8_canPayFor_26
  · replace h := h.2 c
    refine a_iconst (pc := 21) hC dX8_canPayFor_21 (v := 1) rfl ?_
    refine a_goto (pc := 22) (tgt := 26) hC dX8_canPayFor_22 (by decide) ?_
    exact a_bret (pc := 26) hC hE (Or.inr rfl) h (Nat.le_of_ble_eq_true rfl) (Nat.le_of_ble_eq_true rfl) dX8_canPayFor_26
set_option maxRecDepth 20000 in
theorem tLX8_singersIn_4 {f : aF} {g : aG} (hX : isX g) (P : Int32 → aS → Prop) (hR : f_R f = aR 0 0 0) (hC : aOK f g cX8_singersIn 4 RX8) (hE : aEi f g .int P (fun _ _ => False) 0 0) (c1 : Int32) {K : Int32 → aS → Prop} (hK : ∀ (w2 : Int32) (q : aS), K w2 q → AW f g 40 [none, none, some (.int w2), none] [] q 0 0) : ∀ (N : Nat) (v2 : Int32) (v3 : Int32) (q : aS), LX8_singersIn_4 c1 P K N v2 v3 q → AW f g 4 [some (.ref (gAd g 1)), some (.int c1), some (.int v2), some (.int v3)] [] q 0 0 := by
  intro N
  induction N with
  | zero =>
    intro v2 v3 q h
    exact h.elim
  | succ N ih =>
    intro v2 v3 q h
    unfold LX8_singersIn_4 at h
    refine a_iload_n (pc := 4) hC dX8_singersIn_4 rfl ?_
    refine a_aload_n (pc := 5) hC dX8_singersIn_5 rfl ?_
    refine a_get (pc := 6) hC cl_X8 (oX_1 hX) 2 (by decide) tw_154 rfl dX8_singersIn_6 ?_
    refine a_get (pc := 9) hC cl_X7 (oX_12 hX) 0 (by decide) tw_120 rfl dX8_singersIn_9 ?_
    refine a_icmp_ge (pc := 12) (tgt := 40) hC dX8_singersIn_12 (by decide) (fun c => ?_) (fun c => ?_)
    · replace h := h.1 c
      exact (hK _ _ h).forget ⟨rfl, trivial⟩
    · replace h := h.2 c
      refine a_aload_n (pc := 15) hC dX8_singersIn_15 rfl ?_
      refine a_get (pc := 16) hC cl_X8 (oX_1 hX) 2 (by decide) tw_154 rfl dX8_singersIn_16 ?_
      refine a_get (pc := 19) hC cl_X7 (oX_12 hX) 3 (by decide) tw_129 rfl dX8_singersIn_19 ?_
      refine a_iload_n (pc := 22) hC dX8_singersIn_22 rfl ?_
      refine a_iald (pc := 23) hC (oX_15 hX) h.1 dX8_singersIn_23 ?_
      replace h := h.2
      refine a_iload_n (pc := 24) hC dX8_singersIn_24 rfl ?_
      refine a_icmp_ne (pc := 25) (tgt := 34) hC dX8_singersIn_25 (by decide) (fun c => ?_) (fun c => ?_)
      · replace h := h.1 c
        refine a_iinc (pc := 34) hC dX8_singersIn_34 rfl (c := 1) rfl ?_
        replace h := h _ rfl
        refine a_goto (pc := 37) (tgt := 4) hC dX8_singersIn_37 (by decide) ?_
        exact (ih _ _ _ h).forget ⟨rfl, rfl, rfl, rfl, trivial⟩
      · replace h := h.2 c
        refine a_iload_n (pc := 28) hC dX8_singersIn_28 rfl ?_
        refine a_iconst (pc := 29) hC dX8_singersIn_29 (v := 1) rfl ?_
        refine a_iload_n (pc := 30) hC dX8_singersIn_30 rfl ?_
        refine a_ishl (pc := 31) hC dX8_singersIn_31 ?_
        refine a_ior (pc := 32) hC dX8_singersIn_32 ?_
        refine a_istore_n (pc := 33) hC dX8_singersIn_33 (Nat.le_of_ble_eq_true rfl) ?_
        replace h := h _ rfl
        refine a_iinc (pc := 34) hC dX8_singersIn_34 rfl (c := 1) rfl ?_
        replace h := h _ rfl
        refine a_goto (pc := 37) (tgt := 4) hC dX8_singersIn_37 (by decide) ?_
        exact (ih _ _ _ h).forget ⟨rfl, rfl, rfl, rfl, trivial⟩
set_option maxRecDepth 20000 in
theorem t_X8_singersIn {l : Launch} {g : aG} (hX : isX g) (hl : l.stackTraces = false) (x1 : Int32) (q : aS) (P : Int32 → aS → Prop) (h : w_X8_singersIn x1 q P) : aMi l g yX8_singersIn (aWs yX8_singersIn cX8_singersIn 4 (some .int)) 0 0 0 [.ref (gAd g 1), .int x1] q P (fun _ _ => False) := by
  refine aMi_of RX8 ⟨by decide +kernel, rfl⟩ (cat_all rfl) (Nat.le_of_ble_eq_true rfl) hl hX.cl (fun f hR hC hE => ?_)
  show AW f g 0 [some (.ref (gAd g 1)), some (.int x1), none, none] [] q 0 0
  unfold w_X8_singersIn at h
  refine a_iconst (pc := 0) hC dX8_singersIn_0 (v := 0) rfl ?_
  refine a_istore_n (pc := 1) hC dX8_singersIn_1 (Nat.le_of_ble_eq_true rfl) ?_
  refine a_iconst (pc := 2) hC dX8_singersIn_2 (v := 0) rfl ?_
  refine a_istore_n (pc := 3) hC dX8_singersIn_3 (Nat.le_of_ble_eq_true rfl) ?_
  obtain ⟨N, h⟩ := h
  refine (tLX8_singersIn_4 hX P hR hC hE _ (fun y5 q6 h => ?_) N _ _ _ h).forget ⟨rfl, rfl, rfl, rfl, trivial⟩
  refine a_iload_n (pc := 40) hC dX8_singersIn_40 rfl ?_
  exact a_iret (pc := 41) hC hE h (Nat.le_of_ble_eq_true rfl) (Nat.le_of_ble_eq_true rfl) dX8_singersIn_41
set_option maxRecDepth 20000 in
theorem tLX8_echoesIn_4 {f : aF} {g : aG} (hX : isX g) (P : Int32 → aS → Prop) (hR : f_R f = aR 0 0 0) (hC : aOK f g cX8_echoesIn 4 RX8) (hE : aEi f g .int P (fun _ _ => False) 0 0) (c1 : Int32) {K : Int32 → aS → Prop} (hK : ∀ (w2 : Int32) (q : aS), K w2 q → AW f g 40 [none, none, some (.int w2), none] [] q 0 0) : ∀ (N : Nat) (v2 : Int32) (v3 : Int32) (q : aS), LX8_echoesIn_4 c1 P K N v2 v3 q → AW f g 4 [some (.ref (gAd g 1)), some (.int c1), some (.int v2), some (.int v3)] [] q 0 0 := by
  intro N
  induction N with
  | zero =>
    intro v2 v3 q h
    exact h.elim
  | succ N ih =>
    intro v2 v3 q h
    unfold LX8_echoesIn_4 at h
    refine a_iload_n (pc := 4) hC dX8_echoesIn_4 rfl ?_
    refine a_aload_n (pc := 5) hC dX8_echoesIn_5 rfl ?_
    refine a_get (pc := 6) hC cl_X8 (oX_1 hX) 1 (by decide) tw_152 rfl dX8_echoesIn_6 ?_
    refine a_get (pc := 9) hC cl_X1 (oX_6 hX) 0 (by decide) tw_83 rfl dX8_echoesIn_9 ?_
    refine a_icmp_ge (pc := 12) (tgt := 40) hC dX8_echoesIn_12 (by decide) (fun c => ?_) (fun c => ?_)
    · replace h := h.1 c
      exact (hK _ _ h).forget ⟨rfl, trivial⟩
    · replace h := h.2 c
      refine a_aload_n (pc := 15) hC dX8_echoesIn_15 rfl ?_
      refine a_get (pc := 16) hC cl_X8 (oX_1 hX) 1 (by decide) tw_152 rfl dX8_echoesIn_16 ?_
      refine a_get (pc := 19) hC cl_X1 (oX_6 hX) 1 (by decide) tw_86 rfl dX8_echoesIn_19 ?_
      refine a_iload_n (pc := 22) hC dX8_echoesIn_22 rfl ?_
      refine a_iald (pc := 23) hC (oX_7 hX) h.1 dX8_echoesIn_23 ?_
      replace h := h.2
      refine a_iload_n (pc := 24) hC dX8_echoesIn_24 rfl ?_
      refine a_icmp_ne (pc := 25) (tgt := 34) hC dX8_echoesIn_25 (by decide) (fun c => ?_) (fun c => ?_)
      · replace h := h.1 c
        refine a_iinc (pc := 34) hC dX8_echoesIn_34 rfl (c := 1) rfl ?_
        replace h := h _ rfl
        refine a_goto (pc := 37) (tgt := 4) hC dX8_echoesIn_37 (by decide) ?_
        exact (ih _ _ _ h).forget ⟨rfl, rfl, rfl, rfl, trivial⟩
      · replace h := h.2 c
        refine a_iload_n (pc := 28) hC dX8_echoesIn_28 rfl ?_
        refine a_iconst (pc := 29) hC dX8_echoesIn_29 (v := 1) rfl ?_
        refine a_iload_n (pc := 30) hC dX8_echoesIn_30 rfl ?_
        refine a_ishl (pc := 31) hC dX8_echoesIn_31 ?_
        refine a_ior (pc := 32) hC dX8_echoesIn_32 ?_
        refine a_istore_n (pc := 33) hC dX8_echoesIn_33 (Nat.le_of_ble_eq_true rfl) ?_
        replace h := h _ rfl
        refine a_iinc (pc := 34) hC dX8_echoesIn_34 rfl (c := 1) rfl ?_
        replace h := h _ rfl
        refine a_goto (pc := 37) (tgt := 4) hC dX8_echoesIn_37 (by decide) ?_
        exact (ih _ _ _ h).forget ⟨rfl, rfl, rfl, rfl, trivial⟩
set_option maxRecDepth 20000 in
theorem t_X8_echoesIn {l : Launch} {g : aG} (hX : isX g) (hl : l.stackTraces = false) (x1 : Int32) (q : aS) (P : Int32 → aS → Prop) (h : w_X8_echoesIn x1 q P) : aMi l g yX8_echoesIn (aWs yX8_echoesIn cX8_echoesIn 4 (some .int)) 0 0 0 [.ref (gAd g 1), .int x1] q P (fun _ _ => False) := by
  refine aMi_of RX8 ⟨by decide +kernel, rfl⟩ (cat_all rfl) (Nat.le_of_ble_eq_true rfl) hl hX.cl (fun f hR hC hE => ?_)
  show AW f g 0 [some (.ref (gAd g 1)), some (.int x1), none, none] [] q 0 0
  unfold w_X8_echoesIn at h
  refine a_iconst (pc := 0) hC dX8_echoesIn_0 (v := 0) rfl ?_
  refine a_istore_n (pc := 1) hC dX8_echoesIn_1 (Nat.le_of_ble_eq_true rfl) ?_
  refine a_iconst (pc := 2) hC dX8_echoesIn_2 (v := 0) rfl ?_
  refine a_istore_n (pc := 3) hC dX8_echoesIn_3 (Nat.le_of_ble_eq_true rfl) ?_
  obtain ⟨N, h⟩ := h
  refine (tLX8_echoesIn_4 hX P hR hC hE _ (fun y5 q6 h => ?_) N _ _ _ h).forget ⟨rfl, rfl, rfl, rfl, trivial⟩
  refine a_iload_n (pc := 40) hC dX8_echoesIn_40 rfl ?_
  exact a_iret (pc := 41) hC hE h (Nat.le_of_ble_eq_true rfl) (Nat.le_of_ble_eq_true rfl) dX8_echoesIn_41
set_option maxRecDepth 20000 in
theorem t_X8_isFull {l : Launch} {g : aG} (hX : isX g) (hl : l.stackTraces = false) (x1 : Int32) (q : aS) (P : Int32 → aS → Prop) (h : w_X8_isFull x1 q P) : aMi l g yX8_isFull (aWs yX8_isFull cX8_isFull 2 (some .boolean)) 1 0 0 [.ref (gAd g 1), .int x1] q (fun r u => (r = 0 ∨ r = 1) ∧ P r u) (fun _ _ => False) := by
  refine aMi_of RX8 ⟨by decide +kernel, rfl⟩ (cat_all rfl) (Nat.le_of_ble_eq_true rfl) hl hX.cl (fun f hR hC hE => ?_)
  show AW f g 0 [some (.ref (gAd g 1)), some (.int x1)] [] q 0 0
  unfold w_X8_isFull at h
  refine a_aload_n (pc := 0) hC dX8_isFull_0 rfl ?_
  refine a_iload_n (pc := 1) hC dX8_isFull_1 rfl ?_
  refine a_callV (pc := 2) hC hR vm_X8_singersIn tw_725 cl_X8 (oX_1 hX) ⟨(Nat.le_of_ble_eq_true rfl), (Nat.le_of_ble_eq_true rfl), (Nat.le_of_ble_eq_true rfl), (Nat.le_of_ble_eq_true rfl)⟩ dX8_isFull_2 (t_X8_singersIn hX hC.tr _ _ _ h) rfl rfl rfl (Nat.le_of_ble_eq_true rfl) (fun r2 q3 h => ?_)
  refine a_callS (pc := 5) hC hR sm_J6_bitCount_0f7a4 tw_726 ⟨(Nat.le_of_ble_eq_true rfl), (Nat.le_of_ble_eq_true rfl), (Nat.le_of_ble_eq_true rfl), (Nat.le_of_ble_eq_true rfl)⟩ dX8_isFull_5 (t_J6_bitCount_0f7a4 hX.cl hC.tr _ _ _ h) rfl rfl rfl (Nat.le_of_ble_eq_true rfl) (fun r4 q5 h => ?_)
  refine a_aload_n (pc := 8) hC dX8_isFull_8 rfl ?_
  refine a_get (pc := 9) hC cl_X8 (oX_1 hX) 0 (by decide) tw_150 rfl dX8_isFull_9 ?_
  refine a_get (pc := 12) hC cl_X6 (oX_2 hX) 1 (by decide) tw_58 rfl dX8_isFull_12 ?_
  refine a_iload_n (pc := 15) hC dX8_isFull_15 rfl ?_
  refine a_iald (pc := 16) hC (oX_3 hX) h.1 dX8_isFull_16 ?_
  replace h := h.2
  refine a_icmp_lt (pc := 17) (tgt := 24) hC dX8_isFull_17 (by decide) (fun c => ?_) (fun c => ?_)
  · replace h := h.1 c
    refine a_iconst (pc := 24) hC dX8_isFull_24 (v := 0) rfl ?_
    exact a_bret (pc := 25) hC hE (Or.inl rfl) h (Nat.le_of_ble_eq_true rfl) (Nat.le_of_ble_eq_true rfl) dX8_isFull_25
  · replace h := h.2 c
    refine a_iconst (pc := 20) hC dX8_isFull_20 (v := 1) rfl ?_
    refine a_goto (pc := 21) (tgt := 25) hC dX8_isFull_21 (by decide) ?_
    exact a_bret (pc := 25) hC hE (Or.inr rfl) h (Nat.le_of_ble_eq_true rfl) (Nat.le_of_ble_eq_true rfl) dX8_isFull_25
set_option maxRecDepth 20000 in
theorem t_X8_isTooShyFor {l : Launch} {g : aG} (hX : isX g) (hl : l.stackTraces = false) (x1 : Int32) (x2 : Int32) (q : aS) (P : Int32 → aS → Prop) (h : w_X8_isTooShyFor x1 x2 q P) : aMi l g yX8_isTooShyFor (aWs yX8_isTooShyFor cX8_isTooShyFor 3 (some .boolean)) 1 0 0 [.ref (gAd g 1), .int x1, .int x2] q (fun r u => (r = 0 ∨ r = 1) ∧ P r u) (fun _ _ => False) := by
  refine aMi_of RX8 ⟨by decide +kernel, rfl⟩ (cat_all rfl) (Nat.le_of_ble_eq_true rfl) hl hX.cl (fun f hR hC hE => ?_)
  show AW f g 0 [some (.ref (gAd g 1)), some (.int x1), some (.int x2)] [] q 0 0
  unfold w_X8_isTooShyFor at h
  refine a_aload_n (pc := 0) hC dX8_isTooShyFor_0 rfl ?_
  refine a_iload_n (pc := 1) hC dX8_isTooShyFor_1 rfl ?_
  refine a_callV (pc := 2) hC hR vm_X8_singersIn tw_725 cl_X8 (oX_1 hX) ⟨(Nat.le_of_ble_eq_true rfl), (Nat.le_of_ble_eq_true rfl), (Nat.le_of_ble_eq_true rfl), (Nat.le_of_ble_eq_true rfl)⟩ dX8_isTooShyFor_2 (t_X8_singersIn hX hC.tr _ _ _ h) rfl rfl rfl (Nat.le_of_ble_eq_true rfl) (fun r3 q4 h => ?_)
  refine a_callS (pc := 5) hC hR sm_J6_bitCount_0f7a4 tw_726 ⟨(Nat.le_of_ble_eq_true rfl), (Nat.le_of_ble_eq_true rfl), (Nat.le_of_ble_eq_true rfl), (Nat.le_of_ble_eq_true rfl)⟩ dX8_isTooShyFor_5 (t_J6_bitCount_0f7a4 hX.cl hC.tr _ _ _ h) rfl rfl rfl (Nat.le_of_ble_eq_true rfl) (fun r5 q6 h => ?_)
  refine a_bipush (pc := 8) hC dX8_isTooShyFor_8 (v := 9) rfl ?_
  refine a_aload_n (pc := 10) hC dX8_isTooShyFor_10 rfl ?_
  refine a_get (pc := 11) hC cl_X8 (oX_1 hX) 2 (by decide) tw_154 rfl dX8_isTooShyFor_11 ?_
  refine a_get (pc := 14) hC cl_X7 (oX_12 hX) 1 (by decide) tw_123 rfl dX8_isTooShyFor_14 ?_
  refine a_iload_n (pc := 17) hC dX8_isTooShyFor_17 rfl ?_
  refine a_iald (pc := 18) hC (oX_13 hX) h.1 dX8_isTooShyFor_18 ?_
  replace h := h.2
  refine a_isub (pc := 19) hC dX8_isTooShyFor_19 ?_
  refine a_iconst (pc := 20) hC dX8_isTooShyFor_20 (v := 3) rfl ?_
  refine a_idiv (pc := 21) hC dX8_isTooShyFor_21 (by decide) ?_
  refine a_icmp_le (pc := 22) (tgt := 29) hC dX8_isTooShyFor_22 (by decide) (fun c => ?_) (fun c => ?_)
  · replace h := h.1 c
    refine a_iconst (pc := 29) hC dX8_isTooShyFor_29 (v := 0) rfl ?_
    exact a_bret (pc := 30) hC hE (Or.inl rfl) h (Nat.le_of_ble_eq_true rfl) (Nat.le_of_ble_eq_true rfl) dX8_isTooShyFor_30
  · replace h := h.2 c
    refine a_iconst (pc := 25) hC dX8_isTooShyFor_25 (v := 1) rfl ?_
    refine a_goto (pc := 26) (tgt := 30) hC dX8_isTooShyFor_26 (by decide) ?_
    exact a_bret (pc := 30) hC hE (Or.inr rfl) h (Nat.le_of_ble_eq_true rfl) (Nat.le_of_ble_eq_true rfl) dX8_isTooShyFor_30
set_option maxRecDepth 20000 in
theorem tLX8_freeIn_4 {f : aF} {g : aG} (hX : isX g) (P : Int32 → aS → Prop) (hR : f_R f = aR 1 0 0) (hC : aOK f g cX8_freeIn 4 RX8) (hE : aEi f g .int P (fun _ _ => False) 0 0) (c1 : Int32) {K : Int32 → aS → Prop} (hK : ∀ (w2 : Int32) (q : aS), K w2 q → AW f g 48 [none, none, some (.int w2), none] [] q 0 0) : ∀ (N : Nat) (v2 : Int32) (v3 : Int32) (q : aS), LX8_freeIn_4 c1 P K N v2 v3 q → AW f g 4 [some (.ref (gAd g 1)), some (.int c1), some (.int v2), some (.int v3)] [] q 0 0 := by
  intro N
  induction N with
  | zero =>
    intro v2 v3 q h
    exact h.elim
  | succ N ih =>
    intro v2 v3 q h
    unfold LX8_freeIn_4 at h
    refine a_iload_n (pc := 4) hC dX8_freeIn_4 rfl ?_
    refine a_aload_n (pc := 5) hC dX8_freeIn_5 rfl ?_
    refine a_get (pc := 6) hC cl_X8 (oX_1 hX) 1 (by decide) tw_152 rfl dX8_freeIn_6 ?_
    refine a_get (pc := 9) hC cl_X1 (oX_6 hX) 0 (by decide) tw_83 rfl dX8_freeIn_9 ?_
    refine a_icmp_ge (pc := 12) (tgt := 48) hC dX8_freeIn_12 (by decide) (fun c => ?_) (fun c => ?_)
    · replace h := h.1 c
      exact (hK _ _ h).forget ⟨rfl, trivial⟩
    · replace h := h.2 c
      refine a_aload_n (pc := 15) hC dX8_freeIn_15 rfl ?_
      refine a_get (pc := 16) hC cl_X8 (oX_1 hX) 1 (by decide) tw_152 rfl dX8_freeIn_16 ?_
      refine a_get (pc := 19) hC cl_X1 (oX_6 hX) 1 (by decide) tw_86 rfl dX8_freeIn_19 ?_
      refine a_iload_n (pc := 22) hC dX8_freeIn_22 rfl ?_
      refine a_iald (pc := 23) hC (oX_7 hX) h.1 dX8_freeIn_23 ?_
      replace h := h.2
      refine a_iload_n (pc := 24) hC dX8_freeIn_24 rfl ?_
      refine a_icmp_ne (pc := 25) (tgt := 42) hC dX8_freeIn_25 (by decide) (fun c => ?_) (fun c => ?_)
      · replace h := h.1 c
        refine a_iinc (pc := 42) hC dX8_freeIn_42 rfl (c := 1) rfl ?_
        replace h := h _ rfl
        refine a_goto (pc := 45) (tgt := 4) hC dX8_freeIn_45 (by decide) ?_
        exact (ih _ _ _ h).forget ⟨rfl, rfl, rfl, rfl, trivial⟩
      · replace h := h.2 c
        refine a_aload_n (pc := 28) hC dX8_freeIn_28 rfl ?_
        refine a_iload_n (pc := 29) hC dX8_freeIn_29 rfl ?_
        refine a_callV (pc := 30) hC hR vm_X8_isLet tw_505 cl_X8 (oX_1 hX) ⟨(Nat.le_of_ble_eq_true rfl), (Nat.le_of_ble_eq_true rfl), (Nat.le_of_ble_eq_true rfl), (Nat.le_of_ble_eq_true rfl)⟩ dX8_freeIn_30 (t_X8_isLet hX hC.tr _ _ _ h) rfl rfl rfl (Nat.le_of_ble_eq_true rfl) (fun r3 q4 h => ?_)
        have z_r3 := h.1
        replace h := h.2
        refine a_if_ne (pc := 33) (tgt := 42) hC dX8_freeIn_33 (by decide) (fun c => ?_) (fun c => ?_)
        · replace h := h.1 c
          refine a_iinc (pc := 42) hC dX8_freeIn_42 rfl (c := 1) rfl ?_
          replace h := h _ rfl
          refine a_goto (pc := 45) (tgt := 4) hC dX8_freeIn_45 (by decide) ?_
          exact (ih _ _ _ h).forget ⟨rfl, rfl, rfl, rfl, trivial⟩
        · replace h := h.2 c
          refine a_iload_n (pc := 36) hC dX8_freeIn_36 rfl ?_
          refine a_iconst (pc := 37) hC dX8_freeIn_37 (v := 1) rfl ?_
          refine a_iload_n (pc := 38) hC dX8_freeIn_38 rfl ?_
          refine a_ishl (pc := 39) hC dX8_freeIn_39 ?_
          refine a_ior (pc := 40) hC dX8_freeIn_40 ?_
          refine a_istore_n (pc := 41) hC dX8_freeIn_41 (Nat.le_of_ble_eq_true rfl) ?_
          replace h := h _ rfl
          refine a_iinc (pc := 42) hC dX8_freeIn_42 rfl (c := 1) rfl ?_
          replace h := h _ rfl
          refine a_goto (pc := 45) (tgt := 4) hC dX8_freeIn_45 (by decide) ?_
          exact (ih _ _ _ h).forget ⟨rfl, rfl, rfl, rfl, trivial⟩
set_option maxRecDepth 20000 in
theorem t_X8_freeIn {l : Launch} {g : aG} (hX : isX g) (hl : l.stackTraces = false) (x1 : Int32) (q : aS) (P : Int32 → aS → Prop) (h : w_X8_freeIn x1 q P) : aMi l g yX8_freeIn (aWs yX8_freeIn cX8_freeIn 4 (some .int)) 1 0 0 [.ref (gAd g 1), .int x1] q P (fun _ _ => False) := by
  refine aMi_of RX8 ⟨by decide +kernel, rfl⟩ (cat_all rfl) (Nat.le_of_ble_eq_true rfl) hl hX.cl (fun f hR hC hE => ?_)
  show AW f g 0 [some (.ref (gAd g 1)), some (.int x1), none, none] [] q 0 0
  unfold w_X8_freeIn at h
  refine a_iconst (pc := 0) hC dX8_freeIn_0 (v := 0) rfl ?_
  refine a_istore_n (pc := 1) hC dX8_freeIn_1 (Nat.le_of_ble_eq_true rfl) ?_
  refine a_iconst (pc := 2) hC dX8_freeIn_2 (v := 0) rfl ?_
  refine a_istore_n (pc := 3) hC dX8_freeIn_3 (Nat.le_of_ble_eq_true rfl) ?_
  obtain ⟨N, h⟩ := h
  refine (tLX8_freeIn_4 hX P hR hC hE _ (fun y8 q9 h => ?_) N _ _ _ h).forget ⟨rfl, rfl, rfl, rfl, trivial⟩
  refine a_iload_n (pc := 48) hC dX8_freeIn_48 rfl ?_
  exact a_iret (pc := 49) hC hE h (Nat.le_of_ble_eq_true rfl) (Nat.le_of_ble_eq_true rfl) dX8_freeIn_49
set_option maxRecDepth 20000 in
theorem t_X8_aboveDamp {l : Launch} {g : aG} (hX : isX g) (hl : l.stackTraces = false) (x1 : Int32) (q : aS) (P : Int32 → aS → Prop) (h : w_X8_aboveDamp x1 q P) : aMi l g yX8_aboveDamp (aWs yX8_aboveDamp cX8_aboveDamp 2 (some .int)) 1 0 0 [.ref (gAd g 1), .int x1] q P (fun _ _ => False) := by
  refine aMi_of RX8 ⟨by decide +kernel, rfl⟩ (cat_all rfl) (Nat.le_of_ble_eq_true rfl) hl hX.cl (fun f hR hC hE => ?_)
  show AW f g 0 [some (.ref (gAd g 1)), some (.int x1)] [] q 0 0
  unfold w_X8_aboveDamp at h
  refine a_iconst (pc := 0) hC dX8_aboveDamp_0 (v := 0) rfl ?_
  refine a_aload_n (pc := 1) hC dX8_aboveDamp_1 rfl ?_
  refine a_get (pc := 2) hC cl_X8 (oX_1 hX) 1 (by decide) tw_152 rfl dX8_aboveDamp_2 ?_
  refine a_get (pc := 5) hC cl_X1 (oX_6 hX) 2 (by decide) tw_89 rfl dX8_aboveDamp_5 ?_
  refine a_iload_n (pc := 8) hC dX8_aboveDamp_8 rfl ?_
  refine a_iald (pc := 9) hC (oX_8 hX) h.1 dX8_aboveDamp_9 ?_
  replace h := h.2
  refine a_aload_n (pc := 10) hC dX8_aboveDamp_10 rfl ?_
  refine a_get (pc := 11) hC cl_X8 (oX_1 hX) 0 (by decide) tw_150 rfl dX8_aboveDamp_11 ?_
  refine a_get (pc := 14) hC cl_X6 (oX_2 hX) 2 (by decide) tw_62 rfl dX8_aboveDamp_14 ?_
  refine a_aload_n (pc := 17) hC dX8_aboveDamp_17 rfl ?_
  refine a_get (pc := 18) hC cl_X8 (oX_1 hX) 1 (by decide) tw_152 rfl dX8_aboveDamp_18 ?_
  refine a_get (pc := 21) hC cl_X1 (oX_6 hX) 1 (by decide) tw_86 rfl dX8_aboveDamp_21 ?_
  refine a_iload_n (pc := 24) hC dX8_aboveDamp_24 rfl ?_
  refine a_iald (pc := 25) hC (oX_7 hX) h.1 dX8_aboveDamp_25 ?_
  replace h := h.2
  refine a_iald (pc := 26) hC (oX_4 hX) h.1 dX8_aboveDamp_26 ?_
  replace h := h.2
  refine a_isub (pc := 27) hC dX8_aboveDamp_27 ?_
  refine a_mmax (pc := 28) hC hR ⟨(Nat.le_of_ble_eq_true rfl), (Nat.le_of_ble_eq_true rfl), (Nat.le_of_ble_eq_true rfl)⟩ rfl tw_580 tw_581 tw_23 tw_582 (Nat.le_of_ble_eq_true rfl) dX8_aboveDamp_28 ?_
  exact a_iret (pc := 31) hC hE h (Nat.le_of_ble_eq_true rfl) (Nat.le_of_ble_eq_true rfl) dX8_aboveDamp_31
set_option maxRecDepth 20000 in
theorem t_X8_isHeard {l : Launch} {g : aG} (hX : isX g) (hl : l.stackTraces = false) (x1 : Int32) (x2 : Int32) (x3 : Int32) (q : aS) (P : Int32 → aS → Prop) (h : w_X8_isHeard x1 x2 x3 q P) : aMi l g yX8_isHeard (aWs yX8_isHeard cX8_isHeard 4 (some .boolean)) 0 0 0 [.ref (gAd g 1), .int x1, .int x2, .int x3] q (fun r u => (r = 0 ∨ r = 1) ∧ P r u) (fun _ _ => False) := by
  refine aMi_of RX8 ⟨by decide +kernel, rfl⟩ (cat_all rfl) (Nat.le_of_ble_eq_true rfl) hl hX.cl (fun f hR hC hE => ?_)
  show AW f g 0 [some (.ref (gAd g 1)), some (.int x1), some (.int x2), some (.int x3)] [] q 0 0
  unfold w_X8_isHeard at h
  refine a_aload_n (pc := 0) hC dX8_isHeard_0 rfl ?_
  refine a_get (pc := 1) hC cl_X8 (oX_1 hX) 1 (by decide) tw_152 rfl dX8_isHeard_1 ?_
  refine a_get (pc := 4) hC cl_X1 (oX_6 hX) 1 (by decide) tw_86 rfl dX8_isHeard_4 ?_
  refine a_iload_n (pc := 7) hC dX8_isHeard_7 rfl ?_
  refine a_iald (pc := 8) hC (oX_7 hX) h.1 dX8_isHeard_8 ?_
  replace h := h.2
  refine a_iload_n (pc := 9) hC dX8_isHeard_9 rfl ?_
  refine a_icmp_ne (pc := 10) (tgt := 30) hC dX8_isHeard_10 (by decide) (fun c => ?_) (fun c => ?_)
  · replace h := h.1 c
    refine a_iconst (pc := 30) hC dX8_isHeard_30 (v := 0) rfl ?_
    exact a_bret (pc := 31) hC hE (Or.inl rfl) h (Nat.le_of_ble_eq_true rfl) (Nat.le_of_ble_eq_true rfl) dX8_isHeard_31
  · replace h := h.2 c
    refine a_aload_n (pc := 13) hC dX8_isHeard_13 rfl ?_
    refine a_get (pc := 14) hC cl_X8 (oX_1 hX) 1 (by decide) tw_152 rfl dX8_isHeard_14 ?_
    refine a_get (pc := 17) hC cl_X1 (oX_6 hX) 3 (by decide) tw_92 rfl dX8_isHeard_17 ?_
    refine a_iload_n (pc := 20) hC dX8_isHeard_20 rfl ?_
    refine a_iald (pc := 21) hC (oX_9 hX) h.1 dX8_isHeard_21 ?_
    replace h := h.2
    refine a_iload_n (pc := 22) hC dX8_isHeard_22 rfl ?_
    refine a_icmp_ne (pc := 23) (tgt := 30) hC dX8_isHeard_23 (by decide) (fun c => ?_) (fun c => ?_)
    · replace h := h.1 c
      refine a_iconst (pc := 30) hC dX8_isHeard_30 (v := 0) rfl ?_
      exact a_bret (pc := 31) hC hE (Or.inl rfl) h (Nat.le_of_ble_eq_true rfl) (Nat.le_of_ble_eq_true rfl) dX8_isHeard_31
    · replace h := h.2 c
      refine a_iconst (pc := 26) hC dX8_isHeard_26 (v := 1) rfl ?_
      refine a_goto (pc := 27) (tgt := 31) hC dX8_isHeard_27 (by decide) ?_
      exact a_bret (pc := 31) hC hE (Or.inr rfl) h (Nat.le_of_ble_eq_true rfl) (Nat.le_of_ble_eq_true rfl) dX8_isHeard_31
set_option maxRecDepth 20000 in
theorem tLX8_tonesInRoom_5 {f : aF} {g : aG} (hX : isX g) (P : Int32 → aS → Prop) (hR : f_R f = aR 2 0 0) (hC : aOK f g cX8_tonesInRoom 5 RX8) (hE : aEi f g .int P (fun _ _ => False) 0 0) (c1 : Int32) (c2 : Int32) {K : Int32 → aS → Prop} (hK : ∀ (w3 : Int32) (q : aS), K w3 q → AW f g 43 [none, none, none, some (.int w3), none] [] q 0 0) : ∀ (N : Nat) (v3 : Int32) (v4 : Int32) (q : aS), LX8_tonesInRoom_5 c1 c2 P K N v3 v4 q → AW f g 5 [some (.ref (gAd g 1)), some (.int c1), some (.int c2), some (.int v3), some (.int v4)] [] q 0 0 := by
  intro N
  induction N with
  | zero =>
    intro v3 v4 q h
    exact h.elim
  | succ N ih =>
    intro v3 v4 q h
    unfold LX8_tonesInRoom_5 at h
    refine a_iload (pc := 5) hC dX8_tonesInRoom_5 rfl ?_
    refine a_aload_n (pc := 7) hC dX8_tonesInRoom_7 rfl ?_
    refine a_get (pc := 8) hC cl_X8 (oX_1 hX) 1 (by decide) tw_152 rfl dX8_tonesInRoom_8 ?_
    refine a_get (pc := 11) hC cl_X1 (oX_6 hX) 0 (by decide) tw_83 rfl dX8_tonesInRoom_11 ?_
    refine a_icmp_ge (pc := 14) (tgt := 43) hC dX8_tonesInRoom_14 (by decide) (fun c => ?_) (fun c => ?_)
    · replace h := h.1 c
      exact (hK _ _ h).forget ⟨rfl, trivial⟩
    · replace h := h.2 c
      refine a_aload_n (pc := 17) hC dX8_tonesInRoom_17 rfl ?_
      refine a_iload (pc := 18) hC dX8_tonesInRoom_18 rfl ?_
      refine a_iload_n (pc := 20) hC dX8_tonesInRoom_20 rfl ?_
      refine a_iload_n (pc := 21) hC dX8_tonesInRoom_21 rfl ?_
      refine a_callV (pc := 22) hC hR vm_X8_isHeard tw_572 cl_X8 (oX_1 hX) ⟨(Nat.le_of_ble_eq_true rfl), (Nat.le_of_ble_eq_true rfl), (Nat.le_of_ble_eq_true rfl), (Nat.le_of_ble_eq_true rfl)⟩ dX8_tonesInRoom_22 (t_X8_isHeard hX hC.tr _ _ _ _ _ h) rfl rfl rfl (Nat.le_of_ble_eq_true rfl) (fun r3 q4 h => ?_)
      have z_r3 := h.1
      replace h := h.2
      refine a_if_eq (pc := 25) (tgt := 37) hC dX8_tonesInRoom_25 (by decide) (fun c => ?_) (fun c => ?_)
      · replace h := h.1 c
        refine a_iinc (pc := 37) hC dX8_tonesInRoom_37 rfl (c := 1) rfl ?_
        replace h := h _ rfl
        refine a_goto (pc := 40) (tgt := 5) hC dX8_tonesInRoom_40 (by decide) ?_
        exact (ih _ _ _ h).forget ⟨rfl, rfl, rfl, rfl, rfl, trivial⟩
      · replace h := h.2 c
        refine a_iload_n (pc := 28) hC dX8_tonesInRoom_28 rfl ?_
        refine a_aload_n (pc := 29) hC dX8_tonesInRoom_29 rfl ?_
        refine a_iload (pc := 30) hC dX8_tonesInRoom_30 rfl ?_
        refine a_callV (pc := 32) hC hR vm_X8_aboveDamp tw_576 cl_X8 (oX_1 hX) ⟨(Nat.le_of_ble_eq_true rfl), (Nat.le_of_ble_eq_true rfl), (Nat.le_of_ble_eq_true rfl), (Nat.le_of_ble_eq_true rfl)⟩ dX8_tonesInRoom_32 (t_X8_aboveDamp hX hC.tr _ _ _ h) rfl rfl rfl (Nat.le_of_ble_eq_true rfl) (fun r6 q7 h => ?_)
        refine a_iadd (pc := 35) hC dX8_tonesInRoom_35 ?_
        refine a_istore_n (pc := 36) hC dX8_tonesInRoom_36 (Nat.le_of_ble_eq_true rfl) ?_
        replace h := h _ rfl
        refine a_iinc (pc := 37) hC dX8_tonesInRoom_37 rfl (c := 1) rfl ?_
        replace h := h _ rfl
        refine a_goto (pc := 40) (tgt := 5) hC dX8_tonesInRoom_40 (by decide) ?_
        exact (ih _ _ _ h).forget ⟨rfl, rfl, rfl, rfl, rfl, trivial⟩
set_option maxRecDepth 20000 in
theorem t_X8_tonesInRoom {l : Launch} {g : aG} (hX : isX g) (hl : l.stackTraces = false) (x1 : Int32) (x2 : Int32) (q : aS) (P : Int32 → aS → Prop) (h : w_X8_tonesInRoom x1 x2 q P) : aMi l g yX8_tonesInRoom (aWs yX8_tonesInRoom cX8_tonesInRoom 5 (some .int)) 2 0 0 [.ref (gAd g 1), .int x1, .int x2] q P (fun _ _ => False) := by
  refine aMi_of RX8 ⟨by decide +kernel, rfl⟩ (cat_all rfl) (Nat.le_of_ble_eq_true rfl) hl hX.cl (fun f hR hC hE => ?_)
  show AW f g 0 [some (.ref (gAd g 1)), some (.int x1), some (.int x2), none, none] [] q 0 0
  unfold w_X8_tonesInRoom at h
  refine a_iconst (pc := 0) hC dX8_tonesInRoom_0 (v := 0) rfl ?_
  refine a_istore_n (pc := 1) hC dX8_tonesInRoom_1 (Nat.le_of_ble_eq_true rfl) ?_
  refine a_iconst (pc := 2) hC dX8_tonesInRoom_2 (v := 0) rfl ?_
  refine a_istore (pc := 3) hC dX8_tonesInRoom_3 (Nat.le_of_ble_eq_true rfl) ?_
  obtain ⟨N, h⟩ := h
  refine (tLX8_tonesInRoom_5 hX P hR hC hE _ _ (fun y10 q11 h => ?_) N _ _ _ h).forget ⟨rfl, rfl, rfl, rfl, rfl, trivial⟩
  refine a_iload_n (pc := 43) hC dX8_tonesInRoom_43 rfl ?_
  exact a_iret (pc := 44) hC hE h (Nat.le_of_ble_eq_true rfl) (Nat.le_of_ble_eq_true rfl) dX8_tonesInRoom_44
set_option maxRecDepth 20000 in
theorem tLX8_countHeardOf_6 {f : aF} {g : aG} (hX : isX g) (P : Int32 → aS → Prop) (hR : f_R f = aR 1 0 0) (hC : aOK f g cX8_countHeardOf 6 RX8) (hE : aEi f g .int P (fun _ _ => False) 0 0) (c1 : Int32) (c2 : Int32) (c3 : Int32) {K : Int32 → aS → Prop} (hK : ∀ (w4 : Int32) (q : aS), K w4 q → AW f g 52 [none, none, none, none, some (.int w4), none] [] q 0 0) : ∀ (N : Nat) (v4 : Int32) (v5 : Int32) (q : aS), LX8_countHeardOf_6 c1 c2 c3 P K N v4 v5 q → AW f g 6 [some (.ref (gAd g 1)), some (.int c1), some (.int c2), some (.int c3), some (.int v4), some (.int v5)] [] q 0 0 := by
  intro N
  induction N with
  | zero =>
    intro v4 v5 q h
    exact h.elim
  | succ N ih =>
    intro v4 v5 q h
    unfold LX8_countHeardOf_6 at h
    refine a_iload (pc := 6) hC dX8_countHeardOf_6 rfl ?_
    refine a_aload_n (pc := 8) hC dX8_countHeardOf_8 rfl ?_
    refine a_get (pc := 9) hC cl_X8 (oX_1 hX) 1 (by decide) tw_152 rfl dX8_countHeardOf_9 ?_
    refine a_get (pc := 12) hC cl_X1 (oX_6 hX) 0 (by decide) tw_83 rfl dX8_countHeardOf_12 ?_
    refine a_icmp_ge (pc := 15) (tgt := 52) hC dX8_countHeardOf_15 (by decide) (fun c => ?_) (fun c => ?_)
    · replace h := h.1 c
      exact (hK _ _ h).forget ⟨rfl, trivial⟩
    · replace h := h.2 c
      refine a_aload_n (pc := 18) hC dX8_countHeardOf_18 rfl ?_
      refine a_iload (pc := 19) hC dX8_countHeardOf_19 rfl ?_
      refine a_iload_n (pc := 21) hC dX8_countHeardOf_21 rfl ?_
      refine a_iload_n (pc := 22) hC dX8_countHeardOf_22 rfl ?_
      refine a_callV (pc := 23) hC hR vm_X8_isHeard tw_572 cl_X8 (oX_1 hX) ⟨(Nat.le_of_ble_eq_true rfl), (Nat.le_of_ble_eq_true rfl), (Nat.le_of_ble_eq_true rfl), (Nat.le_of_ble_eq_true rfl)⟩ dX8_countHeardOf_23 (t_X8_isHeard hX hC.tr _ _ _ _ _ h) rfl rfl rfl (Nat.le_of_ble_eq_true rfl) (fun r4 q5 h => ?_)
      have z_r4 := h.1
      replace h := h.2
      refine a_if_eq (pc := 26) (tgt := 46) hC dX8_countHeardOf_26 (by decide) (fun c => ?_) (fun c => ?_)
      · replace h := h.1 c
        refine a_iinc (pc := 46) hC dX8_countHeardOf_46 rfl (c := 1) rfl ?_
        replace h := h _ rfl
        refine a_goto (pc := 49) (tgt := 6) hC dX8_countHeardOf_49 (by decide) ?_
        exact (ih _ _ _ h).forget ⟨rfl, rfl, rfl, rfl, rfl, rfl, trivial⟩
      · replace h := h.2 c
        refine a_aload_n (pc := 29) hC dX8_countHeardOf_29 rfl ?_
        refine a_get (pc := 30) hC cl_X8 (oX_1 hX) 1 (by decide) tw_152 rfl dX8_countHeardOf_30 ?_
        refine a_get (pc := 33) hC cl_X1 (oX_6 hX) 2 (by decide) tw_89 rfl dX8_countHeardOf_33 ?_
        refine a_iload (pc := 36) hC dX8_countHeardOf_36 rfl ?_
        refine a_iald (pc := 38) hC (oX_8 hX) h.1 dX8_countHeardOf_38 ?_
        replace h := h.2
        refine a_iload_n (pc := 39) hC dX8_countHeardOf_39 rfl ?_
        refine a_icmp_ne (pc := 40) (tgt := 46) hC dX8_countHeardOf_40 (by decide) (fun c => ?_) (fun c => ?_)
        · replace h := h.1 c
          refine a_iinc (pc := 46) hC dX8_countHeardOf_46 rfl (c := 1) rfl ?_
          replace h := h _ rfl
          refine a_goto (pc := 49) (tgt := 6) hC dX8_countHeardOf_49 (by decide) ?_
          exact (ih _ _ _ h).forget ⟨rfl, rfl, rfl, rfl, rfl, rfl, trivial⟩
        · replace h := h.2 c
          refine a_iinc (pc := 43) hC dX8_countHeardOf_43 rfl (c := 1) rfl ?_
          replace h := h _ rfl
          refine a_iinc (pc := 46) hC dX8_countHeardOf_46 rfl (c := 1) rfl ?_
          replace h := h _ rfl
          refine a_goto (pc := 49) (tgt := 6) hC dX8_countHeardOf_49 (by decide) ?_
          exact (ih _ _ _ h).forget ⟨rfl, rfl, rfl, rfl, rfl, rfl, trivial⟩
set_option maxRecDepth 20000 in
theorem t_X8_countHeardOf {l : Launch} {g : aG} (hX : isX g) (hl : l.stackTraces = false) (x1 : Int32) (x2 : Int32) (x3 : Int32) (q : aS) (P : Int32 → aS → Prop) (h : w_X8_countHeardOf x1 x2 x3 q P) : aMi l g yX8_countHeardOf (aWs yX8_countHeardOf cX8_countHeardOf 6 (some .int)) 1 0 0 [.ref (gAd g 1), .int x1, .int x2, .int x3] q P (fun _ _ => False) := by
  refine aMi_of RX8 ⟨by decide +kernel, rfl⟩ (cat_all rfl) (Nat.le_of_ble_eq_true rfl) hl hX.cl (fun f hR hC hE => ?_)
  show AW f g 0 [some (.ref (gAd g 1)), some (.int x1), some (.int x2), some (.int x3), none, none] [] q 0 0
  unfold w_X8_countHeardOf at h
  refine a_iconst (pc := 0) hC dX8_countHeardOf_0 (v := 0) rfl ?_
  refine a_istore (pc := 1) hC dX8_countHeardOf_1 (Nat.le_of_ble_eq_true rfl) ?_
  refine a_iconst (pc := 3) hC dX8_countHeardOf_3 (v := 0) rfl ?_
  refine a_istore (pc := 4) hC dX8_countHeardOf_4 (Nat.le_of_ble_eq_true rfl) ?_
  obtain ⟨N, h⟩ := h
  refine (tLX8_countHeardOf_6 hX P hR hC hE _ _ _ (fun y10 q11 h => ?_) N _ _ _ h).forget ⟨rfl, rfl, rfl, rfl, rfl, rfl, trivial⟩
  refine a_iload (pc := 52) hC dX8_countHeardOf_52 rfl ?_
  exact a_iret (pc := 54) hC hE h (Nat.le_of_ble_eq_true rfl) (Nat.le_of_ble_eq_true rfl) dX8_countHeardOf_54
set_option maxRecDepth 20000 in
theorem tLX8_tonesByStrength_25 {f : aF} {g : aG} (hX : isX g) (P : Int32 → aS → Prop) (hR : f_R f = aR 2 0 0) (hC : aOK f g cX8_tonesByStrength 5 RX8) (hE : aEi f g .int P (fun _ _ => False) 0 0) (c1 : Int32) (c2 : Int32) {K : Int32 → aS → Prop} (hK : ∀ (w3 : Int32) (q : aS), K w3 q → AW f g 62 [none, none, none, some (.int w3), none] [] q 0 0) : ∀ (N : Nat) (v3 : Int32) (v4 : Int32) (q : aS), LX8_tonesByStrength_25 c1 c2 P K N v3 v4 q → AW f g 25 [some (.ref (gAd g 1)), some (.int c1), some (.int c2), some (.int v3), some (.int v4)] [] q 0 0 := by
  intro N
  induction N with
  | zero =>
    intro v3 v4 q h
    exact h.elim
  | succ N ih =>
    intro v3 v4 q h
    unfold LX8_tonesByStrength_25 at h
    refine a_iload (pc := 25) hC dX8_tonesByStrength_25 rfl ?_
    refine a_bipush (pc := 27) hC dX8_tonesByStrength_27 (v := 9) rfl ?_
    refine a_icmp_gt (pc := 29) (tgt := 62) hC dX8_tonesByStrength_29 (by decide) (fun c => ?_) (fun c => ?_)
    · replace h := h.1 c
      exact (hK _ _ h).forget ⟨rfl, trivial⟩
    · replace h := h.2 c
      refine a_iload_n (pc := 32) hC dX8_tonesByStrength_32 rfl ?_
      refine a_aload_n (pc := 33) hC dX8_tonesByStrength_33 rfl ?_
      refine a_iload (pc := 34) hC dX8_tonesByStrength_34 rfl ?_
      refine a_iload_n (pc := 36) hC dX8_tonesByStrength_36 rfl ?_
      refine a_iload_n (pc := 37) hC dX8_tonesByStrength_37 rfl ?_
      refine a_callV (pc := 38) hC hR vm_X8_countHeardOf tw_1030 cl_X8 (oX_1 hX) ⟨(Nat.le_of_ble_eq_true rfl), (Nat.le_of_ble_eq_true rfl), (Nat.le_of_ble_eq_true rfl), (Nat.le_of_ble_eq_true rfl)⟩ dX8_tonesByStrength_38 (t_X8_countHeardOf hX hC.tr _ _ _ _ _ h) rfl rfl rfl (Nat.le_of_ble_eq_true rfl) (fun r4 q5 h => ?_)
      refine a_iload (pc := 41) hC dX8_tonesByStrength_41 rfl ?_
      refine a_aload_n (pc := 43) hC dX8_tonesByStrength_43 rfl ?_
      refine a_get (pc := 44) hC cl_X8 (oX_1 hX) 0 (by decide) tw_150 rfl dX8_tonesByStrength_44 ?_
      refine a_get (pc := 47) hC cl_X6 (oX_2 hX) 2 (by decide) tw_62 rfl dX8_tonesByStrength_47 ?_
      refine a_iload_n (pc := 50) hC dX8_tonesByStrength_50 rfl ?_
      refine a_iald (pc := 51) hC (oX_4 hX) h.1 dX8_tonesByStrength_51 ?_
      replace h := h.2
      refine a_isub (pc := 52) hC dX8_tonesByStrength_52 ?_
      refine a_imul (pc := 53) hC dX8_tonesByStrength_53 ?_
      refine a_iadd (pc := 54) hC dX8_tonesByStrength_54 ?_
      refine a_istore_n (pc := 55) hC dX8_tonesByStrength_55 (Nat.le_of_ble_eq_true rfl) ?_
      replace h := h _ rfl
      refine a_iinc (pc := 56) hC dX8_tonesByStrength_56 rfl (c := 1) rfl ?_
      replace h := h _ rfl
      refine a_goto (pc := 59) (tgt := 25) hC dX8_tonesByStrength_59 (by decide) ?_
      exact (ih _ _ _ h).forget ⟨rfl, rfl, rfl, rfl, rfl, trivial⟩
set_option maxRecDepth 20000 in
theorem t_X8_tonesByStrength {l : Launch} {g : aG} (hX : isX g) (hl : l.stackTraces = false) (x1 : Int32) (q : aS) (P : Int32 → aS → Prop) (h : w_X8_tonesByStrength x1 q P) : aMi l g yX8_tonesByStrength (aWs yX8_tonesByStrength cX8_tonesByStrength 5 (some .int)) 2 0 0 [.ref (gAd g 1), .int x1] q P (fun _ _ => False) := by
  refine aMi_of RX8 ⟨by decide +kernel, rfl⟩ (cat_all rfl) (Nat.le_of_ble_eq_true rfl) hl hX.cl (fun f hR hC hE => ?_)
  show AW f g 0 [some (.ref (gAd g 1)), some (.int x1), none, none, none] [] q 0 0
  unfold w_X8_tonesByStrength at h
  refine a_aload_n (pc := 0) hC dX8_tonesByStrength_0 rfl ?_
  refine a_get (pc := 1) hC cl_X8 (oX_1 hX) 2 (by decide) tw_154 rfl dX8_tonesByStrength_1 ?_
  refine a_get (pc := 4) hC cl_X7 (oX_12 hX) 3 (by decide) tw_129 rfl dX8_tonesByStrength_4 ?_
  refine a_iload_n (pc := 7) hC dX8_tonesByStrength_7 rfl ?_
  refine a_iald (pc := 8) hC (oX_15 hX) h.1 dX8_tonesByStrength_8 ?_
  replace h := h.2
  refine a_istore_n (pc := 9) hC dX8_tonesByStrength_9 (Nat.le_of_ble_eq_true rfl) ?_
  replace h := h _ rfl
  refine a_iconst (pc := 10) hC dX8_tonesByStrength_10 (v := 0) rfl ?_
  refine a_istore_n (pc := 11) hC dX8_tonesByStrength_11 (Nat.le_of_ble_eq_true rfl) ?_
  refine a_aload_n (pc := 12) hC dX8_tonesByStrength_12 rfl ?_
  refine a_get (pc := 13) hC cl_X8 (oX_1 hX) 0 (by decide) tw_150 rfl dX8_tonesByStrength_13 ?_
  refine a_get (pc := 16) hC cl_X6 (oX_2 hX) 2 (by decide) tw_62 rfl dX8_tonesByStrength_16 ?_
  refine a_iload_n (pc := 19) hC dX8_tonesByStrength_19 rfl ?_
  refine a_iald (pc := 20) hC (oX_4 hX) h.1 dX8_tonesByStrength_20 ?_
  replace h := h.2
  refine a_iconst (pc := 21) hC dX8_tonesByStrength_21 (v := 1) rfl ?_
  refine a_iadd (pc := 22) hC dX8_tonesByStrength_22 ?_
  refine a_istore (pc := 23) hC dX8_tonesByStrength_23 (Nat.le_of_ble_eq_true rfl) ?_
  replace h := h _ rfl
  obtain ⟨N, h⟩ := h
  refine (tLX8_tonesByStrength_25 hX P hR hC hE _ _ (fun y8 q9 h => ?_) N _ _ _ h).forget ⟨rfl, rfl, rfl, rfl, rfl, trivial⟩
  refine a_iload_n (pc := 62) hC dX8_tonesByStrength_62 rfl ?_
  exact a_iret (pc := 63) hC hE h (Nat.le_of_ble_eq_true rfl) (Nat.le_of_ble_eq_true rfl) dX8_tonesByStrength_63
set_option maxRecDepth 20000 in
theorem tLX8_tonesAfter_34 {f : aF} {g : aG} (hX : isX g) (P : Int32 → aS → Prop) (hR : f_R f = aR 1 0 0) (hC : aOK f g cX8_tonesAfter 7 RX8) (hE : aEi f g .int P (fun _ _ => False) 0 0) (c1 : Int32) (c2 : Int32) (c3 : Int32) (c4 : Int32) {K : Int32 → aS → Prop} (hK : ∀ (w5 : Int32) (q : aS), K w5 q → AW f g 99 [none, none, none, none, none, some (.int w5), none] [] q 0 0) : ∀ (N : Nat) (v5 : Int32) (v6 : Int32) (q : aS), LX8_tonesAfter_34 c1 c2 c3 c4 P K N v5 v6 q → AW f g 34 [some (.ref (gAd g 1)), some (.int c1), some (.int c2), some (.int c3), some (.int c4), some (.int v5), some (.int v6)] [] q 0 0 := by
  intro N
  induction N with
  | zero =>
    intro v5 v6 q h
    exact h.elim
  | succ N ih =>
    intro v5 v6 q h
    unfold LX8_tonesAfter_34 at h
    refine a_iload (pc := 34) hC dX8_tonesAfter_34 rfl ?_
    refine a_aload_n (pc := 36) hC dX8_tonesAfter_36 rfl ?_
    refine a_get (pc := 37) hC cl_X8 (oX_1 hX) 1 (by decide) tw_152 rfl dX8_tonesAfter_37 ?_
    refine a_get (pc := 40) hC cl_X1 (oX_6 hX) 0 (by decide) tw_83 rfl dX8_tonesAfter_40 ?_
    refine a_icmp_ge (pc := 43) (tgt := 99) hC dX8_tonesAfter_43 (by decide) (fun c => ?_) (fun c => ?_)
    · replace h := h.1 c
      exact (hK _ _ h).forget ⟨rfl, trivial⟩
    · replace h := h.2 c
      refine a_aload_n (pc := 46) hC dX8_tonesAfter_46 rfl ?_
      refine a_iload (pc := 47) hC dX8_tonesAfter_47 rfl ?_
      refine a_iload_n (pc := 49) hC dX8_tonesAfter_49 rfl ?_
      refine a_iload_n (pc := 50) hC dX8_tonesAfter_50 rfl ?_
      refine a_callV (pc := 51) hC hR vm_X8_isHeard tw_572 cl_X8 (oX_1 hX) ⟨(Nat.le_of_ble_eq_true rfl), (Nat.le_of_ble_eq_true rfl), (Nat.le_of_ble_eq_true rfl), (Nat.le_of_ble_eq_true rfl)⟩ dX8_tonesAfter_51 (t_X8_isHeard hX hC.tr _ _ _ _ _ h) rfl rfl rfl (Nat.le_of_ble_eq_true rfl) (fun r5 q6 h => ?_)
      have z_r5 := h.1
      replace h := h.2
      refine a_if_eq (pc := 54) (tgt := 93) hC dX8_tonesAfter_54 (by decide) (fun c => ?_) (fun c => ?_)
      · replace h := h.1 c
        refine a_iinc (pc := 93) hC dX8_tonesAfter_93 rfl (c := 1) rfl ?_
        replace h := h _ rfl
        refine a_goto (pc := 96) (tgt := 34) hC dX8_tonesAfter_96 (by decide) ?_
        exact (ih _ _ _ h).forget ⟨rfl, rfl, rfl, rfl, rfl, rfl, rfl, trivial⟩
      · replace h := h.2 c
        refine a_aload_n (pc := 57) hC dX8_tonesAfter_57 rfl ?_
        refine a_get (pc := 58) hC cl_X8 (oX_1 hX) 1 (by decide) tw_152 rfl dX8_tonesAfter_58 ?_
        refine a_get (pc := 61) hC cl_X1 (oX_6 hX) 4 (by decide) tw_96 rfl dX8_tonesAfter_61 ?_
        refine a_iload (pc := 64) hC dX8_tonesAfter_64 rfl ?_
        refine a_iald (pc := 66) hC (oX_10 hX) h.1 dX8_tonesAfter_66 ?_
        replace h := h.2
        refine a_iload_n (pc := 67) hC dX8_tonesAfter_67 rfl ?_
        refine a_icmp_le (pc := 68) (tgt := 93) hC dX8_tonesAfter_68 (by decide) (fun c => ?_) (fun c => ?_)
        · replace h := h.1 c
          refine a_iinc (pc := 93) hC dX8_tonesAfter_93 rfl (c := 1) rfl ?_
          replace h := h _ rfl
          refine a_goto (pc := 96) (tgt := 34) hC dX8_tonesAfter_96 (by decide) ?_
          exact (ih _ _ _ h).forget ⟨rfl, rfl, rfl, rfl, rfl, rfl, rfl, trivial⟩
        · replace h := h.2 c
          refine a_iload (pc := 71) hC dX8_tonesAfter_71 rfl ?_
          refine a_iconst (pc := 73) hC dX8_tonesAfter_73 (v := 0) rfl ?_
          refine a_aload_n (pc := 74) hC dX8_tonesAfter_74 rfl ?_
          refine a_get (pc := 75) hC cl_X8 (oX_1 hX) 1 (by decide) tw_152 rfl dX8_tonesAfter_75 ?_
          refine a_get (pc := 78) hC cl_X1 (oX_6 hX) 2 (by decide) tw_89 rfl dX8_tonesAfter_78 ?_
          refine a_iload (pc := 81) hC dX8_tonesAfter_81 rfl ?_
          refine a_iald (pc := 83) hC (oX_8 hX) h.1 dX8_tonesAfter_83 ?_
          replace h := h.2
          refine a_iload (pc := 84) hC dX8_tonesAfter_84 rfl ?_
          refine a_isub (pc := 86) hC dX8_tonesAfter_86 ?_
          refine a_mmax (pc := 87) hC hR ⟨(Nat.le_of_ble_eq_true rfl), (Nat.le_of_ble_eq_true rfl), (Nat.le_of_ble_eq_true rfl)⟩ rfl tw_580 tw_581 tw_23 tw_582 (Nat.le_of_ble_eq_true rfl) dX8_tonesAfter_87 ?_
          refine a_iadd (pc := 90) hC dX8_tonesAfter_90 ?_
          refine a_istore (pc := 91) hC dX8_tonesAfter_91 (Nat.le_of_ble_eq_true rfl) ?_
          replace h := h _ rfl
          refine a_iinc (pc := 93) hC dX8_tonesAfter_93 rfl (c := 1) rfl ?_
          replace h := h _ rfl
          refine a_goto (pc := 96) (tgt := 34) hC dX8_tonesAfter_96 (by decide) ?_
          exact (ih _ _ _ h).forget ⟨rfl, rfl, rfl, rfl, rfl, rfl, rfl, trivial⟩
set_option maxRecDepth 20000 in
theorem t_X8_tonesAfter {l : Launch} {g : aG} (hX : isX g) (hl : l.stackTraces = false) (x1 : Int32) (x2 : Int32) (q : aS) (P : Int32 → aS → Prop) (h : w_X8_tonesAfter x1 x2 q P) : aMi l g yX8_tonesAfter (aWs yX8_tonesAfter cX8_tonesAfter 7 (some .int)) 1 0 0 [.ref (gAd g 1), .int x1, .int x2] q P (fun _ _ => False) := by
  refine aMi_of RX8 ⟨by decide +kernel, rfl⟩ (cat_all rfl) (Nat.le_of_ble_eq_true rfl) hl hX.cl (fun f hR hC hE => ?_)
  show AW f g 0 [some (.ref (gAd g 1)), some (.int x1), some (.int x2), none, none, none, none] [] q 0 0
  unfold w_X8_tonesAfter at h
  refine a_aload_n (pc := 0) hC dX8_tonesAfter_0 rfl ?_
  refine a_get (pc := 1) hC cl_X8 (oX_1 hX) 2 (by decide) tw_154 rfl dX8_tonesAfter_1 ?_
  refine a_get (pc := 4) hC cl_X7 (oX_12 hX) 3 (by decide) tw_129 rfl dX8_tonesAfter_4 ?_
  refine a_iload_n (pc := 7) hC dX8_tonesAfter_7 rfl ?_
  refine a_iald (pc := 8) hC (oX_15 hX) h.1 dX8_tonesAfter_8 ?_
  replace h := h.2
  refine a_istore_n (pc := 9) hC dX8_tonesAfter_9 (Nat.le_of_ble_eq_true rfl) ?_
  replace h := h _ rfl
  refine a_bipush (pc := 10) hC dX8_tonesAfter_10 (v := 9) rfl ?_
  refine a_aload_n (pc := 12) hC dX8_tonesAfter_12 rfl ?_
  refine a_get (pc := 13) hC cl_X8 (oX_1 hX) 0 (by decide) tw_150 rfl dX8_tonesAfter_13 ?_
  refine a_get (pc := 16) hC cl_X6 (oX_2 hX) 2 (by decide) tw_62 rfl dX8_tonesAfter_16 ?_
  refine a_iload_n (pc := 19) hC dX8_tonesAfter_19 rfl ?_
  refine a_iald (pc := 20) hC (oX_4 hX) h.1 dX8_tonesAfter_20 ?_
  replace h := h.2
  refine a_iload_n (pc := 21) hC dX8_tonesAfter_21 rfl ?_
  refine a_iadd (pc := 22) hC dX8_tonesAfter_22 ?_
  refine a_mmin (pc := 23) hC hR ⟨(Nat.le_of_ble_eq_true rfl), (Nat.le_of_ble_eq_true rfl), (Nat.le_of_ble_eq_true rfl)⟩ rfl tw_595 tw_596 tw_23 tw_597 (Nat.le_of_ble_eq_true rfl) dX8_tonesAfter_23 ?_
  refine a_istore (pc := 26) hC dX8_tonesAfter_26 (Nat.le_of_ble_eq_true rfl) ?_
  replace h := h _ rfl
  refine a_iconst (pc := 28) hC dX8_tonesAfter_28 (v := 0) rfl ?_
  refine a_istore (pc := 29) hC dX8_tonesAfter_29 (Nat.le_of_ble_eq_true rfl) ?_
  refine a_iconst (pc := 31) hC dX8_tonesAfter_31 (v := 0) rfl ?_
  refine a_istore (pc := 32) hC dX8_tonesAfter_32 (Nat.le_of_ble_eq_true rfl) ?_
  obtain ⟨N, h⟩ := h
  refine (tLX8_tonesAfter_34 hX P hR hC hE _ _ _ _ (fun y11 q12 h => ?_) N _ _ _ h).forget ⟨rfl, rfl, rfl, rfl, rfl, rfl, rfl, trivial⟩
  refine a_iload (pc := 99) hC dX8_tonesAfter_99 rfl ?_
  exact a_iret (pc := 101) hC hE h (Nat.le_of_ble_eq_true rfl) (Nat.le_of_ble_eq_true rfl) dX8_tonesAfter_101
set_option maxRecDepth 20000 in
theorem tLX8_versesInThought_2 {f : aF} {g : aG} (hX : isX g) (P : Int32 → aS → Prop) (hR : f_R f = aR 2 0 0) (hC : aOK f g cX8_versesInThought 3 RX8) (hE : aEi f g .int P (fun _ _ => False) 0 0) (c1 : Int32) {K : Int32 → aS → Prop} (hK : ∀ (w2 : Int32) (q : aS), K w2 q → AW f g 23 [none, none, some (.int w2)] [] q 0 0) : ∀ (N : Nat) (v2 : Int32) (q : aS), LX8_versesInThought_2 c1 P K N v2 q → AW f g 2 [some (.ref (gAd g 1)), some (.int c1), some (.int v2)] [] q 0 0 := by
  intro N
  induction N with
  | zero =>
    intro v2 q h
    exact h.elim
  | succ N ih =>
    intro v2 q h
    unfold LX8_versesInThought_2 at h
    refine a_iload_n (pc := 2) hC dX8_versesInThought_2 rfl ?_
    refine a_bipush (pc := 3) hC dX8_versesInThought_3 (v := 9) rfl ?_
    refine a_icmp_ge (pc := 5) (tgt := 23) hC dX8_versesInThought_5 (by decide) (fun c => ?_) (fun c => ?_)
    · replace h := h.1 c
      exact (hK _ _ h).forget ⟨rfl, trivial⟩
    · replace h := h.2 c
      refine a_aload_n (pc := 8) hC dX8_versesInThought_8 rfl ?_
      refine a_iload_n (pc := 9) hC dX8_versesInThought_9 rfl ?_
      refine a_iload_n (pc := 10) hC dX8_versesInThought_10 rfl ?_
      refine a_callV (pc := 11) hC hR vm_X8_tonesAfter tw_591 cl_X8 (oX_1 hX) ⟨(Nat.le_of_ble_eq_true rfl), (Nat.le_of_ble_eq_true rfl), (Nat.le_of_ble_eq_true rfl), (Nat.le_of_ble_eq_true rfl)⟩ dX8_versesInThought_11 (t_X8_tonesAfter hX hC.tr _ _ _ _ h) rfl rfl rfl (Nat.le_of_ble_eq_true rfl) (fun r2 q3 h => ?_)
      refine a_if_le (pc := 14) (tgt := 23) hC dX8_versesInThought_14 (by decide) (fun c => ?_) (fun c => ?_)
      · replace h := h.1 c
        exact (hK _ _ h).forget ⟨rfl, trivial⟩
      · replace h := h.2 c
        refine a_iinc (pc := 17) hC dX8_versesInThought_17 rfl (c := 1) rfl ?_
        replace h := h _ rfl
        refine a_goto (pc := 20) (tgt := 2) hC dX8_versesInThought_20 (by decide) ?_
        exact (ih _ _ h).forget ⟨rfl, rfl, rfl, trivial⟩
set_option maxRecDepth 20000 in
theorem t_X8_versesInThought {l : Launch} {g : aG} (hX : isX g) (hl : l.stackTraces = false) (x1 : Int32) (q : aS) (P : Int32 → aS → Prop) (h : w_X8_versesInThought x1 q P) : aMi l g yX8_versesInThought (aWs yX8_versesInThought cX8_versesInThought 3 (some .int)) 2 0 0 [.ref (gAd g 1), .int x1] q P (fun _ _ => False) := by
  refine aMi_of RX8 ⟨by decide +kernel, rfl⟩ (cat_all rfl) (Nat.le_of_ble_eq_true rfl) hl hX.cl (fun f hR hC hE => ?_)
  show AW f g 0 [some (.ref (gAd g 1)), some (.int x1), none] [] q 0 0
  unfold w_X8_versesInThought at h
  refine a_iconst (pc := 0) hC dX8_versesInThought_0 (v := 0) rfl ?_
  refine a_istore_n (pc := 1) hC dX8_versesInThought_1 (Nat.le_of_ble_eq_true rfl) ?_
  obtain ⟨N, h⟩ := h
  refine (tLX8_versesInThought_2 hX P hR hC hE _ (fun y5 q6 h => ?_) N _ _ h).forget ⟨rfl, rfl, rfl, trivial⟩
  refine a_iload_n (pc := 23) hC dX8_versesInThought_23 rfl ?_
  exact a_iret (pc := 24) hC hE h (Nat.le_of_ble_eq_true rfl) (Nat.le_of_ble_eq_true rfl) dX8_versesInThought_24
set_option maxRecDepth 20000 in
theorem tLX8_versesByEcho_4 {f : aF} {g : aG} (hX : isX g) (P : Int32 → aS → Prop) (hR : f_R f = aR 2 0 0) (hC : aOK f g cX8_versesByEcho 4 RX8) (hE : aEi f g .int P (fun _ _ => False) 0 0) (c1 : Int32) {K : Int32 → aS → Prop} (hK : ∀ (w2 : Int32) (q : aS), K w2 q → AW f g 61 [none, none, some (.int w2), none] [] q 0 0) : ∀ (N : Nat) (v2 : Int32) (v3 : Int32) (q : aS), LX8_versesByEcho_4 c1 P K N v2 v3 q → AW f g 4 [some (.ref (gAd g 1)), some (.int c1), some (.int v2), some (.int v3)] [] q 0 0 := by
  intro N
  induction N with
  | zero =>
    intro v2 v3 q h
    exact h.elim
  | succ N ih =>
    intro v2 v3 q h
    unfold LX8_versesByEcho_4 at h
    refine a_iload_n (pc := 4) hC dX8_versesByEcho_4 rfl ?_
    refine a_aload_n (pc := 5) hC dX8_versesByEcho_5 rfl ?_
    refine a_get (pc := 6) hC cl_X8 (oX_1 hX) 1 (by decide) tw_152 rfl dX8_versesByEcho_6 ?_
    refine a_get (pc := 9) hC cl_X1 (oX_6 hX) 0 (by decide) tw_83 rfl dX8_versesByEcho_9 ?_
    refine a_icmp_ge (pc := 12) (tgt := 61) hC dX8_versesByEcho_12 (by decide) (fun c => ?_) (fun c => ?_)
    · replace h := h.1 c
      exact (hK _ _ h).forget ⟨rfl, trivial⟩
    · replace h := h.2 c
      refine a_aload_n (pc := 15) hC dX8_versesByEcho_15 rfl ?_
      refine a_iload_n (pc := 16) hC dX8_versesByEcho_16 rfl ?_
      refine a_iload_n (pc := 17) hC dX8_versesByEcho_17 rfl ?_
      refine a_aload_n (pc := 18) hC dX8_versesByEcho_18 rfl ?_
      refine a_get (pc := 19) hC cl_X8 (oX_1 hX) 2 (by decide) tw_154 rfl dX8_versesByEcho_19 ?_
      refine a_get (pc := 22) hC cl_X7 (oX_12 hX) 3 (by decide) tw_129 rfl dX8_versesByEcho_22 ?_
      refine a_iload_n (pc := 25) hC dX8_versesByEcho_25 rfl ?_
      refine a_iald (pc := 26) hC (oX_15 hX) h.1 dX8_versesByEcho_26 ?_
      replace h := h.2
      refine a_callV (pc := 27) hC hR vm_X8_isHeard tw_572 cl_X8 (oX_1 hX) ⟨(Nat.le_of_ble_eq_true rfl), (Nat.le_of_ble_eq_true rfl), (Nat.le_of_ble_eq_true rfl), (Nat.le_of_ble_eq_true rfl)⟩ dX8_versesByEcho_27 (t_X8_isHeard hX hC.tr _ _ _ _ _ h) rfl rfl rfl (Nat.le_of_ble_eq_true rfl) (fun r2 q3 h => ?_)
      have z_r2 := h.1
      replace h := h.2
      refine a_if_eq (pc := 30) (tgt := 55) hC dX8_versesByEcho_30 (by decide) (fun c => ?_) (fun c => ?_)
      · replace h := h.1 c
        refine a_iinc (pc := 55) hC dX8_versesByEcho_55 rfl (c := 1) rfl ?_
        replace h := h _ rfl
        refine a_goto (pc := 58) (tgt := 4) hC dX8_versesByEcho_58 (by decide) ?_
        exact (ih _ _ _ h).forget ⟨rfl, rfl, rfl, rfl, trivial⟩
      · replace h := h.2 c
        refine a_iload_n (pc := 33) hC dX8_versesByEcho_33 rfl ?_
        refine a_aload_n (pc := 34) hC dX8_versesByEcho_34 rfl ?_
        refine a_get (pc := 35) hC cl_X8 (oX_1 hX) 1 (by decide) tw_152 rfl dX8_versesByEcho_35 ?_
        refine a_get (pc := 38) hC cl_X1 (oX_6 hX) 4 (by decide) tw_96 rfl dX8_versesByEcho_38 ?_
        refine a_iload_n (pc := 41) hC dX8_versesByEcho_41 rfl ?_
        refine a_iald (pc := 42) hC (oX_10 hX) h.1 dX8_versesByEcho_42 ?_
        replace h := h.2
        refine a_aload_n (pc := 43) hC dX8_versesByEcho_43 rfl ?_
        refine a_iload_n (pc := 44) hC dX8_versesByEcho_44 rfl ?_
        refine a_callV (pc := 45) hC hR vm_X8_aboveDamp tw_576 cl_X8 (oX_1 hX) ⟨(Nat.le_of_ble_eq_true rfl), (Nat.le_of_ble_eq_true rfl), (Nat.le_of_ble_eq_true rfl), (Nat.le_of_ble_eq_true rfl)⟩ dX8_versesByEcho_45 (t_X8_aboveDamp hX hC.tr _ _ _ h) rfl rfl rfl (Nat.le_of_ble_eq_true rfl) (fun r5 q6 h => ?_)
        refine a_mmin (pc := 48) hC hR ⟨(Nat.le_of_ble_eq_true rfl), (Nat.le_of_ble_eq_true rfl), (Nat.le_of_ble_eq_true rfl)⟩ rfl tw_595 tw_596 tw_23 tw_597 (Nat.le_of_ble_eq_true rfl) dX8_versesByEcho_48 ?_
        refine a_mmax (pc := 51) hC hR ⟨(Nat.le_of_ble_eq_true rfl), (Nat.le_of_ble_eq_true rfl), (Nat.le_of_ble_eq_true rfl)⟩ rfl tw_580 tw_581 tw_23 tw_582 (Nat.le_of_ble_eq_true rfl) dX8_versesByEcho_51 ?_
        refine a_istore_n (pc := 54) hC dX8_versesByEcho_54 (Nat.le_of_ble_eq_true rfl) ?_
        replace h := h _ rfl
        refine a_iinc (pc := 55) hC dX8_versesByEcho_55 rfl (c := 1) rfl ?_
        replace h := h _ rfl
        refine a_goto (pc := 58) (tgt := 4) hC dX8_versesByEcho_58 (by decide) ?_
        exact (ih _ _ _ h).forget ⟨rfl, rfl, rfl, rfl, trivial⟩
set_option maxRecDepth 20000 in
theorem t_X8_versesByEcho {l : Launch} {g : aG} (hX : isX g) (hl : l.stackTraces = false) (x1 : Int32) (q : aS) (P : Int32 → aS → Prop) (h : w_X8_versesByEcho x1 q P) : aMi l g yX8_versesByEcho (aWs yX8_versesByEcho cX8_versesByEcho 4 (some .int)) 2 0 0 [.ref (gAd g 1), .int x1] q P (fun _ _ => False) := by
  refine aMi_of RX8 ⟨by decide +kernel, rfl⟩ (cat_all rfl) (Nat.le_of_ble_eq_true rfl) hl hX.cl (fun f hR hC hE => ?_)
  show AW f g 0 [some (.ref (gAd g 1)), some (.int x1), none, none] [] q 0 0
  unfold w_X8_versesByEcho at h
  refine a_iconst (pc := 0) hC dX8_versesByEcho_0 (v := 0) rfl ?_
  refine a_istore_n (pc := 1) hC dX8_versesByEcho_1 (Nat.le_of_ble_eq_true rfl) ?_
  refine a_iconst (pc := 2) hC dX8_versesByEcho_2 (v := 0) rfl ?_
  refine a_istore_n (pc := 3) hC dX8_versesByEcho_3 (Nat.le_of_ble_eq_true rfl) ?_
  obtain ⟨N, h⟩ := h
  refine (tLX8_versesByEcho_4 hX P hR hC hE _ (fun y9 q10 h => ?_) N _ _ _ h).forget ⟨rfl, rfl, rfl, rfl, trivial⟩
  refine a_iload_n (pc := 61) hC dX8_versesByEcho_61 rfl ?_
  exact a_iret (pc := 62) hC hE h (Nat.le_of_ble_eq_true rfl) (Nat.le_of_ble_eq_true rfl) dX8_versesByEcho_62
set_option maxRecDepth 20000 in
theorem tLX8_countLetTo_4 {f : aF} {g : aG} (hX : isX g) (P : Int32 → aS → Prop) (hR : f_R f = aR 0 0 0) (hC : aOK f g cX8_countLetTo 4 RX8) (hE : aEi f g .int P (fun _ _ => False) 0 0) (c1 : Int32) {K : Int32 → aS → Prop} (hK : ∀ (w2 : Int32) (q : aS), K w2 q → AW f g 37 [none, none, some (.int w2), none] [] q 0 0) : ∀ (N : Nat) (v2 : Int32) (v3 : Int32) (q : aS), LX8_countLetTo_4 c1 P K N v2 v3 q → AW f g 4 [some (.ref (gAd g 1)), some (.int c1), some (.int v2), some (.int v3)] [] q 0 0 := by
  intro N
  induction N with
  | zero =>
    intro v2 v3 q h
    exact h.elim
  | succ N ih =>
    intro v2 v3 q h
    unfold LX8_countLetTo_4 at h
    refine a_iload_n (pc := 4) hC dX8_countLetTo_4 rfl ?_
    refine a_aload_n (pc := 5) hC dX8_countLetTo_5 rfl ?_
    refine a_get (pc := 6) hC cl_X8 (oX_1 hX) 1 (by decide) tw_152 rfl dX8_countLetTo_6 ?_
    refine a_get (pc := 9) hC cl_X1 (oX_6 hX) 0 (by decide) tw_83 rfl dX8_countLetTo_9 ?_
    refine a_icmp_ge (pc := 12) (tgt := 37) hC dX8_countLetTo_12 (by decide) (fun c => ?_) (fun c => ?_)
    · replace h := h.1 c
      exact (hK _ _ h).forget ⟨rfl, trivial⟩
    · replace h := h.2 c
      refine a_aload_n (pc := 15) hC dX8_countLetTo_15 rfl ?_
      refine a_get (pc := 16) hC cl_X8 (oX_1 hX) 1 (by decide) tw_152 rfl dX8_countLetTo_16 ?_
      refine a_get (pc := 19) hC cl_X1 (oX_6 hX) 3 (by decide) tw_92 rfl dX8_countLetTo_19 ?_
      refine a_iload_n (pc := 22) hC dX8_countLetTo_22 rfl ?_
      refine a_iald (pc := 23) hC (oX_9 hX) h.1 dX8_countLetTo_23 ?_
      replace h := h.2
      refine a_iload_n (pc := 24) hC dX8_countLetTo_24 rfl ?_
      refine a_icmp_ne (pc := 25) (tgt := 31) hC dX8_countLetTo_25 (by decide) (fun c => ?_) (fun c => ?_)
      · replace h := h.1 c
        refine a_iinc (pc := 31) hC dX8_countLetTo_31 rfl (c := 1) rfl ?_
        replace h := h _ rfl
        refine a_goto (pc := 34) (tgt := 4) hC dX8_countLetTo_34 (by decide) ?_
        exact (ih _ _ _ h).forget ⟨rfl, rfl, rfl, rfl, trivial⟩
      · replace h := h.2 c
        refine a_iinc (pc := 28) hC dX8_countLetTo_28 rfl (c := 1) rfl ?_
        replace h := h _ rfl
        refine a_iinc (pc := 31) hC dX8_countLetTo_31 rfl (c := 1) rfl ?_
        replace h := h _ rfl
        refine a_goto (pc := 34) (tgt := 4) hC dX8_countLetTo_34 (by decide) ?_
        exact (ih _ _ _ h).forget ⟨rfl, rfl, rfl, rfl, trivial⟩
set_option maxRecDepth 20000 in
theorem t_X8_countLetTo {l : Launch} {g : aG} (hX : isX g) (hl : l.stackTraces = false) (x1 : Int32) (q : aS) (P : Int32 → aS → Prop) (h : w_X8_countLetTo x1 q P) : aMi l g yX8_countLetTo (aWs yX8_countLetTo cX8_countLetTo 4 (some .int)) 0 0 0 [.ref (gAd g 1), .int x1] q P (fun _ _ => False) := by
  refine aMi_of RX8 ⟨by decide +kernel, rfl⟩ (cat_all rfl) (Nat.le_of_ble_eq_true rfl) hl hX.cl (fun f hR hC hE => ?_)
  show AW f g 0 [some (.ref (gAd g 1)), some (.int x1), none, none] [] q 0 0
  unfold w_X8_countLetTo at h
  refine a_iconst (pc := 0) hC dX8_countLetTo_0 (v := 0) rfl ?_
  refine a_istore_n (pc := 1) hC dX8_countLetTo_1 (Nat.le_of_ble_eq_true rfl) ?_
  refine a_iconst (pc := 2) hC dX8_countLetTo_2 (v := 0) rfl ?_
  refine a_istore_n (pc := 3) hC dX8_countLetTo_3 (Nat.le_of_ble_eq_true rfl) ?_
  obtain ⟨N, h⟩ := h
  refine (tLX8_countLetTo_4 hX P hR hC hE _ (fun y5 q6 h => ?_) N _ _ _ h).forget ⟨rfl, rfl, rfl, rfl, trivial⟩
  refine a_iload_n (pc := 37) hC dX8_countLetTo_37 rfl ?_
  exact a_iret (pc := 38) hC hE h (Nat.le_of_ble_eq_true rfl) (Nat.le_of_ble_eq_true rfl) dX8_countLetTo_38
set_option maxRecDepth 20000 in
theorem t_X8_countLet {l : Launch} {g : aG} (hX : isX g) (hl : l.stackTraces = false) (q : aS) (P : Int32 → aS → Prop) (h : w_X8_countLet q P) : aMi l g yX8_countLet (aWs yX8_countLet cX8_countLet 1 (some .int)) 1 0 0 [.ref (gAd g 1)] q P (fun _ _ => False) := by
  refine aMi_of RX8 ⟨by decide +kernel, rfl⟩ (cat_all rfl) (Nat.le_of_ble_eq_true rfl) hl hX.cl (fun f hR hC hE => ?_)
  show AW f g 0 [some (.ref (gAd g 1))] [] q 0 0
  unfold w_X8_countLet at h
  refine a_aload_n (pc := 0) hC dX8_countLet_0 rfl ?_
  refine a_get (pc := 1) hC cl_X8 (oX_1 hX) 1 (by decide) tw_152 rfl dX8_countLet_1 ?_
  refine a_get (pc := 4) hC cl_X1 (oX_6 hX) 0 (by decide) tw_83 rfl dX8_countLet_4 ?_
  refine a_aload_n (pc := 7) hC dX8_countLet_7 rfl ?_
  refine a_iconst (pc := 8) hC dX8_countLet_8 (v := (-1)) rfl ?_
  refine a_callV (pc := 9) hC hR vm_X8_countLetTo tw_335 cl_X8 (oX_1 hX) ⟨(Nat.le_of_ble_eq_true rfl), (Nat.le_of_ble_eq_true rfl), (Nat.le_of_ble_eq_true rfl), (Nat.le_of_ble_eq_true rfl)⟩ dX8_countLet_9 (t_X8_countLetTo hX hC.tr _ _ _ h) rfl rfl rfl (Nat.le_of_ble_eq_true rfl) (fun r1 q2 h => ?_)
  refine a_isub (pc := 12) hC dX8_countLet_12 ?_
  exact a_iret (pc := 13) hC hE h (Nat.le_of_ble_eq_true rfl) (Nat.le_of_ble_eq_true rfl) dX8_countLet_13
set_option maxRecDepth 20000 in
theorem tLX8_heldOf_4 {f : aF} {g : aG} (hX : isX g) (P : Int32 → aS → Prop) (hR : f_R f = aR 0 0 0) (hC : aOK f g cX8_heldOf 4 RX8) (hE : aEi f g .int P (fun _ _ => False) 0 0) (c1 : Int32) {K : Int32 → aS → Prop} (hK : ∀ (w2 : Int32) (q : aS), K w2 q → AW f g 46 [none, none, some (.int w2), none] [] q 0 0) : ∀ (N : Nat) (v2 : Int32) (v3 : Int32) (q : aS), LX8_heldOf_4 c1 P K N v2 v3 q → AW f g 4 [some (.ref (gAd g 1)), some (.int c1), some (.int v2), some (.int v3)] [] q 0 0 := by
  intro N
  induction N with
  | zero =>
    intro v2 v3 q h
    exact h.elim
  | succ N ih =>
    intro v2 v3 q h
    unfold LX8_heldOf_4 at h
    refine a_iload_n (pc := 4) hC dX8_heldOf_4 rfl ?_
    refine a_aload_n (pc := 5) hC dX8_heldOf_5 rfl ?_
    refine a_get (pc := 6) hC cl_X8 (oX_1 hX) 1 (by decide) tw_152 rfl dX8_heldOf_6 ?_
    refine a_get (pc := 9) hC cl_X1 (oX_6 hX) 0 (by decide) tw_83 rfl dX8_heldOf_9 ?_
    refine a_icmp_ge (pc := 12) (tgt := 46) hC dX8_heldOf_12 (by decide) (fun c => ?_) (fun c => ?_)
    · replace h := h.1 c
      exact (hK _ _ h).forget ⟨rfl, trivial⟩
    · replace h := h.2 c
      refine a_aload_n (pc := 15) hC dX8_heldOf_15 rfl ?_
      refine a_get (pc := 16) hC cl_X8 (oX_1 hX) 1 (by decide) tw_152 rfl dX8_heldOf_16 ?_
      refine a_get (pc := 19) hC cl_X1 (oX_6 hX) 3 (by decide) tw_92 rfl dX8_heldOf_19 ?_
      refine a_iload_n (pc := 22) hC dX8_heldOf_22 rfl ?_
      refine a_iald (pc := 23) hC (oX_9 hX) h.1 dX8_heldOf_23 ?_
      replace h := h.2
      refine a_iload_n (pc := 24) hC dX8_heldOf_24 rfl ?_
      refine a_icmp_ne (pc := 25) (tgt := 40) hC dX8_heldOf_25 (by decide) (fun c => ?_) (fun c => ?_)
      · replace h := h.1 c
        refine a_iinc (pc := 40) hC dX8_heldOf_40 rfl (c := 1) rfl ?_
        replace h := h _ rfl
        refine a_goto (pc := 43) (tgt := 4) hC dX8_heldOf_43 (by decide) ?_
        exact (ih _ _ _ h).forget ⟨rfl, rfl, rfl, rfl, trivial⟩
      · replace h := h.2 c
        refine a_iload_n (pc := 28) hC dX8_heldOf_28 rfl ?_
        refine a_aload_n (pc := 29) hC dX8_heldOf_29 rfl ?_
        refine a_get (pc := 30) hC cl_X8 (oX_1 hX) 1 (by decide) tw_152 rfl dX8_heldOf_30 ?_
        refine a_get (pc := 33) hC cl_X1 (oX_6 hX) 2 (by decide) tw_89 rfl dX8_heldOf_33 ?_
        refine a_iload_n (pc := 36) hC dX8_heldOf_36 rfl ?_
        refine a_iald (pc := 37) hC (oX_8 hX) h.1 dX8_heldOf_37 ?_
        replace h := h.2
        refine a_iadd (pc := 38) hC dX8_heldOf_38 ?_
        refine a_istore_n (pc := 39) hC dX8_heldOf_39 (Nat.le_of_ble_eq_true rfl) ?_
        replace h := h _ rfl
        refine a_iinc (pc := 40) hC dX8_heldOf_40 rfl (c := 1) rfl ?_
        replace h := h _ rfl
        refine a_goto (pc := 43) (tgt := 4) hC dX8_heldOf_43 (by decide) ?_
        exact (ih _ _ _ h).forget ⟨rfl, rfl, rfl, rfl, trivial⟩
set_option maxRecDepth 20000 in
theorem t_X8_heldOf {l : Launch} {g : aG} (hX : isX g) (hl : l.stackTraces = false) (x1 : Int32) (q : aS) (P : Int32 → aS → Prop) (h : w_X8_heldOf x1 q P) : aMi l g yX8_heldOf (aWs yX8_heldOf cX8_heldOf 4 (some .int)) 0 0 0 [.ref (gAd g 1), .int x1] q P (fun _ _ => False) := by
  refine aMi_of RX8 ⟨by decide +kernel, rfl⟩ (cat_all rfl) (Nat.le_of_ble_eq_true rfl) hl hX.cl (fun f hR hC hE => ?_)
  show AW f g 0 [some (.ref (gAd g 1)), some (.int x1), none, none] [] q 0 0
  unfold w_X8_heldOf at h
  refine a_iconst (pc := 0) hC dX8_heldOf_0 (v := 0) rfl ?_
  refine a_istore_n (pc := 1) hC dX8_heldOf_1 (Nat.le_of_ble_eq_true rfl) ?_
  refine a_iconst (pc := 2) hC dX8_heldOf_2 (v := 0) rfl ?_
  refine a_istore_n (pc := 3) hC dX8_heldOf_3 (Nat.le_of_ble_eq_true rfl) ?_
  obtain ⟨N, h⟩ := h
  refine (tLX8_heldOf_4 hX P hR hC hE _ (fun y5 q6 h => ?_) N _ _ _ h).forget ⟨rfl, rfl, rfl, rfl, trivial⟩
  refine a_iload_n (pc := 46) hC dX8_heldOf_46 rfl ?_
  exact a_iret (pc := 47) hC hE h (Nat.le_of_ble_eq_true rfl) (Nat.le_of_ble_eq_true rfl) dX8_heldOf_47
set_option maxRecDepth 20000 in
theorem tLX8_heldOfAll_4 {f : aF} {g : aG} (hX : isX g) (P : Int32 → aS → Prop) (hR : f_R f = aR 1 0 0) (hC : aOK f g cX8_heldOfAll 3 RX8) (hE : aEi f g .int P (fun _ _ => False) 0 0) {K : Int32 → aS → Prop} (hK : ∀ (w1 : Int32) (q : aS), K w1 q → AW f g 29 [none, some (.int w1), none] [] q 0 0) : ∀ (N : Nat) (v1 : Int32) (v2 : Int32) (q : aS), LX8_heldOfAll_4 P K N v1 v2 q → AW f g 4 [some (.ref (gAd g 1)), some (.int v1), some (.int v2)] [] q 0 0 := by
  intro N
  induction N with
  | zero =>
    intro v1 v2 q h
    exact h.elim
  | succ N ih =>
    intro v1 v2 q h
    unfold LX8_heldOfAll_4 at h
    refine a_iload_n (pc := 4) hC dX8_heldOfAll_4 rfl ?_
    refine a_aload_n (pc := 5) hC dX8_heldOfAll_5 rfl ?_
    refine a_get (pc := 6) hC cl_X8 (oX_1 hX) 2 (by decide) tw_154 rfl dX8_heldOfAll_6 ?_
    refine a_get (pc := 9) hC cl_X7 (oX_12 hX) 0 (by decide) tw_120 rfl dX8_heldOfAll_9 ?_
    refine a_icmp_ge (pc := 12) (tgt := 29) hC dX8_heldOfAll_12 (by decide) (fun c => ?_) (fun c => ?_)
    · replace h := h.1 c
      exact (hK _ _ h).forget ⟨rfl, trivial⟩
    · replace h := h.2 c
      refine a_iload_n (pc := 15) hC dX8_heldOfAll_15 rfl ?_
      refine a_aload_n (pc := 16) hC dX8_heldOfAll_16 rfl ?_
      refine a_iload_n (pc := 17) hC dX8_heldOfAll_17 rfl ?_
      refine a_callV (pc := 18) hC hR vm_X8_heldOf tw_355 cl_X8 (oX_1 hX) ⟨(Nat.le_of_ble_eq_true rfl), (Nat.le_of_ble_eq_true rfl), (Nat.le_of_ble_eq_true rfl), (Nat.le_of_ble_eq_true rfl)⟩ dX8_heldOfAll_18 (t_X8_heldOf hX hC.tr _ _ _ h) rfl rfl rfl (Nat.le_of_ble_eq_true rfl) (fun r1 q2 h => ?_)
      refine a_iadd (pc := 21) hC dX8_heldOfAll_21 ?_
      refine a_istore_n (pc := 22) hC dX8_heldOfAll_22 (Nat.le_of_ble_eq_true rfl) ?_
      replace h := h _ rfl
      refine a_iinc (pc := 23) hC dX8_heldOfAll_23 rfl (c := 1) rfl ?_
      replace h := h _ rfl
      refine a_goto (pc := 26) (tgt := 4) hC dX8_heldOfAll_26 (by decide) ?_
      exact (ih _ _ _ h).forget ⟨rfl, rfl, rfl, trivial⟩
set_option maxRecDepth 20000 in
theorem t_X8_heldOfAll {l : Launch} {g : aG} (hX : isX g) (hl : l.stackTraces = false) (q : aS) (P : Int32 → aS → Prop) (h : w_X8_heldOfAll q P) : aMi l g yX8_heldOfAll (aWs yX8_heldOfAll cX8_heldOfAll 3 (some .int)) 1 0 0 [.ref (gAd g 1)] q P (fun _ _ => False) := by
  refine aMi_of RX8 ⟨by decide +kernel, rfl⟩ (cat_all rfl) (Nat.le_of_ble_eq_true rfl) hl hX.cl (fun f hR hC hE => ?_)
  show AW f g 0 [some (.ref (gAd g 1)), none, none] [] q 0 0
  unfold w_X8_heldOfAll at h
  refine a_iconst (pc := 0) hC dX8_heldOfAll_0 (v := 0) rfl ?_
  refine a_istore_n (pc := 1) hC dX8_heldOfAll_1 (Nat.le_of_ble_eq_true rfl) ?_
  refine a_iconst (pc := 2) hC dX8_heldOfAll_2 (v := 0) rfl ?_
  refine a_istore_n (pc := 3) hC dX8_heldOfAll_3 (Nat.le_of_ble_eq_true rfl) ?_
  obtain ⟨N, h⟩ := h
  refine (tLX8_heldOfAll_4 hX P hR hC hE (fun y5 q6 h => ?_) N _ _ _ h).forget ⟨rfl, rfl, rfl, trivial⟩
  refine a_iload_n (pc := 29) hC dX8_heldOfAll_29 rfl ?_
  exact a_iret (pc := 30) hC hE h (Nat.le_of_ble_eq_true rfl) (Nat.le_of_ble_eq_true rfl) dX8_heldOfAll_30
set_option maxRecDepth 20000 in
theorem tLX8_dampOfAll_4 {f : aF} {g : aG} (hX : isX g) (P : Int32 → aS → Prop) (hR : f_R f = aR 0 0 0) (hC : aOK f g cX8_dampOfAll 3 RX8) (hE : aEi f g .int P (fun _ _ => False) 0 0) {K : Int32 → aS → Prop} (hK : ∀ (w1 : Int32) (q : aS), K w1 q → AW f g 33 [none, some (.int w1), none] [] q 0 0) : ∀ (N : Nat) (v1 : Int32) (v2 : Int32) (q : aS), LX8_dampOfAll_4 P K N v1 v2 q → AW f g 4 [some (.ref (gAd g 1)), some (.int v1), some (.int v2)] [] q 0 0 := by
  intro N
  induction N with
  | zero =>
    intro v1 v2 q h
    exact h.elim
  | succ N ih =>
    intro v1 v2 q h
    unfold LX8_dampOfAll_4 at h
    refine a_iload_n (pc := 4) hC dX8_dampOfAll_4 rfl ?_
    refine a_aload_n (pc := 5) hC dX8_dampOfAll_5 rfl ?_
    refine a_get (pc := 6) hC cl_X8 (oX_1 hX) 0 (by decide) tw_150 rfl dX8_dampOfAll_6 ?_
    refine a_get (pc := 9) hC cl_X6 (oX_2 hX) 0 (by decide) tw_55 rfl dX8_dampOfAll_9 ?_
    refine a_icmp_ge (pc := 12) (tgt := 33) hC dX8_dampOfAll_12 (by decide) (fun c => ?_) (fun c => ?_)
    · replace h := h.1 c
      exact (hK _ _ h).forget ⟨rfl, trivial⟩
    · replace h := h.2 c
      refine a_iload_n (pc := 15) hC dX8_dampOfAll_15 rfl ?_
      refine a_aload_n (pc := 16) hC dX8_dampOfAll_16 rfl ?_
      refine a_get (pc := 17) hC cl_X8 (oX_1 hX) 0 (by decide) tw_150 rfl dX8_dampOfAll_17 ?_
      refine a_get (pc := 20) hC cl_X6 (oX_2 hX) 2 (by decide) tw_62 rfl dX8_dampOfAll_20 ?_
      refine a_iload_n (pc := 23) hC dX8_dampOfAll_23 rfl ?_
      refine a_iald (pc := 24) hC (oX_4 hX) h.1 dX8_dampOfAll_24 ?_
      replace h := h.2
      refine a_iadd (pc := 25) hC dX8_dampOfAll_25 ?_
      refine a_istore_n (pc := 26) hC dX8_dampOfAll_26 (Nat.le_of_ble_eq_true rfl) ?_
      replace h := h _ rfl
      refine a_iinc (pc := 27) hC dX8_dampOfAll_27 rfl (c := 1) rfl ?_
      replace h := h _ rfl
      refine a_goto (pc := 30) (tgt := 4) hC dX8_dampOfAll_30 (by decide) ?_
      exact (ih _ _ _ h).forget ⟨rfl, rfl, rfl, trivial⟩
set_option maxRecDepth 20000 in
theorem t_X8_dampOfAll {l : Launch} {g : aG} (hX : isX g) (hl : l.stackTraces = false) (q : aS) (P : Int32 → aS → Prop) (h : w_X8_dampOfAll q P) : aMi l g yX8_dampOfAll (aWs yX8_dampOfAll cX8_dampOfAll 3 (some .int)) 0 0 0 [.ref (gAd g 1)] q P (fun _ _ => False) := by
  refine aMi_of RX8 ⟨by decide +kernel, rfl⟩ (cat_all rfl) (Nat.le_of_ble_eq_true rfl) hl hX.cl (fun f hR hC hE => ?_)
  show AW f g 0 [some (.ref (gAd g 1)), none, none] [] q 0 0
  unfold w_X8_dampOfAll at h
  refine a_iconst (pc := 0) hC dX8_dampOfAll_0 (v := 0) rfl ?_
  refine a_istore_n (pc := 1) hC dX8_dampOfAll_1 (Nat.le_of_ble_eq_true rfl) ?_
  refine a_iconst (pc := 2) hC dX8_dampOfAll_2 (v := 0) rfl ?_
  refine a_istore_n (pc := 3) hC dX8_dampOfAll_3 (Nat.le_of_ble_eq_true rfl) ?_
  obtain ⟨N, h⟩ := h
  refine (tLX8_dampOfAll_4 hX P hR hC hE (fun y3 q4 h => ?_) N _ _ _ h).forget ⟨rfl, rfl, rfl, trivial⟩
  refine a_iload_n (pc := 33) hC dX8_dampOfAll_33 rfl ?_
  exact a_iret (pc := 34) hC hE h (Nat.le_of_ble_eq_true rfl) (Nat.le_of_ble_eq_true rfl) dX8_dampOfAll_34
set_option maxRecDepth 20000 in
theorem tLX8_versesOfAll_4 {f : aF} {g : aG} (hX : isX g) (P : Int32 → aS → Prop) (hR : f_R f = aR 0 0 0) (hC : aOK f g cX8_versesOfAll 3 RX8) (hE : aEi f g .int P (fun _ _ => False) 0 0) {K : Int32 → aS → Prop} (hK : ∀ (w1 : Int32) (q : aS), K w1 q → AW f g 33 [none, some (.int w1), none] [] q 0 0) : ∀ (N : Nat) (v1 : Int32) (v2 : Int32) (q : aS), LX8_versesOfAll_4 P K N v1 v2 q → AW f g 4 [some (.ref (gAd g 1)), some (.int v1), some (.int v2)] [] q 0 0 := by
  intro N
  induction N with
  | zero =>
    intro v1 v2 q h
    exact h.elim
  | succ N ih =>
    intro v1 v2 q h
    unfold LX8_versesOfAll_4 at h
    refine a_iload_n (pc := 4) hC dX8_versesOfAll_4 rfl ?_
    refine a_aload_n (pc := 5) hC dX8_versesOfAll_5 rfl ?_
    refine a_get (pc := 6) hC cl_X8 (oX_1 hX) 0 (by decide) tw_150 rfl dX8_versesOfAll_6 ?_
    refine a_get (pc := 9) hC cl_X6 (oX_2 hX) 0 (by decide) tw_55 rfl dX8_versesOfAll_9 ?_
    refine a_icmp_ge (pc := 12) (tgt := 33) hC dX8_versesOfAll_12 (by decide) (fun c => ?_) (fun c => ?_)
    · replace h := h.1 c
      exact (hK _ _ h).forget ⟨rfl, trivial⟩
    · replace h := h.2 c
      refine a_iload_n (pc := 15) hC dX8_versesOfAll_15 rfl ?_
      refine a_aload_n (pc := 16) hC dX8_versesOfAll_16 rfl ?_
      refine a_get (pc := 17) hC cl_X8 (oX_1 hX) 0 (by decide) tw_150 rfl dX8_versesOfAll_17 ?_
      refine a_get (pc := 20) hC cl_X6 (oX_2 hX) 3 (by decide) tw_65 rfl dX8_versesOfAll_20 ?_
      refine a_iload_n (pc := 23) hC dX8_versesOfAll_23 rfl ?_
      refine a_iald (pc := 24) hC (oX_5 hX) h.1 dX8_versesOfAll_24 ?_
      replace h := h.2
      refine a_iadd (pc := 25) hC dX8_versesOfAll_25 ?_
      refine a_istore_n (pc := 26) hC dX8_versesOfAll_26 (Nat.le_of_ble_eq_true rfl) ?_
      replace h := h _ rfl
      refine a_iinc (pc := 27) hC dX8_versesOfAll_27 rfl (c := 1) rfl ?_
      replace h := h _ rfl
      refine a_goto (pc := 30) (tgt := 4) hC dX8_versesOfAll_30 (by decide) ?_
      exact (ih _ _ _ h).forget ⟨rfl, rfl, rfl, trivial⟩
set_option maxRecDepth 20000 in
theorem t_X8_versesOfAll {l : Launch} {g : aG} (hX : isX g) (hl : l.stackTraces = false) (q : aS) (P : Int32 → aS → Prop) (h : w_X8_versesOfAll q P) : aMi l g yX8_versesOfAll (aWs yX8_versesOfAll cX8_versesOfAll 3 (some .int)) 0 0 0 [.ref (gAd g 1)] q P (fun _ _ => False) := by
  refine aMi_of RX8 ⟨by decide +kernel, rfl⟩ (cat_all rfl) (Nat.le_of_ble_eq_true rfl) hl hX.cl (fun f hR hC hE => ?_)
  show AW f g 0 [some (.ref (gAd g 1)), none, none] [] q 0 0
  unfold w_X8_versesOfAll at h
  refine a_iconst (pc := 0) hC dX8_versesOfAll_0 (v := 0) rfl ?_
  refine a_istore_n (pc := 1) hC dX8_versesOfAll_1 (Nat.le_of_ble_eq_true rfl) ?_
  refine a_iconst (pc := 2) hC dX8_versesOfAll_2 (v := 0) rfl ?_
  refine a_istore_n (pc := 3) hC dX8_versesOfAll_3 (Nat.le_of_ble_eq_true rfl) ?_
  obtain ⟨N, h⟩ := h
  refine (tLX8_versesOfAll_4 hX P hR hC hE (fun y3 q4 h => ?_) N _ _ _ h).forget ⟨rfl, rfl, rfl, trivial⟩
  refine a_iload_n (pc := 33) hC dX8_versesOfAll_33 rfl ?_
  exact a_iret (pc := 34) hC hE h (Nat.le_of_ble_eq_true rfl) (Nat.le_of_ble_eq_true rfl) dX8_versesOfAll_34
set_option maxRecDepth 20000 in
theorem tLX8_tonesOfAll_4 {f : aF} {g : aG} (hX : isX g) (P : Int32 → aS → Prop) (hR : f_R f = aR 0 0 0) (hC : aOK f g cX8_tonesOfAll 3 RX8) (hE : aEi f g .int P (fun _ _ => False) 0 0) {K : Int32 → aS → Prop} (hK : ∀ (w1 : Int32) (q : aS), K w1 q → AW f g 33 [none, some (.int w1), none] [] q 0 0) : ∀ (N : Nat) (v1 : Int32) (v2 : Int32) (q : aS), LX8_tonesOfAll_4 P K N v1 v2 q → AW f g 4 [some (.ref (gAd g 1)), some (.int v1), some (.int v2)] [] q 0 0 := by
  intro N
  induction N with
  | zero =>
    intro v1 v2 q h
    exact h.elim
  | succ N ih =>
    intro v1 v2 q h
    unfold LX8_tonesOfAll_4 at h
    refine a_iload_n (pc := 4) hC dX8_tonesOfAll_4 rfl ?_
    refine a_aload_n (pc := 5) hC dX8_tonesOfAll_5 rfl ?_
    refine a_get (pc := 6) hC cl_X8 (oX_1 hX) 1 (by decide) tw_152 rfl dX8_tonesOfAll_6 ?_
    refine a_get (pc := 9) hC cl_X1 (oX_6 hX) 0 (by decide) tw_83 rfl dX8_tonesOfAll_9 ?_
    refine a_icmp_ge (pc := 12) (tgt := 33) hC dX8_tonesOfAll_12 (by decide) (fun c => ?_) (fun c => ?_)
    · replace h := h.1 c
      exact (hK _ _ h).forget ⟨rfl, trivial⟩
    · replace h := h.2 c
      refine a_iload_n (pc := 15) hC dX8_tonesOfAll_15 rfl ?_
      refine a_aload_n (pc := 16) hC dX8_tonesOfAll_16 rfl ?_
      refine a_get (pc := 17) hC cl_X8 (oX_1 hX) 1 (by decide) tw_152 rfl dX8_tonesOfAll_17 ?_
      refine a_get (pc := 20) hC cl_X1 (oX_6 hX) 5 (by decide) tw_99 rfl dX8_tonesOfAll_20 ?_
      refine a_iload_n (pc := 23) hC dX8_tonesOfAll_23 rfl ?_
      refine a_iald (pc := 24) hC (oX_11 hX) h.1 dX8_tonesOfAll_24 ?_
      replace h := h.2
      refine a_iadd (pc := 25) hC dX8_tonesOfAll_25 ?_
      refine a_istore_n (pc := 26) hC dX8_tonesOfAll_26 (Nat.le_of_ble_eq_true rfl) ?_
      replace h := h _ rfl
      refine a_iinc (pc := 27) hC dX8_tonesOfAll_27 rfl (c := 1) rfl ?_
      replace h := h _ rfl
      refine a_goto (pc := 30) (tgt := 4) hC dX8_tonesOfAll_30 (by decide) ?_
      exact (ih _ _ _ h).forget ⟨rfl, rfl, rfl, trivial⟩
set_option maxRecDepth 20000 in
theorem t_X8_tonesOfAll {l : Launch} {g : aG} (hX : isX g) (hl : l.stackTraces = false) (q : aS) (P : Int32 → aS → Prop) (h : w_X8_tonesOfAll q P) : aMi l g yX8_tonesOfAll (aWs yX8_tonesOfAll cX8_tonesOfAll 3 (some .int)) 0 0 0 [.ref (gAd g 1)] q P (fun _ _ => False) := by
  refine aMi_of RX8 ⟨by decide +kernel, rfl⟩ (cat_all rfl) (Nat.le_of_ble_eq_true rfl) hl hX.cl (fun f hR hC hE => ?_)
  show AW f g 0 [some (.ref (gAd g 1)), none, none] [] q 0 0
  unfold w_X8_tonesOfAll at h
  refine a_iconst (pc := 0) hC dX8_tonesOfAll_0 (v := 0) rfl ?_
  refine a_istore_n (pc := 1) hC dX8_tonesOfAll_1 (Nat.le_of_ble_eq_true rfl) ?_
  refine a_iconst (pc := 2) hC dX8_tonesOfAll_2 (v := 0) rfl ?_
  refine a_istore_n (pc := 3) hC dX8_tonesOfAll_3 (Nat.le_of_ble_eq_true rfl) ?_
  obtain ⟨N, h⟩ := h
  refine (tLX8_tonesOfAll_4 hX P hR hC hE (fun y3 q4 h => ?_) N _ _ _ h).forget ⟨rfl, rfl, rfl, trivial⟩
  refine a_iload_n (pc := 33) hC dX8_tonesOfAll_33 rfl ?_
  exact a_iret (pc := 34) hC hE h (Nat.le_of_ble_eq_true rfl) (Nat.le_of_ble_eq_true rfl) dX8_tonesOfAll_34
