theorem dX8_addRoom_0 : decode cX8_addRoom 0 = .ok (.aload_n 0, 1) := by decide +kernel
theorem dX8_addRoom_1 : decode cX8_addRoom 1 = .ok (.getfield 12, 3) := by decide +kernel
theorem dX8_addRoom_4 : decode cX8_addRoom 4 = .ok (.getfield 55, 3) := by decide +kernel
theorem dX8_addRoom_7 : decode cX8_addRoom 7 = .ok (.istore_n 2, 1) := by decide +kernel
theorem dX8_addRoom_8 : decode cX8_addRoom 8 = .ok (.aload_n 0, 1) := by decide +kernel
theorem dX8_addRoom_9 : decode cX8_addRoom 9 = .ok (.getfield 12, 3) := by decide +kernel
theorem dX8_addRoom_12 : decode cX8_addRoom 12 = .ok (.dup, 1) := by decide +kernel
theorem dX8_addRoom_13 : decode cX8_addRoom 13 = .ok (.getfield 55, 3) := by decide +kernel
theorem dX8_addRoom_16 : decode cX8_addRoom 16 = .ok (.iconst 1, 1) := by decide +kernel
theorem dX8_addRoom_17 : decode cX8_addRoom 17 = .ok (.iadd, 1) := by decide +kernel
theorem dX8_addRoom_18 : decode cX8_addRoom 18 = .ok (.putfield 55, 3) := by decide +kernel
theorem dX8_addRoom_21 : decode cX8_addRoom 21 = .ok (.aload_n 0, 1) := by decide +kernel
theorem dX8_addRoom_22 : decode cX8_addRoom 22 = .ok (.getfield 12, 3) := by decide +kernel
theorem dX8_addRoom_25 : decode cX8_addRoom 25 = .ok (.getfield 83, 3) := by decide +kernel
theorem dX8_addRoom_28 : decode cX8_addRoom 28 = .ok (.iload_n 2, 1) := by decide +kernel
theorem dX8_addRoom_29 : decode cX8_addRoom 29 = .ok (.iload_n 1, 1) := by decide +kernel
theorem dX8_addRoom_30 : decode cX8_addRoom 30 = .ok (.iastore, 1) := by decide +kernel
theorem dX8_addRoom_31 : decode cX8_addRoom 31 = .ok (.aload_n 0, 1) := by decide +kernel
theorem dX8_addRoom_32 : decode cX8_addRoom 32 = .ok (.getfield 12, 3) := by decide +kernel
theorem dX8_addRoom_35 : decode cX8_addRoom 35 = .ok (.getfield 93, 3) := by decide +kernel
theorem dX8_addRoom_38 : decode cX8_addRoom 38 = .ok (.iload_n 2, 1) := by decide +kernel
theorem dX8_addRoom_39 : decode cX8_addRoom 39 = .ok (.iconst 0, 1) := by decide +kernel
theorem dX8_addRoom_40 : decode cX8_addRoom 40 = .ok (.iastore, 1) := by decide +kernel
theorem dX8_addRoom_41 : decode cX8_addRoom 41 = .ok (.aload_n 0, 1) := by decide +kernel
theorem dX8_addRoom_42 : decode cX8_addRoom 42 = .ok (.getfield 12, 3) := by decide +kernel
theorem dX8_addRoom_45 : decode cX8_addRoom 45 = .ok (.getfield 128, 3) := by decide +kernel
theorem dX8_addRoom_48 : decode cX8_addRoom 48 = .ok (.iload_n 2, 1) := by decide +kernel
theorem dX8_addRoom_49 : decode cX8_addRoom 49 = .ok (.iconst 0, 1) := by decide +kernel
theorem dX8_addRoom_50 : decode cX8_addRoom 50 = .ok (.iastore, 1) := by decide +kernel
theorem dX8_addRoom_51 : decode cX8_addRoom 51 = .ok (.iload_n 2, 1) := by decide +kernel
theorem dX8_addRoom_52 : decode cX8_addRoom 52 = .ok (.ireturn, 1) := by decide +kernel
theorem vm_X8_addRoom : aVm yX8_addRoom RX8 cX8_addRoom 3 (some .int) 1 := ⟨tw_808, tw_806, tw_807, tw_2, rfl, by decide +kernel, by decide +kernel, by decide +kernel⟩
theorem dX8_addEcho_0 : decode cX8_addEcho 0 = .ok (.aload_n 0, 1) := by decide +kernel
theorem dX8_addEcho_1 : decode cX8_addEcho 1 = .ok (.getfield 21, 3) := by decide +kernel
theorem dX8_addEcho_4 : decode cX8_addEcho 4 = .ok (.getfield 58, 3) := by decide +kernel
theorem dX8_addEcho_7 : decode cX8_addEcho 7 = .ok (.istore_n 3, 1) := by decide +kernel
theorem dX8_addEcho_8 : decode cX8_addEcho 8 = .ok (.aload_n 0, 1) := by decide +kernel
theorem dX8_addEcho_9 : decode cX8_addEcho 9 = .ok (.getfield 21, 3) := by decide +kernel
theorem dX8_addEcho_12 : decode cX8_addEcho 12 = .ok (.dup, 1) := by decide +kernel
theorem dX8_addEcho_13 : decode cX8_addEcho 13 = .ok (.getfield 58, 3) := by decide +kernel
theorem dX8_addEcho_16 : decode cX8_addEcho 16 = .ok (.iconst 1, 1) := by decide +kernel
theorem dX8_addEcho_17 : decode cX8_addEcho 17 = .ok (.iadd, 1) := by decide +kernel
theorem dX8_addEcho_18 : decode cX8_addEcho 18 = .ok (.putfield 58, 3) := by decide +kernel
theorem dX8_addEcho_21 : decode cX8_addEcho 21 = .ok (.aload_n 0, 1) := by decide +kernel
theorem dX8_addEcho_22 : decode cX8_addEcho 22 = .ok (.getfield 21, 3) := by decide +kernel
theorem dX8_addEcho_25 : decode cX8_addEcho 25 = .ok (.getfield 67, 3) := by decide +kernel
theorem dX8_addEcho_28 : decode cX8_addEcho 28 = .ok (.iload_n 3, 1) := by decide +kernel
theorem dX8_addEcho_29 : decode cX8_addEcho 29 = .ok (.iload_n 1, 1) := by decide +kernel
theorem dX8_addEcho_30 : decode cX8_addEcho 30 = .ok (.iastore, 1) := by decide +kernel
theorem dX8_addEcho_31 : decode cX8_addEcho 31 = .ok (.aload_n 0, 1) := by decide +kernel
theorem dX8_addEcho_32 : decode cX8_addEcho 32 = .ok (.getfield 21, 3) := by decide +kernel
theorem dX8_addEcho_35 : decode cX8_addEcho 35 = .ok (.getfield 71, 3) := by decide +kernel
theorem dX8_addEcho_38 : decode cX8_addEcho 38 = .ok (.iload_n 3, 1) := by decide +kernel
theorem dX8_addEcho_39 : decode cX8_addEcho 39 = .ok (.iload_n 2, 1) := by decide +kernel
theorem dX8_addEcho_40 : decode cX8_addEcho 40 = .ok (.iastore, 1) := by decide +kernel
theorem dX8_addEcho_41 : decode cX8_addEcho 41 = .ok (.aload_n 0, 1) := by decide +kernel
theorem dX8_addEcho_42 : decode cX8_addEcho 42 = .ok (.getfield 21, 3) := by decide +kernel
theorem dX8_addEcho_45 : decode cX8_addEcho 45 = .ok (.getfield 64, 3) := by decide +kernel
theorem dX8_addEcho_48 : decode cX8_addEcho 48 = .ok (.iload_n 3, 1) := by decide +kernel
theorem dX8_addEcho_49 : decode cX8_addEcho 49 = .ok (.iconst (-1), 1) := by decide +kernel
theorem dX8_addEcho_50 : decode cX8_addEcho 50 = .ok (.iastore, 1) := by decide +kernel
theorem dX8_addEcho_51 : decode cX8_addEcho 51 = .ok (.aload_n 0, 1) := by decide +kernel
theorem dX8_addEcho_52 : decode cX8_addEcho 52 = .ok (.getfield 21, 3) := by decide +kernel
theorem dX8_addEcho_55 : decode cX8_addEcho 55 = .ok (.getfield 119, 3) := by decide +kernel
theorem dX8_addEcho_58 : decode cX8_addEcho 58 = .ok (.iload_n 3, 1) := by decide +kernel
theorem dX8_addEcho_59 : decode cX8_addEcho 59 = .ok (.iconst 0, 1) := by decide +kernel
theorem dX8_addEcho_60 : decode cX8_addEcho 60 = .ok (.iastore, 1) := by decide +kernel
theorem dX8_addEcho_61 : decode cX8_addEcho 61 = .ok (.aload_n 0, 1) := by decide +kernel
theorem dX8_addEcho_62 : decode cX8_addEcho 62 = .ok (.getfield 21, 3) := by decide +kernel
theorem dX8_addEcho_65 : decode cX8_addEcho 65 = .ok (.getfield 129, 3) := by decide +kernel
theorem dX8_addEcho_68 : decode cX8_addEcho 68 = .ok (.iload_n 3, 1) := by decide +kernel
theorem dX8_addEcho_69 : decode cX8_addEcho 69 = .ok (.iconst 0, 1) := by decide +kernel
theorem dX8_addEcho_70 : decode cX8_addEcho 70 = .ok (.iastore, 1) := by decide +kernel
theorem dX8_addEcho_71 : decode cX8_addEcho 71 = .ok (.iload_n 3, 1) := by decide +kernel
theorem dX8_addEcho_72 : decode cX8_addEcho 72 = .ok (.ireturn, 1) := by decide +kernel
theorem vm_X8_addEcho : aVm yX8_addEcho RX8 cX8_addEcho 4 (some .int) 2 := ⟨tw_812, tw_810, tw_811, tw_2, rfl, by decide +kernel, by decide +kernel, by decide +kernel⟩
theorem dX8_addSinger_0 : decode cX8_addSinger 0 = .ok (.aload_n 0, 1) := by decide +kernel
theorem dX8_addSinger_1 : decode cX8_addSinger 1 = .ok (.getfield 28, 3) := by decide +kernel
theorem dX8_addSinger_4 : decode cX8_addSinger 4 = .ok (.getfield 59, 3) := by decide +kernel
theorem dX8_addSinger_7 : decode cX8_addSinger 7 = .ok (.istore_n 3, 1) := by decide +kernel
theorem dX8_addSinger_8 : decode cX8_addSinger 8 = .ok (.aload_n 0, 1) := by decide +kernel
theorem dX8_addSinger_9 : decode cX8_addSinger 9 = .ok (.getfield 28, 3) := by decide +kernel
theorem dX8_addSinger_12 : decode cX8_addSinger 12 = .ok (.dup, 1) := by decide +kernel
theorem dX8_addSinger_13 : decode cX8_addSinger 13 = .ok (.getfield 59, 3) := by decide +kernel
theorem dX8_addSinger_16 : decode cX8_addSinger 16 = .ok (.iconst 1, 1) := by decide +kernel
theorem dX8_addSinger_17 : decode cX8_addSinger 17 = .ok (.iadd, 1) := by decide +kernel
theorem dX8_addSinger_18 : decode cX8_addSinger 18 = .ok (.putfield 59, 3) := by decide +kernel
theorem dX8_addSinger_21 : decode cX8_addSinger 21 = .ok (.aload_n 0, 1) := by decide +kernel
theorem dX8_addSinger_22 : decode cX8_addSinger 22 = .ok (.getfield 28, 3) := by decide +kernel
theorem dX8_addSinger_25 : decode cX8_addSinger 25 = .ok (.getfield 86, 3) := by decide +kernel
theorem dX8_addSinger_28 : decode cX8_addSinger 28 = .ok (.iload_n 3, 1) := by decide +kernel
theorem dX8_addSinger_29 : decode cX8_addSinger 29 = .ok (.iload_n 1, 1) := by decide +kernel
theorem dX8_addSinger_30 : decode cX8_addSinger 30 = .ok (.iastore, 1) := by decide +kernel
theorem dX8_addSinger_31 : decode cX8_addSinger 31 = .ok (.aload_n 0, 1) := by decide +kernel
theorem dX8_addSinger_32 : decode cX8_addSinger 32 = .ok (.getfield 28, 3) := by decide +kernel
theorem dX8_addSinger_35 : decode cX8_addSinger 35 = .ok (.getfield 68, 3) := by decide +kernel
theorem dX8_addSinger_38 : decode cX8_addSinger 38 = .ok (.iload_n 3, 1) := by decide +kernel
theorem dX8_addSinger_39 : decode cX8_addSinger 39 = .ok (.iload_n 2, 1) := by decide +kernel
theorem dX8_addSinger_40 : decode cX8_addSinger 40 = .ok (.iastore, 1) := by decide +kernel
theorem dX8_addSinger_41 : decode cX8_addSinger 41 = .ok (.aload_n 0, 1) := by decide +kernel
theorem dX8_addSinger_42 : decode cX8_addSinger 42 = .ok (.getfield 28, 3) := by decide +kernel
theorem dX8_addSinger_45 : decode cX8_addSinger 45 = .ok (.getfield 60, 3) := by decide +kernel
theorem dX8_addSinger_48 : decode cX8_addSinger 48 = .ok (.iload_n 3, 1) := by decide +kernel
theorem dX8_addSinger_49 : decode cX8_addSinger 49 = .ok (.iconst (-1), 1) := by decide +kernel
theorem dX8_addSinger_50 : decode cX8_addSinger 50 = .ok (.iastore, 1) := by decide +kernel
theorem dX8_addSinger_51 : decode cX8_addSinger 51 = .ok (.aload_n 0, 1) := by decide +kernel
theorem dX8_addSinger_52 : decode cX8_addSinger 52 = .ok (.getfield 28, 3) := by decide +kernel
theorem dX8_addSinger_55 : decode cX8_addSinger 55 = .ok (.getfield 132, 3) := by decide +kernel
theorem dX8_addSinger_58 : decode cX8_addSinger 58 = .ok (.iload_n 3, 1) := by decide +kernel
theorem dX8_addSinger_59 : decode cX8_addSinger 59 = .ok (.iconst 0, 1) := by decide +kernel
theorem dX8_addSinger_60 : decode cX8_addSinger 60 = .ok (.iastore, 1) := by decide +kernel
theorem dX8_addSinger_61 : decode cX8_addSinger 61 = .ok (.aload_n 0, 1) := by decide +kernel
theorem dX8_addSinger_62 : decode cX8_addSinger 62 = .ok (.getfield 28, 3) := by decide +kernel
theorem dX8_addSinger_65 : decode cX8_addSinger 65 = .ok (.getfield 133, 3) := by decide +kernel
theorem dX8_addSinger_68 : decode cX8_addSinger 68 = .ok (.iload_n 3, 1) := by decide +kernel
theorem dX8_addSinger_69 : decode cX8_addSinger 69 = .ok (.iconst 0, 1) := by decide +kernel
theorem dX8_addSinger_70 : decode cX8_addSinger 70 = .ok (.iastore, 1) := by decide +kernel
theorem dX8_addSinger_71 : decode cX8_addSinger 71 = .ok (.iload_n 3, 1) := by decide +kernel
theorem dX8_addSinger_72 : decode cX8_addSinger 72 = .ok (.ireturn, 1) := by decide +kernel
theorem vm_X8_addSinger : aVm yX8_addSinger RX8 cX8_addSinger 4 (some .int) 2 := ⟨tw_816, tw_814, tw_815, tw_2, rfl, by decide +kernel, by decide +kernel, by decide +kernel⟩
theorem dX8_moveIn_0 : decode cX8_moveIn 0 = .ok (.aload_n 0, 1) := by decide +kernel
theorem dX8_moveIn_1 : decode cX8_moveIn 1 = .ok (.getfield 28, 3) := by decide +kernel
theorem dX8_moveIn_4 : decode cX8_moveIn 4 = .ok (.getfield 60, 3) := by decide +kernel
theorem dX8_moveIn_7 : decode cX8_moveIn 7 = .ok (.iload_n 1, 1) := by decide +kernel
theorem dX8_moveIn_8 : decode cX8_moveIn 8 = .ok (.iload_n 2, 1) := by decide +kernel
theorem dX8_moveIn_9 : decode cX8_moveIn 9 = .ok (.iastore, 1) := by decide +kernel
theorem dX8_moveIn_10 : decode cX8_moveIn 10 = .ok (.aload_n 0, 1) := by decide +kernel
theorem dX8_moveIn_11 : decode cX8_moveIn 11 = .ok (.iload_n 2, 1) := by decide +kernel
theorem dX8_moveIn_12 : decode cX8_moveIn 12 = .ok (.invokevirtual 74, 3) := by decide +kernel
theorem dX8_moveIn_15 : decode cX8_moveIn 15 = .ok (.invokestatic 78, 3) := by decide +kernel
theorem dX8_moveIn_18 : decode cX8_moveIn 18 = .ok (.ireturn, 1) := by decide +kernel
theorem vm_X8_moveIn : aVm yX8_moveIn RX8 cX8_moveIn 3 (some .int) 2 := ⟨tw_820, tw_818, tw_819, tw_2, rfl, by decide +kernel, by decide +kernel, by decide +kernel⟩
theorem dX8_moveOut_0 : decode cX8_moveOut 0 = .ok (.aload_n 0, 1) := by decide +kernel
theorem dX8_moveOut_1 : decode cX8_moveOut 1 = .ok (.getfield 28, 3) := by decide +kernel
theorem dX8_moveOut_4 : decode cX8_moveOut 4 = .ok (.getfield 60, 3) := by decide +kernel
theorem dX8_moveOut_7 : decode cX8_moveOut 7 = .ok (.iload_n 1, 1) := by decide +kernel
theorem dX8_moveOut_8 : decode cX8_moveOut 8 = .ok (.iaload, 1) := by decide +kernel
theorem dX8_moveOut_9 : decode cX8_moveOut 9 = .ok (.istore_n 2, 1) := by decide +kernel
theorem dX8_moveOut_10 : decode cX8_moveOut 10 = .ok (.aload_n 0, 1) := by decide +kernel
theorem dX8_moveOut_11 : decode cX8_moveOut 11 = .ok (.getfield 28, 3) := by decide +kernel
theorem dX8_moveOut_14 : decode cX8_moveOut 14 = .ok (.getfield 60, 3) := by decide +kernel
theorem dX8_moveOut_17 : decode cX8_moveOut 17 = .ok (.iload_n 1, 1) := by decide +kernel
theorem dX8_moveOut_18 : decode cX8_moveOut 18 = .ok (.iconst (-1), 1) := by decide +kernel
theorem dX8_moveOut_19 : decode cX8_moveOut 19 = .ok (.iastore, 1) := by decide +kernel
theorem dX8_moveOut_20 : decode cX8_moveOut 20 = .ok (.iload_n 2, 1) := by decide +kernel
theorem dX8_moveOut_21 : decode cX8_moveOut 21 = .ok (.ireturn, 1) := by decide +kernel
theorem vm_X8_moveOut : aVm yX8_moveOut RX8 cX8_moveOut 3 (some .int) 1 := ⟨tw_824, tw_822, tw_823, tw_2, rfl, by decide +kernel, by decide +kernel, by decide +kernel⟩
theorem dX8_moveEcho_0 : decode cX8_moveEcho 0 = .ok (.aload_n 0, 1) := by decide +kernel
theorem dX8_moveEcho_1 : decode cX8_moveEcho 1 = .ok (.getfield 21, 3) := by decide +kernel
theorem dX8_moveEcho_4 : decode cX8_moveEcho 4 = .ok (.getfield 67, 3) := by decide +kernel
theorem dX8_moveEcho_7 : decode cX8_moveEcho 7 = .ok (.iload_n 1, 1) := by decide +kernel
theorem dX8_moveEcho_8 : decode cX8_moveEcho 8 = .ok (.iaload, 1) := by decide +kernel
theorem dX8_moveEcho_9 : decode cX8_moveEcho 9 = .ok (.istore_n 3, 1) := by decide +kernel
theorem dX8_moveEcho_10 : decode cX8_moveEcho 10 = .ok (.aload_n 0, 1) := by decide +kernel
theorem dX8_moveEcho_11 : decode cX8_moveEcho 11 = .ok (.getfield 21, 3) := by decide +kernel
theorem dX8_moveEcho_14 : decode cX8_moveEcho 14 = .ok (.getfield 67, 3) := by decide +kernel
theorem dX8_moveEcho_17 : decode cX8_moveEcho 17 = .ok (.iload_n 1, 1) := by decide +kernel
theorem dX8_moveEcho_18 : decode cX8_moveEcho 18 = .ok (.iload_n 2, 1) := by decide +kernel
theorem dX8_moveEcho_19 : decode cX8_moveEcho 19 = .ok (.iastore, 1) := by decide +kernel
theorem dX8_moveEcho_20 : decode cX8_moveEcho 20 = .ok (.iload_n 3, 1) := by decide +kernel
theorem dX8_moveEcho_21 : decode cX8_moveEcho 21 = .ok (.ireturn, 1) := by decide +kernel
theorem vm_X8_moveEcho : aVm yX8_moveEcho RX8 cX8_moveEcho 4 (some .int) 2 := ⟨tw_828, tw_826, tw_827, tw_2, rfl, by decide +kernel, by decide +kernel, by decide +kernel⟩
theorem dX8_letEcho_0 : decode cX8_letEcho 0 = .ok (.aload_n 0, 1) := by decide +kernel
theorem dX8_letEcho_1 : decode cX8_letEcho 1 = .ok (.getfield 21, 3) := by decide +kernel
theorem dX8_letEcho_4 : decode cX8_letEcho 4 = .ok (.getfield 71, 3) := by decide +kernel
theorem dX8_letEcho_7 : decode cX8_letEcho 7 = .ok (.iload_n 2, 1) := by decide +kernel
theorem dX8_letEcho_8 : decode cX8_letEcho 8 = .ok (.iaload, 1) := by decide +kernel
theorem dX8_letEcho_9 : decode cX8_letEcho 9 = .ok (.istore 4, 2) := by decide +kernel
theorem dX8_letEcho_11 : decode cX8_letEcho 11 = .ok (.aload_n 0, 1) := by decide +kernel
theorem dX8_letEcho_12 : decode cX8_letEcho 12 = .ok (.getfield 28, 3) := by decide +kernel
theorem dX8_letEcho_15 : decode cX8_letEcho 15 = .ok (.getfield 68, 3) := by decide +kernel
theorem dX8_letEcho_18 : decode cX8_letEcho 18 = .ok (.iload_n 1, 1) := by decide +kernel
theorem dX8_letEcho_19 : decode cX8_letEcho 19 = .ok (.dup2, 1) := by decide +kernel
theorem dX8_letEcho_20 : decode cX8_letEcho 20 = .ok (.iaload, 1) := by decide +kernel
theorem dX8_letEcho_21 : decode cX8_letEcho 21 = .ok (.iload 4, 2) := by decide +kernel
theorem dX8_letEcho_23 : decode cX8_letEcho 23 = .ok (.isub, 1) := by decide +kernel
theorem dX8_letEcho_24 : decode cX8_letEcho 24 = .ok (.iastore, 1) := by decide +kernel
theorem dX8_letEcho_25 : decode cX8_letEcho 25 = .ok (.aload_n 0, 1) := by decide +kernel
theorem dX8_letEcho_26 : decode cX8_letEcho 26 = .ok (.dup, 1) := by decide +kernel
theorem dX8_letEcho_27 : decode cX8_letEcho 27 = .ok (.getfield 46, 3) := by decide +kernel
theorem dX8_letEcho_30 : decode cX8_letEcho 30 = .ok (.iload 4, 2) := by decide +kernel
theorem dX8_letEcho_32 : decode cX8_letEcho 32 = .ok (.iadd, 1) := by decide +kernel
theorem dX8_letEcho_33 : decode cX8_letEcho 33 = .ok (.putfield 46, 3) := by decide +kernel
theorem dX8_letEcho_36 : decode cX8_letEcho 36 = .ok (.aload_n 0, 1) := by decide +kernel
theorem dX8_letEcho_37 : decode cX8_letEcho 37 = .ok (.getfield 21, 3) := by decide +kernel
theorem dX8_letEcho_40 : decode cX8_letEcho 40 = .ok (.getfield 64, 3) := by decide +kernel
theorem dX8_letEcho_43 : decode cX8_letEcho 43 = .ok (.iload_n 2, 1) := by decide +kernel
theorem dX8_letEcho_44 : decode cX8_letEcho 44 = .ok (.iload_n 1, 1) := by decide +kernel
theorem dX8_letEcho_45 : decode cX8_letEcho 45 = .ok (.iastore, 1) := by decide +kernel
theorem dX8_letEcho_46 : decode cX8_letEcho 46 = .ok (.aload_n 0, 1) := by decide +kernel
theorem dX8_letEcho_47 : decode cX8_letEcho 47 = .ok (.getfield 21, 3) := by decide +kernel
theorem dX8_letEcho_50 : decode cX8_letEcho 50 = .ok (.getfield 119, 3) := by decide +kernel
theorem dX8_letEcho_53 : decode cX8_letEcho 53 = .ok (.iload_n 2, 1) := by decide +kernel
theorem dX8_letEcho_54 : decode cX8_letEcho 54 = .ok (.iload_n 3, 1) := by decide +kernel
theorem dX8_letEcho_55 : decode cX8_letEcho 55 = .ok (.iastore, 1) := by decide +kernel
theorem dX8_letEcho_56 : decode cX8_letEcho 56 = .ok (.iload 4, 2) := by decide +kernel
theorem dX8_letEcho_58 : decode cX8_letEcho 58 = .ok (.ireturn, 1) := by decide +kernel
theorem vm_X8_letEcho : aVm yX8_letEcho RX8 cX8_letEcho 5 (some .int) 3 := ⟨tw_832, tw_830, tw_831, tw_2, rfl, by decide +kernel, by decide +kernel, by decide +kernel⟩
theorem dX8_endLetting_0 : decode cX8_endLetting 0 = .ok (.aload_n 0, 1) := by decide +kernel
theorem dX8_endLetting_1 : decode cX8_endLetting 1 = .ok (.getfield 21, 3) := by decide +kernel
theorem dX8_endLetting_4 : decode cX8_endLetting 4 = .ok (.getfield 64, 3) := by decide +kernel
theorem dX8_endLetting_7 : decode cX8_endLetting 7 = .ok (.iload_n 1, 1) := by decide +kernel
theorem dX8_endLetting_8 : decode cX8_endLetting 8 = .ok (.iaload, 1) := by decide +kernel
theorem dX8_endLetting_9 : decode cX8_endLetting 9 = .ok (.istore_n 2, 1) := by decide +kernel
theorem dX8_endLetting_10 : decode cX8_endLetting 10 = .ok (.aload_n 0, 1) := by decide +kernel
theorem dX8_endLetting_11 : decode cX8_endLetting 11 = .ok (.iload_n 1, 1) := by decide +kernel
theorem dX8_endLetting_12 : decode cX8_endLetting 12 = .ok (.invokevirtual 106, 3) := by decide +kernel
theorem dX8_endLetting_15 : decode cX8_endLetting 15 = .ok (.istore_n 3, 1) := by decide +kernel
theorem dX8_endLetting_16 : decode cX8_endLetting 16 = .ok (.aload_n 0, 1) := by decide +kernel
theorem dX8_endLetting_17 : decode cX8_endLetting 17 = .ok (.getfield 28, 3) := by decide +kernel
theorem dX8_endLetting_20 : decode cX8_endLetting 20 = .ok (.getfield 68, 3) := by decide +kernel
theorem dX8_endLetting_23 : decode cX8_endLetting 23 = .ok (.iload_n 2, 1) := by decide +kernel
theorem dX8_endLetting_24 : decode cX8_endLetting 24 = .ok (.bipush 99, 2) := by decide +kernel
theorem dX8_endLetting_26 : decode cX8_endLetting 26 = .ok (.aload_n 0, 1) := by decide +kernel
theorem dX8_endLetting_27 : decode cX8_endLetting 27 = .ok (.getfield 28, 3) := by decide +kernel
theorem dX8_endLetting_30 : decode cX8_endLetting 30 = .ok (.getfield 68, 3) := by decide +kernel
theorem dX8_endLetting_33 : decode cX8_endLetting 33 = .ok (.iload_n 2, 1) := by decide +kernel
theorem dX8_endLetting_34 : decode cX8_endLetting 34 = .ok (.iaload, 1) := by decide +kernel
theorem dX8_endLetting_35 : decode cX8_endLetting 35 = .ok (.iload_n 3, 1) := by decide +kernel
theorem dX8_endLetting_36 : decode cX8_endLetting 36 = .ok (.iadd, 1) := by decide +kernel
theorem dX8_endLetting_37 : decode cX8_endLetting 37 = .ok (.invokestatic 116, 3) := by decide +kernel
theorem dX8_endLetting_40 : decode cX8_endLetting 40 = .ok (.iastore, 1) := by decide +kernel
theorem dX8_endLetting_41 : decode cX8_endLetting 41 = .ok (.aload_n 0, 1) := by decide +kernel
theorem dX8_endLetting_42 : decode cX8_endLetting 42 = .ok (.dup, 1) := by decide +kernel
theorem dX8_endLetting_43 : decode cX8_endLetting 43 = .ok (.getfield 49, 3) := by decide +kernel
theorem dX8_endLetting_46 : decode cX8_endLetting 46 = .ok (.iload_n 3, 1) := by decide +kernel
theorem dX8_endLetting_47 : decode cX8_endLetting 47 = .ok (.iadd, 1) := by decide +kernel
theorem dX8_endLetting_48 : decode cX8_endLetting 48 = .ok (.putfield 49, 3) := by decide +kernel
theorem dX8_endLetting_51 : decode cX8_endLetting 51 = .ok (.aload_n 0, 1) := by decide +kernel
theorem dX8_endLetting_52 : decode cX8_endLetting 52 = .ok (.dup, 1) := by decide +kernel
theorem dX8_endLetting_53 : decode cX8_endLetting 53 = .ok (.getfield 52, 3) := by decide +kernel
theorem dX8_endLetting_56 : decode cX8_endLetting 56 = .ok (.aload_n 0, 1) := by decide +kernel
theorem dX8_endLetting_57 : decode cX8_endLetting 57 = .ok (.getfield 21, 3) := by decide +kernel
theorem dX8_endLetting_60 : decode cX8_endLetting 60 = .ok (.getfield 71, 3) := by decide +kernel
theorem dX8_endLetting_63 : decode cX8_endLetting 63 = .ok (.iload_n 1, 1) := by decide +kernel
theorem dX8_endLetting_64 : decode cX8_endLetting 64 = .ok (.iaload, 1) := by decide +kernel
theorem dX8_endLetting_65 : decode cX8_endLetting 65 = .ok (.iload_n 3, 1) := by decide +kernel
theorem dX8_endLetting_66 : decode cX8_endLetting 66 = .ok (.isub, 1) := by decide +kernel
theorem dX8_endLetting_67 : decode cX8_endLetting 67 = .ok (.iadd, 1) := by decide +kernel
theorem dX8_endLetting_68 : decode cX8_endLetting 68 = .ok (.putfield 52, 3) := by decide +kernel
theorem dX8_endLetting_71 : decode cX8_endLetting 71 = .ok (.aload_n 0, 1) := by decide +kernel
theorem dX8_endLetting_72 : decode cX8_endLetting 72 = .ok (.getfield 21, 3) := by decide +kernel
theorem dX8_endLetting_75 : decode cX8_endLetting 75 = .ok (.getfield 64, 3) := by decide +kernel
theorem dX8_endLetting_78 : decode cX8_endLetting 78 = .ok (.iload_n 1, 1) := by decide +kernel
theorem dX8_endLetting_79 : decode cX8_endLetting 79 = .ok (.iconst (-1), 1) := by decide +kernel
theorem dX8_endLetting_80 : decode cX8_endLetting 80 = .ok (.iastore, 1) := by decide +kernel
theorem dX8_endLetting_81 : decode cX8_endLetting 81 = .ok (.aload_n 0, 1) := by decide +kernel
theorem dX8_endLetting_82 : decode cX8_endLetting 82 = .ok (.getfield 21, 3) := by decide +kernel
theorem dX8_endLetting_85 : decode cX8_endLetting 85 = .ok (.getfield 119, 3) := by decide +kernel
theorem dX8_endLetting_88 : decode cX8_endLetting 88 = .ok (.iload_n 1, 1) := by decide +kernel
theorem dX8_endLetting_89 : decode cX8_endLetting 89 = .ok (.iconst 0, 1) := by decide +kernel
theorem dX8_endLetting_90 : decode cX8_endLetting 90 = .ok (.iastore, 1) := by decide +kernel
theorem dX8_endLetting_91 : decode cX8_endLetting 91 = .ok (.iload_n 3, 1) := by decide +kernel
theorem dX8_endLetting_92 : decode cX8_endLetting 92 = .ok (.ireturn, 1) := by decide +kernel
theorem vm_X8_endLetting : aVm yX8_endLetting RX8 cX8_endLetting 4 (some .int) 1 := ⟨tw_836, tw_834, tw_835, tw_2, rfl, by decide +kernel, by decide +kernel, by decide +kernel⟩
theorem dX8_echoVerse_0 : decode cX8_echoVerse 0 = .ok (.aload_n 0, 1) := by decide +kernel
theorem dX8_echoVerse_1 : decode cX8_echoVerse 1 = .ok (.iload_n 1, 1) := by decide +kernel
theorem dX8_echoVerse_2 : decode cX8_echoVerse 2 = .ok (.invokevirtual 106, 3) := by decide +kernel
theorem dX8_echoVerse_5 : decode cX8_echoVerse 5 = .ok (.istore_n 2, 1) := by decide +kernel
theorem dX8_echoVerse_6 : decode cX8_echoVerse 6 = .ok (.aload_n 0, 1) := by decide +kernel
theorem dX8_echoVerse_7 : decode cX8_echoVerse 7 = .ok (.getfield 21, 3) := by decide +kernel
theorem dX8_echoVerse_10 : decode cX8_echoVerse 10 = .ok (.getfield 129, 3) := by decide +kernel
theorem dX8_echoVerse_13 : decode cX8_echoVerse 13 = .ok (.iload_n 1, 1) := by decide +kernel
theorem dX8_echoVerse_14 : decode cX8_echoVerse 14 = .ok (.dup2, 1) := by decide +kernel
theorem dX8_echoVerse_15 : decode cX8_echoVerse 15 = .ok (.iaload, 1) := by decide +kernel
theorem dX8_echoVerse_16 : decode cX8_echoVerse 16 = .ok (.iload_n 2, 1) := by decide +kernel
theorem dX8_echoVerse_17 : decode cX8_echoVerse 17 = .ok (.iadd, 1) := by decide +kernel
theorem dX8_echoVerse_18 : decode cX8_echoVerse 18 = .ok (.iastore, 1) := by decide +kernel
theorem dX8_echoVerse_19 : decode cX8_echoVerse 19 = .ok (.aload_n 0, 1) := by decide +kernel
theorem dX8_echoVerse_20 : decode cX8_echoVerse 20 = .ok (.getfield 21, 3) := by decide +kernel
theorem dX8_echoVerse_23 : decode cX8_echoVerse 23 = .ok (.getfield 119, 3) := by decide +kernel
theorem dX8_echoVerse_26 : decode cX8_echoVerse 26 = .ok (.iload_n 1, 1) := by decide +kernel
theorem dX8_echoVerse_27 : decode cX8_echoVerse 27 = .ok (.dup2, 1) := by decide +kernel
theorem dX8_echoVerse_28 : decode cX8_echoVerse 28 = .ok (.iaload, 1) := by decide +kernel
theorem dX8_echoVerse_29 : decode cX8_echoVerse 29 = .ok (.iconst 1, 1) := by decide +kernel
theorem dX8_echoVerse_30 : decode cX8_echoVerse 30 = .ok (.isub, 1) := by decide +kernel
theorem dX8_echoVerse_31 : decode cX8_echoVerse 31 = .ok (.iastore, 1) := by decide +kernel
theorem dX8_echoVerse_32 : decode cX8_echoVerse 32 = .ok (.aload_n 0, 1) := by decide +kernel
theorem dX8_echoVerse_33 : decode cX8_echoVerse 33 = .ok (.getfield 21, 3) := by decide +kernel
theorem dX8_echoVerse_36 : decode cX8_echoVerse 36 = .ok (.getfield 119, 3) := by decide +kernel
theorem dX8_echoVerse_39 : decode cX8_echoVerse 39 = .ok (.iload_n 1, 1) := by decide +kernel
theorem dX8_echoVerse_40 : decode cX8_echoVerse 40 = .ok (.iaload, 1) := by decide +kernel
theorem dX8_echoVerse_41 : decode cX8_echoVerse 41 = .ok (.ifCond .ne 9, 3) := by decide +kernel
theorem dX8_echoVerse_44 : decode cX8_echoVerse 44 = .ok (.aload_n 0, 1) := by decide +kernel
theorem dX8_echoVerse_45 : decode cX8_echoVerse 45 = .ok (.iload_n 1, 1) := by decide +kernel
theorem dX8_echoVerse_46 : decode cX8_echoVerse 46 = .ok (.invokevirtual 137, 3) := by decide +kernel
theorem dX8_echoVerse_49 : decode cX8_echoVerse 49 = .ok (.pop, 1) := by decide +kernel
theorem dX8_echoVerse_50 : decode cX8_echoVerse 50 = .ok (.iload_n 2, 1) := by decide +kernel
theorem dX8_echoVerse_51 : decode cX8_echoVerse 51 = .ok (.ireturn, 1) := by decide +kernel
theorem vm_X8_echoVerse : aVm yX8_echoVerse RX8 cX8_echoVerse 3 (some .int) 1 := ⟨tw_844, tw_842, tw_843, tw_2, rfl, by decide +kernel, by decide +kernel, by decide +kernel⟩
theorem dX8_singVerse_0 : decode cX8_singVerse 0 = .ok (.aload_n 0, 1) := by decide +kernel
theorem dX8_singVerse_1 : decode cX8_singVerse 1 = .ok (.getfield 28, 3) := by decide +kernel
theorem dX8_singVerse_4 : decode cX8_singVerse 4 = .ok (.getfield 60, 3) := by decide +kernel
theorem dX8_singVerse_7 : decode cX8_singVerse 7 = .ok (.iload_n 1, 1) := by decide +kernel
theorem dX8_singVerse_8 : decode cX8_singVerse 8 = .ok (.iaload, 1) := by decide +kernel
theorem dX8_singVerse_9 : decode cX8_singVerse 9 = .ok (.istore_n 2, 1) := by decide +kernel
theorem dX8_singVerse_10 : decode cX8_singVerse 10 = .ok (.iconst 0, 1) := by decide +kernel
theorem dX8_singVerse_11 : decode cX8_singVerse 11 = .ok (.istore_n 3, 1) := by decide +kernel
theorem dX8_singVerse_12 : decode cX8_singVerse 12 = .ok (.aload_n 0, 1) := by decide +kernel
theorem dX8_singVerse_13 : decode cX8_singVerse 13 = .ok (.getfield 28, 3) := by decide +kernel
theorem dX8_singVerse_16 : decode cX8_singVerse 16 = .ok (.getfield 68, 3) := by decide +kernel
theorem dX8_singVerse_19 : decode cX8_singVerse 19 = .ok (.iload_n 1, 1) := by decide +kernel
theorem dX8_singVerse_20 : decode cX8_singVerse 20 = .ok (.dup2, 1) := by decide +kernel
theorem dX8_singVerse_21 : decode cX8_singVerse 21 = .ok (.iaload, 1) := by decide +kernel
theorem dX8_singVerse_22 : decode cX8_singVerse 22 = .ok (.iconst 1, 1) := by decide +kernel
theorem dX8_singVerse_23 : decode cX8_singVerse 23 = .ok (.isub, 1) := by decide +kernel
theorem dX8_singVerse_24 : decode cX8_singVerse 24 = .ok (.iastore, 1) := by decide +kernel
theorem dX8_singVerse_25 : decode cX8_singVerse 25 = .ok (.iconst 0, 1) := by decide +kernel
theorem dX8_singVerse_26 : decode cX8_singVerse 26 = .ok (.istore 4, 2) := by decide +kernel
theorem dX8_singVerse_28 : decode cX8_singVerse 28 = .ok (.iload 4, 2) := by decide +kernel
theorem dX8_singVerse_30 : decode cX8_singVerse 30 = .ok (.aload_n 0, 1) := by decide +kernel
theorem dX8_singVerse_31 : decode cX8_singVerse 31 = .ok (.getfield 21, 3) := by decide +kernel
theorem dX8_singVerse_34 : decode cX8_singVerse 34 = .ok (.getfield 58, 3) := by decide +kernel
theorem dX8_singVerse_37 : decode cX8_singVerse 37 = .ok (.if_icmp .ge 29, 3) := by decide +kernel
theorem dX8_singVerse_40 : decode cX8_singVerse 40 = .ok (.aload_n 0, 1) := by decide +kernel
theorem dX8_singVerse_41 : decode cX8_singVerse 41 = .ok (.iload 4, 2) := by decide +kernel
theorem dX8_singVerse_43 : decode cX8_singVerse 43 = .ok (.iload_n 1, 1) := by decide +kernel
theorem dX8_singVerse_44 : decode cX8_singVerse 44 = .ok (.iload_n 2, 1) := by decide +kernel
theorem dX8_singVerse_45 : decode cX8_singVerse 45 = .ok (.invokevirtual 102, 3) := by decide +kernel
theorem dX8_singVerse_48 : decode cX8_singVerse 48 = .ok (.ifCond .eq 12, 3) := by decide +kernel
theorem dX8_singVerse_51 : decode cX8_singVerse 51 = .ok (.iload_n 3, 1) := by decide +kernel
theorem dX8_singVerse_52 : decode cX8_singVerse 52 = .ok (.aload_n 0, 1) := by decide +kernel
theorem dX8_singVerse_53 : decode cX8_singVerse 53 = .ok (.iload 4, 2) := by decide +kernel
theorem dX8_singVerse_55 : decode cX8_singVerse 55 = .ok (.invokevirtual 134, 3) := by decide +kernel
theorem dX8_singVerse_58 : decode cX8_singVerse 58 = .ok (.iadd, 1) := by decide +kernel
theorem dX8_singVerse_59 : decode cX8_singVerse 59 = .ok (.istore_n 3, 1) := by decide +kernel
theorem dX8_singVerse_60 : decode cX8_singVerse 60 = .ok (.iinc 4 1, 3) := by decide +kernel
theorem dX8_singVerse_63 : decode cX8_singVerse 63 = .ok (.goto (-35), 3) := by decide +kernel
theorem dX8_singVerse_66 : decode cX8_singVerse 66 = .ok (.aload_n 0, 1) := by decide +kernel
theorem dX8_singVerse_67 : decode cX8_singVerse 67 = .ok (.getfield 28, 3) := by decide +kernel
theorem dX8_singVerse_70 : decode cX8_singVerse 70 = .ok (.getfield 132, 3) := by decide +kernel
theorem dX8_singVerse_73 : decode cX8_singVerse 73 = .ok (.iload_n 1, 1) := by decide +kernel
theorem dX8_singVerse_74 : decode cX8_singVerse 74 = .ok (.dup2, 1) := by decide +kernel
theorem dX8_singVerse_75 : decode cX8_singVerse 75 = .ok (.iaload, 1) := by decide +kernel
theorem dX8_singVerse_76 : decode cX8_singVerse 76 = .ok (.iconst 1, 1) := by decide +kernel
theorem dX8_singVerse_77 : decode cX8_singVerse 77 = .ok (.iadd, 1) := by decide +kernel
theorem dX8_singVerse_78 : decode cX8_singVerse 78 = .ok (.iastore, 1) := by decide +kernel
theorem dX8_singVerse_79 : decode cX8_singVerse 79 = .ok (.aload_n 0, 1) := by decide +kernel
theorem dX8_singVerse_80 : decode cX8_singVerse 80 = .ok (.getfield 28, 3) := by decide +kernel
theorem dX8_singVerse_83 : decode cX8_singVerse 83 = .ok (.getfield 133, 3) := by decide +kernel
theorem dX8_singVerse_86 : decode cX8_singVerse 86 = .ok (.iload_n 1, 1) := by decide +kernel
theorem dX8_singVerse_87 : decode cX8_singVerse 87 = .ok (.dup2, 1) := by decide +kernel
theorem dX8_singVerse_88 : decode cX8_singVerse 88 = .ok (.iaload, 1) := by decide +kernel
theorem dX8_singVerse_89 : decode cX8_singVerse 89 = .ok (.iload_n 3, 1) := by decide +kernel
theorem dX8_singVerse_90 : decode cX8_singVerse 90 = .ok (.iadd, 1) := by decide +kernel
theorem dX8_singVerse_91 : decode cX8_singVerse 91 = .ok (.iastore, 1) := by decide +kernel
theorem dX8_singVerse_92 : decode cX8_singVerse 92 = .ok (.aload_n 0, 1) := by decide +kernel
theorem dX8_singVerse_93 : decode cX8_singVerse 93 = .ok (.getfield 12, 3) := by decide +kernel
theorem dX8_singVerse_96 : decode cX8_singVerse 96 = .ok (.getfield 128, 3) := by decide +kernel
theorem dX8_singVerse_99 : decode cX8_singVerse 99 = .ok (.iload_n 2, 1) := by decide +kernel
theorem dX8_singVerse_100 : decode cX8_singVerse 100 = .ok (.dup2, 1) := by decide +kernel
theorem dX8_singVerse_101 : decode cX8_singVerse 101 = .ok (.iaload, 1) := by decide +kernel
theorem dX8_singVerse_102 : decode cX8_singVerse 102 = .ok (.iconst 1, 1) := by decide +kernel
theorem dX8_singVerse_103 : decode cX8_singVerse 103 = .ok (.iadd, 1) := by decide +kernel
theorem dX8_singVerse_104 : decode cX8_singVerse 104 = .ok (.iastore, 1) := by decide +kernel
theorem dX8_singVerse_105 : decode cX8_singVerse 105 = .ok (.aload_n 0, 1) := by decide +kernel
theorem dX8_singVerse_106 : decode cX8_singVerse 106 = .ok (.getfield 12, 3) := by decide +kernel
theorem dX8_singVerse_109 : decode cX8_singVerse 109 = .ok (.getfield 93, 3) := by decide +kernel
theorem dX8_singVerse_112 : decode cX8_singVerse 112 = .ok (.iload_n 2, 1) := by decide +kernel
theorem dX8_singVerse_113 : decode cX8_singVerse 113 = .ok (.bipush 9, 2) := by decide +kernel
theorem dX8_singVerse_115 : decode cX8_singVerse 115 = .ok (.aload_n 0, 1) := by decide +kernel
theorem dX8_singVerse_116 : decode cX8_singVerse 116 = .ok (.getfield 12, 3) := by decide +kernel
theorem dX8_singVerse_119 : decode cX8_singVerse 119 = .ok (.getfield 93, 3) := by decide +kernel
theorem dX8_singVerse_122 : decode cX8_singVerse 122 = .ok (.iload_n 2, 1) := by decide +kernel
theorem dX8_singVerse_123 : decode cX8_singVerse 123 = .ok (.iaload, 1) := by decide +kernel
theorem dX8_singVerse_124 : decode cX8_singVerse 124 = .ok (.iconst 1, 1) := by decide +kernel
theorem dX8_singVerse_125 : decode cX8_singVerse 125 = .ok (.iadd, 1) := by decide +kernel
theorem dX8_singVerse_126 : decode cX8_singVerse 126 = .ok (.invokestatic 116, 3) := by decide +kernel
theorem dX8_singVerse_129 : decode cX8_singVerse 129 = .ok (.iastore, 1) := by decide +kernel
theorem dX8_singVerse_130 : decode cX8_singVerse 130 = .ok (.iload_n 3, 1) := by decide +kernel
theorem dX8_singVerse_131 : decode cX8_singVerse 131 = .ok (.ireturn, 1) := by decide +kernel
theorem vm_X8_singVerse : aVm yX8_singVerse RX8 cX8_singVerse 5 (some .int) 1 := ⟨tw_840, tw_838, tw_839, tw_2, rfl, by decide +kernel, by decide +kernel, by decide +kernel⟩
theorem dX8_letNightPass_0 : decode cX8_letNightPass 0 = .ok (.aload_n 0, 1) := by decide +kernel
theorem dX8_letNightPass_1 : decode cX8_letNightPass 1 = .ok (.dup, 1) := by decide +kernel
theorem dX8_letNightPass_2 : decode cX8_letNightPass 2 = .ok (.getfield 42, 3) := by decide +kernel
theorem dX8_letNightPass_5 : decode cX8_letNightPass 5 = .ok (.iconst 1, 1) := by decide +kernel
theorem dX8_letNightPass_6 : decode cX8_letNightPass 6 = .ok (.iadd, 1) := by decide +kernel
theorem dX8_letNightPass_7 : decode cX8_letNightPass 7 = .ok (.putfield 42, 3) := by decide +kernel
theorem dX8_letNightPass_10 : decode cX8_letNightPass 10 = .ok (.iconst 0, 1) := by decide +kernel
theorem dX8_letNightPass_11 : decode cX8_letNightPass 11 = .ok (.istore_n 1, 1) := by decide +kernel
theorem dX8_letNightPass_12 : decode cX8_letNightPass 12 = .ok (.iload_n 1, 1) := by decide +kernel
theorem dX8_letNightPass_13 : decode cX8_letNightPass 13 = .ok (.aload_n 0, 1) := by decide +kernel
theorem dX8_letNightPass_14 : decode cX8_letNightPass 14 = .ok (.getfield 12, 3) := by decide +kernel
theorem dX8_letNightPass_17 : decode cX8_letNightPass 17 = .ok (.getfield 55, 3) := by decide +kernel
theorem dX8_letNightPass_20 : decode cX8_letNightPass 20 = .ok (.if_icmp .ge 33, 3) := by decide +kernel
theorem dX8_letNightPass_23 : decode cX8_letNightPass 23 = .ok (.aload_n 0, 1) := by decide +kernel
theorem dX8_letNightPass_24 : decode cX8_letNightPass 24 = .ok (.getfield 12, 3) := by decide +kernel
theorem dX8_letNightPass_27 : decode cX8_letNightPass 27 = .ok (.getfield 93, 3) := by decide +kernel
theorem dX8_letNightPass_30 : decode cX8_letNightPass 30 = .ok (.iload_n 1, 1) := by decide +kernel
theorem dX8_letNightPass_31 : decode cX8_letNightPass 31 = .ok (.iconst 0, 1) := by decide +kernel
theorem dX8_letNightPass_32 : decode cX8_letNightPass 32 = .ok (.aload_n 0, 1) := by decide +kernel
theorem dX8_letNightPass_33 : decode cX8_letNightPass 33 = .ok (.getfield 12, 3) := by decide +kernel
theorem dX8_letNightPass_36 : decode cX8_letNightPass 36 = .ok (.getfield 93, 3) := by decide +kernel
theorem dX8_letNightPass_39 : decode cX8_letNightPass 39 = .ok (.iload_n 1, 1) := by decide +kernel
theorem dX8_letNightPass_40 : decode cX8_letNightPass 40 = .ok (.iaload, 1) := by decide +kernel
theorem dX8_letNightPass_41 : decode cX8_letNightPass 41 = .ok (.iconst 2, 1) := by decide +kernel
theorem dX8_letNightPass_42 : decode cX8_letNightPass 42 = .ok (.isub, 1) := by decide +kernel
theorem dX8_letNightPass_43 : decode cX8_letNightPass 43 = .ok (.invokestatic 96, 3) := by decide +kernel
theorem dX8_letNightPass_46 : decode cX8_letNightPass 46 = .ok (.iastore, 1) := by decide +kernel
theorem dX8_letNightPass_47 : decode cX8_letNightPass 47 = .ok (.iinc 1 1, 3) := by decide +kernel
theorem dX8_letNightPass_50 : decode cX8_letNightPass 50 = .ok (.goto (-38), 3) := by decide +kernel
theorem dX8_letNightPass_53 : decode cX8_letNightPass 53 = .ok (.iconst 0, 1) := by decide +kernel
theorem dX8_letNightPass_54 : decode cX8_letNightPass 54 = .ok (.istore_n 1, 1) := by decide +kernel
theorem dX8_letNightPass_55 : decode cX8_letNightPass 55 = .ok (.iconst 0, 1) := by decide +kernel
theorem dX8_letNightPass_56 : decode cX8_letNightPass 56 = .ok (.istore_n 2, 1) := by decide +kernel
theorem dX8_letNightPass_57 : decode cX8_letNightPass 57 = .ok (.iload_n 2, 1) := by decide +kernel
theorem dX8_letNightPass_58 : decode cX8_letNightPass 58 = .ok (.aload_n 0, 1) := by decide +kernel
theorem dX8_letNightPass_59 : decode cX8_letNightPass 59 = .ok (.getfield 28, 3) := by decide +kernel
theorem dX8_letNightPass_62 : decode cX8_letNightPass 62 = .ok (.getfield 59, 3) := by decide +kernel
theorem dX8_letNightPass_65 : decode cX8_letNightPass 65 = .ok (.if_icmp .ge 43, 3) := by decide +kernel
theorem dX8_letNightPass_68 : decode cX8_letNightPass 68 = .ok (.iconst 3, 1) := by decide +kernel
theorem dX8_letNightPass_69 : decode cX8_letNightPass 69 = .ok (.bipush 99, 2) := by decide +kernel
theorem dX8_letNightPass_71 : decode cX8_letNightPass 71 = .ok (.aload_n 0, 1) := by decide +kernel
theorem dX8_letNightPass_72 : decode cX8_letNightPass 72 = .ok (.getfield 28, 3) := by decide +kernel
theorem dX8_letNightPass_75 : decode cX8_letNightPass 75 = .ok (.getfield 68, 3) := by decide +kernel
theorem dX8_letNightPass_78 : decode cX8_letNightPass 78 = .ok (.iload_n 2, 1) := by decide +kernel
theorem dX8_letNightPass_79 : decode cX8_letNightPass 79 = .ok (.iaload, 1) := by decide +kernel
theorem dX8_letNightPass_80 : decode cX8_letNightPass 80 = .ok (.isub, 1) := by decide +kernel
theorem dX8_letNightPass_81 : decode cX8_letNightPass 81 = .ok (.invokestatic 116, 3) := by decide +kernel
theorem dX8_letNightPass_84 : decode cX8_letNightPass 84 = .ok (.istore_n 3, 1) := by decide +kernel
theorem dX8_letNightPass_85 : decode cX8_letNightPass 85 = .ok (.aload_n 0, 1) := by decide +kernel
theorem dX8_letNightPass_86 : decode cX8_letNightPass 86 = .ok (.getfield 28, 3) := by decide +kernel
theorem dX8_letNightPass_89 : decode cX8_letNightPass 89 = .ok (.getfield 68, 3) := by decide +kernel
theorem dX8_letNightPass_92 : decode cX8_letNightPass 92 = .ok (.iload_n 2, 1) := by decide +kernel
theorem dX8_letNightPass_93 : decode cX8_letNightPass 93 = .ok (.dup2, 1) := by decide +kernel
theorem dX8_letNightPass_94 : decode cX8_letNightPass 94 = .ok (.iaload, 1) := by decide +kernel
theorem dX8_letNightPass_95 : decode cX8_letNightPass 95 = .ok (.iload_n 3, 1) := by decide +kernel
theorem dX8_letNightPass_96 : decode cX8_letNightPass 96 = .ok (.iadd, 1) := by decide +kernel
theorem dX8_letNightPass_97 : decode cX8_letNightPass 97 = .ok (.iastore, 1) := by decide +kernel
theorem dX8_letNightPass_98 : decode cX8_letNightPass 98 = .ok (.iload_n 1, 1) := by decide +kernel
theorem dX8_letNightPass_99 : decode cX8_letNightPass 99 = .ok (.iload_n 3, 1) := by decide +kernel
theorem dX8_letNightPass_100 : decode cX8_letNightPass 100 = .ok (.iadd, 1) := by decide +kernel
theorem dX8_letNightPass_101 : decode cX8_letNightPass 101 = .ok (.istore_n 1, 1) := by decide +kernel
theorem dX8_letNightPass_102 : decode cX8_letNightPass 102 = .ok (.iinc 2 1, 3) := by decide +kernel
theorem dX8_letNightPass_105 : decode cX8_letNightPass 105 = .ok (.goto (-48), 3) := by decide +kernel
theorem dX8_letNightPass_108 : decode cX8_letNightPass 108 = .ok (.iload_n 1, 1) := by decide +kernel
theorem dX8_letNightPass_109 : decode cX8_letNightPass 109 = .ok (.ireturn, 1) := by decide +kernel
theorem vm_X8_letNightPass : aVm yX8_letNightPass RX8 cX8_letNightPass 4 (some .int) 0 := ⟨tw_849, tw_847, tw_848, tw_2, rfl, by decide +kernel, by decide +kernel, by decide +kernel⟩
def w_X8_addRoom (x1 : Int32) (q : aS) (P : Int32 → aS → Prop) : Prop := ∀ x2 : Int32, x2 = (q.1 2 0) → ∀ q3 : aS, q3 = (up2 q.1 2 0 ((q.1 2 0) + 1), q.2) → (vp_in x2 6 ∧ ∀ q4 : aS, q4 = (up2 q3.1 3 (Int32.toNatClampNeg x2) x1, q3.2) → (vp_in x2 6 ∧ ∀ q5 : aS, q5 = (up2 q4.1 4 (Int32.toNatClampNeg x2) 0, q4.2) → (vp_in x2 6 ∧ ∀ q6 : aS, q6 = (up2 q5.1 5 (Int32.toNatClampNeg x2) 0, q5.2) → P x2 q6)))
def w_X8_addEcho (x1 : Int32) (x2 : Int32) (q : aS) (P : Int32 → aS → Prop) : Prop := ∀ x3 : Int32, x3 = (q.1 6 0) → ∀ q4 : aS, q4 = (up2 q.1 6 0 ((q.1 6 0) + 1), q.2) → (vp_in x3 8 ∧ ∀ q5 : aS, q5 = (up2 q4.1 7 (Int32.toNatClampNeg x3) x1, q4.2) → (vp_in x3 8 ∧ ∀ q6 : aS, q6 = (up2 q5.1 8 (Int32.toNatClampNeg x3) x2, q5.2) → (vp_in x3 8 ∧ ∀ q7 : aS, q7 = (up2 q6.1 9 (Int32.toNatClampNeg x3) (-1), q6.2) → (vp_in x3 8 ∧ ∀ q8 : aS, q8 = (up2 q7.1 10 (Int32.toNatClampNeg x3) 0, q7.2) → (vp_in x3 8 ∧ ∀ q9 : aS, q9 = (up2 q8.1 11 (Int32.toNatClampNeg x3) 0, q8.2) → P x3 q9)))))
def w_X8_addSinger (x1 : Int32) (x2 : Int32) (q : aS) (P : Int32 → aS → Prop) : Prop := ∀ x3 : Int32, x3 = (q.1 12 0) → ∀ q4 : aS, q4 = (up2 q.1 12 0 ((q.1 12 0) + 1), q.2) → (vp_in x3 6 ∧ ∀ q5 : aS, q5 = (up2 q4.1 13 (Int32.toNatClampNeg x3) x1, q4.2) → (vp_in x3 6 ∧ ∀ q6 : aS, q6 = (up2 q5.1 14 (Int32.toNatClampNeg x3) x2, q5.2) → (vp_in x3 6 ∧ ∀ q7 : aS, q7 = (up2 q6.1 15 (Int32.toNatClampNeg x3) (-1), q6.2) → (vp_in x3 6 ∧ ∀ q8 : aS, q8 = (up2 q7.1 16 (Int32.toNatClampNeg x3) 0, q7.2) → (vp_in x3 6 ∧ ∀ q9 : aS, q9 = (up2 q8.1 17 (Int32.toNatClampNeg x3) 0, q8.2) → P x3 q9)))))
def w_X8_moveIn (x1 : Int32) (x2 : Int32) (q : aS) (P : Int32 → aS → Prop) : Prop := (vp_in x1 6 ∧ ∀ q3 : aS, q3 = (up2 q.1 15 (Int32.toNatClampNeg x1) x2, q.2) → w_X8_singersIn x2 q3 (fun r4 q5 => w_J6_bitCount_0f7a4 r4 q5 (fun r6 q7 => P r6 q7)))
def w_X8_moveOut (x1 : Int32) (q : aS) (P : Int32 → aS → Prop) : Prop := (vp_in x1 6 ∧ ∀ x2 : Int32, x2 = (q.1 15 (Int32.toNatClampNeg x1)) → (vp_in x1 6 ∧ ∀ q3 : aS, q3 = (up2 q.1 15 (Int32.toNatClampNeg x1) (-1), q.2) → P x2 q3))
def w_X8_moveEcho (x1 : Int32) (x2 : Int32) (q : aS) (P : Int32 → aS → Prop) : Prop := (vp_in x1 8 ∧ ∀ x3 : Int32, x3 = (q.1 7 (Int32.toNatClampNeg x1)) → (vp_in x1 8 ∧ ∀ q4 : aS, q4 = (up2 q.1 7 (Int32.toNatClampNeg x1) x2, q.2) → P x3 q4))
def w_X8_letEcho (x1 : Int32) (x2 : Int32) (x3 : Int32) (q : aS) (P : Int32 → aS → Prop) : Prop := (vp_in x2 8 ∧ ∀ x4 : Int32, x4 = (q.1 8 (Int32.toNatClampNeg x2)) → (vp_in x1 6 ∧ (vp_in x1 6 ∧ ∀ q5 : aS, q5 = (up2 q.1 14 (Int32.toNatClampNeg x1) ((q.1 14 (Int32.toNatClampNeg x1)) - x4), q.2) → ∀ q6 : aS, q6 = (up2 q5.1 1 4 ((q5.1 1 4) + x4), q5.2) → (vp_in x2 8 ∧ ∀ q7 : aS, q7 = (up2 q6.1 9 (Int32.toNatClampNeg x2) x1, q6.2) → (vp_in x2 8 ∧ ∀ q8 : aS, q8 = (up2 q7.1 10 (Int32.toNatClampNeg x2) x3, q7.2) → P x4 q8)))))
def w_X8_endLetting (x1 : Int32) (q : aS) (P : Int32 → aS → Prop) : Prop := (vp_in x1 8 ∧ ∀ x2 : Int32, x2 = (q.1 9 (Int32.toNatClampNeg x1)) → w_X8_aboveDamp x1 q (fun r3 q4 => (vp_in x2 6 ∧ (vp_in x2 6 ∧ ∀ q5 : aS, q5 = (up2 q4.1 14 (Int32.toNatClampNeg x2) (if ((q4.1 14 (Int32.toNatClampNeg x2)) + r3) < 99 then ((q4.1 14 (Int32.toNatClampNeg x2)) + r3) else 99), q4.2) → ∀ q6 : aS, q6 = (up2 q5.1 1 5 ((q5.1 1 5) + r3), q5.2) → (vp_in x1 8 ∧ ∀ q7 : aS, q7 = (up2 q6.1 1 6 ((q6.1 1 6) + ((q6.1 8 (Int32.toNatClampNeg x1)) - r3)), q6.2) → (vp_in x1 8 ∧ ∀ q8 : aS, q8 = (up2 q7.1 9 (Int32.toNatClampNeg x1) (-1), q7.2) → (vp_in x1 8 ∧ ∀ q9 : aS, q9 = (up2 q8.1 10 (Int32.toNatClampNeg x1) 0, q8.2) → P r3 q9)))))))
def w_X8_echoVerse (x1 : Int32) (q : aS) (P : Int32 → aS → Prop) : Prop := w_X8_aboveDamp x1 q (fun r2 q3 => (vp_in x1 8 ∧ (vp_in x1 8 ∧ ∀ q4 : aS, q4 = (up2 q3.1 11 (Int32.toNatClampNeg x1) ((q3.1 11 (Int32.toNatClampNeg x1)) + r2), q3.2) → (vp_in x1 8 ∧ (vp_in x1 8 ∧ ∀ q5 : aS, q5 = (up2 q4.1 10 (Int32.toNatClampNeg x1) ((q4.1 10 (Int32.toNatClampNeg x1)) - 1), q4.2) → (vp_in x1 8 ∧ ((¬ (q5.1 10 (Int32.toNatClampNeg x1)) = 0 → P r2 q5) ∧ ((q5.1 10 (Int32.toNatClampNeg x1)) = 0 → w_X8_endLetting x1 q5 (fun r6 q7 => P r2 q7)))))))))
def LX8_singVerse_28 (c1 : Int32) (c2 : Int32) (P : Int32 → aS → Prop) (K : Int32 → aS → Prop) : Nat → Int32 → Int32 → aS → Prop
  | 0, _, _, _ => False
  | N + 1, v3, v4, q => (((q.1 6 0) ≤ v4 → K v3 q) ∧ (¬ (q.1 6 0) ≤ v4 → w_X8_isHeard v4 c1 c2 q (fun r4 q5 => ((r4 = 0 → ∀ x6 : Int32, x6 = v4 + 1 → (LX8_singVerse_28 c1 c2 P K N) v3 x6 q5) ∧ (¬ r4 = 0 → w_X8_echoVerse v4 q5 (fun r7 q8 => ∀ x9 : Int32, x9 = (v3 + r7) → ∀ x10 : Int32, x10 = v4 + 1 → (LX8_singVerse_28 c1 c2 P K N) x9 x10 q8))))))
def w_X8_singVerse (x1 : Int32) (q : aS) (P : Int32 → aS → Prop) : Prop := (vp_in x1 6 ∧ ∀ x2 : Int32, x2 = (q.1 15 (Int32.toNatClampNeg x1)) → (vp_in x1 6 ∧ (vp_in x1 6 ∧ ∀ q3 : aS, q3 = (up2 q.1 14 (Int32.toNatClampNeg x1) ((q.1 14 (Int32.toNatClampNeg x1)) - 1), q.2) → ∃ M17, LX8_singVerse_28 x1 x2 P (fun y11 q12 => (vp_in x1 6 ∧ (vp_in x1 6 ∧ ∀ q13 : aS, q13 = (up2 q12.1 16 (Int32.toNatClampNeg x1) ((q12.1 16 (Int32.toNatClampNeg x1)) + 1), q12.2) → (vp_in x1 6 ∧ (vp_in x1 6 ∧ ∀ q14 : aS, q14 = (up2 q13.1 17 (Int32.toNatClampNeg x1) ((q13.1 17 (Int32.toNatClampNeg x1)) + y11), q13.2) → (vp_in x2 6 ∧ (vp_in x2 6 ∧ ∀ q15 : aS, q15 = (up2 q14.1 5 (Int32.toNatClampNeg x2) ((q14.1 5 (Int32.toNatClampNeg x2)) + 1), q14.2) → (vp_in x2 6 ∧ (vp_in x2 6 ∧ ∀ q16 : aS, q16 = (up2 q15.1 4 (Int32.toNatClampNeg x2) (if ((q15.1 4 (Int32.toNatClampNeg x2)) + 1) < 9 then ((q15.1 4 (Int32.toNatClampNeg x2)) + 1) else 9), q15.2) → P y11 q16))))))))) M17 0 0 q3)))
def LX8_letNightPass_12 (P : Int32 → aS → Prop) (K : aS → Prop) : Nat → Int32 → aS → Prop
  | 0, _, _ => False
  | N + 1, v1, q => (((q.1 2 0) ≤ v1 → K  q) ∧ (¬ (q.1 2 0) ≤ v1 → (vp_in v1 6 ∧ (vp_in v1 6 ∧ ∀ q2 : aS, q2 = (up2 q.1 4 (Int32.toNatClampNeg v1) (if 0 < ((q.1 4 (Int32.toNatClampNeg v1)) - 2) then ((q.1 4 (Int32.toNatClampNeg v1)) - 2) else 0), q.2) → ∀ x3 : Int32, x3 = v1 + 1 → (LX8_letNightPass_12 P K N) x3 q2))))
def LX8_letNightPass_57 (P : Int32 → aS → Prop) (K : Int32 → aS → Prop) : Nat → Int32 → Int32 → aS → Prop
  | 0, _, _, _ => False
  | N + 1, v1, v2, q => (((q.1 12 0) ≤ v2 → K v1 q) ∧ (¬ (q.1 12 0) ≤ v2 → (vp_in v2 6 ∧ ∀ x5 : Int32, x5 = (if (99 - (q.1 14 (Int32.toNatClampNeg v2))) < 3 then (99 - (q.1 14 (Int32.toNatClampNeg v2))) else 3) → (vp_in v2 6 ∧ (vp_in v2 6 ∧ ∀ q6 : aS, q6 = (up2 q.1 14 (Int32.toNatClampNeg v2) ((q.1 14 (Int32.toNatClampNeg v2)) + x5), q.2) → ∀ x7 : Int32, x7 = (v1 + x5) → ∀ x8 : Int32, x8 = v2 + 1 → (LX8_letNightPass_57 P K N) x7 x8 q6)))))
def w_X8_letNightPass (q : aS) (P : Int32 → aS → Prop) : Prop := ∀ q1 : aS, q1 = (up2 q.1 1 3 ((q.1 1 3) + 1), q.2) → ∃ M12, LX8_letNightPass_12 P (fun q4 => ∃ M11, LX8_letNightPass_57 P (fun y9 q10 => P y9 q10) M11 0 0 q4) M12 0 q1
set_option maxRecDepth 20000 in
theorem t_X8_addRoom {l : Launch} {g : aG} (hX : isX g) (hl : l.stackTraces = false) (x1 : Int32) (q : aS) (P : Int32 → aS → Prop) (h : w_X8_addRoom x1 q P) : aMi l g yX8_addRoom (aWs yX8_addRoom cX8_addRoom 3 (some .int)) 0 0 0 [.ref (gAd g 1), .int x1] q P (fun _ _ => False) := by
  refine aMi_of RX8 ⟨by decide +kernel, rfl⟩ (cat_all rfl) (Nat.le_of_ble_eq_true rfl) hl hX.cl (fun f hR hC hE => ?_)
  show AW f g 0 [some (.ref (gAd g 1)), some (.int x1), none] [] q 0 0
  unfold w_X8_addRoom at h
  refine a_aload_n (pc := 0) hC dX8_addRoom_0 rfl ?_
  refine a_get (pc := 1) hC cl_X8 (oX_1 hX) 0 (by decide) tw_150 rfl dX8_addRoom_1 ?_
  refine a_get (pc := 4) hC cl_X6 (oX_2 hX) 0 (by decide) tw_55 rfl dX8_addRoom_4 ?_
  refine a_istore_n (pc := 7) hC dX8_addRoom_7 (Nat.le_of_ble_eq_true rfl) ?_
  replace h := h _ rfl
  refine a_aload_n (pc := 8) hC dX8_addRoom_8 rfl ?_
  refine a_get (pc := 9) hC cl_X8 (oX_1 hX) 0 (by decide) tw_150 rfl dX8_addRoom_9 ?_
  refine a_dup (pc := 12) hC dX8_addRoom_12 rfl ?_
  refine a_get (pc := 13) hC cl_X6 (oX_2 hX) 0 (by decide) tw_55 rfl dX8_addRoom_13 ?_
  refine a_iconst (pc := 16) hC dX8_addRoom_16 (v := 1) rfl ?_
  refine a_iadd (pc := 17) hC dX8_addRoom_17 ?_
  refine a_put (pc := 18) hC cl_X6 (oX_2 hX) 0 (by decide) tw_55 tyX6 tyX6_ok rfl rfl rfl (Nat.le_of_ble_eq_true rfl) rfl dX8_addRoom_18 ?_
  replace h := h _ rfl
  refine a_aload_n (pc := 21) hC dX8_addRoom_21 rfl ?_
  refine a_get (pc := 22) hC cl_X8 (oX_1 hX) 0 (by decide) tw_150 rfl dX8_addRoom_22 ?_
  refine a_get (pc := 25) hC cl_X6 (oX_2 hX) 1 (by decide) tw_58 rfl dX8_addRoom_25 ?_
  refine a_iload_n (pc := 28) hC dX8_addRoom_28 rfl ?_
  refine a_iload_n (pc := 29) hC dX8_addRoom_29 rfl ?_
  refine a_iast (pc := 30) hC (oX_3 hX) h.1 dX8_addRoom_30 ?_
  replace h := h.2
  replace h := h _ rfl
  refine a_aload_n (pc := 31) hC dX8_addRoom_31 rfl ?_
  refine a_get (pc := 32) hC cl_X8 (oX_1 hX) 0 (by decide) tw_150 rfl dX8_addRoom_32 ?_
  refine a_get (pc := 35) hC cl_X6 (oX_2 hX) 2 (by decide) tw_62 rfl dX8_addRoom_35 ?_
  refine a_iload_n (pc := 38) hC dX8_addRoom_38 rfl ?_
  refine a_iconst (pc := 39) hC dX8_addRoom_39 (v := 0) rfl ?_
  refine a_iast (pc := 40) hC (oX_4 hX) h.1 dX8_addRoom_40 ?_
  replace h := h.2
  replace h := h _ rfl
  refine a_aload_n (pc := 41) hC dX8_addRoom_41 rfl ?_
  refine a_get (pc := 42) hC cl_X8 (oX_1 hX) 0 (by decide) tw_150 rfl dX8_addRoom_42 ?_
  refine a_get (pc := 45) hC cl_X6 (oX_2 hX) 3 (by decide) tw_65 rfl dX8_addRoom_45 ?_
  refine a_iload_n (pc := 48) hC dX8_addRoom_48 rfl ?_
  refine a_iconst (pc := 49) hC dX8_addRoom_49 (v := 0) rfl ?_
  refine a_iast (pc := 50) hC (oX_5 hX) h.1 dX8_addRoom_50 ?_
  replace h := h.2
  replace h := h _ rfl
  refine a_iload_n (pc := 51) hC dX8_addRoom_51 rfl ?_
  exact a_iret (pc := 52) hC hE h (Nat.le_of_ble_eq_true rfl) (Nat.le_of_ble_eq_true rfl) dX8_addRoom_52
set_option maxRecDepth 20000 in
theorem t_X8_addEcho {l : Launch} {g : aG} (hX : isX g) (hl : l.stackTraces = false) (x1 : Int32) (x2 : Int32) (q : aS) (P : Int32 → aS → Prop) (h : w_X8_addEcho x1 x2 q P) : aMi l g yX8_addEcho (aWs yX8_addEcho cX8_addEcho 4 (some .int)) 0 0 0 [.ref (gAd g 1), .int x1, .int x2] q P (fun _ _ => False) := by
  refine aMi_of RX8 ⟨by decide +kernel, rfl⟩ (cat_all rfl) (Nat.le_of_ble_eq_true rfl) hl hX.cl (fun f hR hC hE => ?_)
  show AW f g 0 [some (.ref (gAd g 1)), some (.int x1), some (.int x2), none] [] q 0 0
  unfold w_X8_addEcho at h
  refine a_aload_n (pc := 0) hC dX8_addEcho_0 rfl ?_
  refine a_get (pc := 1) hC cl_X8 (oX_1 hX) 1 (by decide) tw_152 rfl dX8_addEcho_1 ?_
  refine a_get (pc := 4) hC cl_X1 (oX_6 hX) 0 (by decide) tw_83 rfl dX8_addEcho_4 ?_
  refine a_istore_n (pc := 7) hC dX8_addEcho_7 (Nat.le_of_ble_eq_true rfl) ?_
  replace h := h _ rfl
  refine a_aload_n (pc := 8) hC dX8_addEcho_8 rfl ?_
  refine a_get (pc := 9) hC cl_X8 (oX_1 hX) 1 (by decide) tw_152 rfl dX8_addEcho_9 ?_
  refine a_dup (pc := 12) hC dX8_addEcho_12 rfl ?_
  refine a_get (pc := 13) hC cl_X1 (oX_6 hX) 0 (by decide) tw_83 rfl dX8_addEcho_13 ?_
  refine a_iconst (pc := 16) hC dX8_addEcho_16 (v := 1) rfl ?_
  refine a_iadd (pc := 17) hC dX8_addEcho_17 ?_
  refine a_put (pc := 18) hC cl_X1 (oX_6 hX) 0 (by decide) tw_83 tyX1 tyX1_ok rfl rfl rfl (Nat.le_of_ble_eq_true rfl) rfl dX8_addEcho_18 ?_
  replace h := h _ rfl
  refine a_aload_n (pc := 21) hC dX8_addEcho_21 rfl ?_
  refine a_get (pc := 22) hC cl_X8 (oX_1 hX) 1 (by decide) tw_152 rfl dX8_addEcho_22 ?_
  refine a_get (pc := 25) hC cl_X1 (oX_6 hX) 1 (by decide) tw_86 rfl dX8_addEcho_25 ?_
  refine a_iload_n (pc := 28) hC dX8_addEcho_28 rfl ?_
  refine a_iload_n (pc := 29) hC dX8_addEcho_29 rfl ?_
  refine a_iast (pc := 30) hC (oX_7 hX) h.1 dX8_addEcho_30 ?_
  replace h := h.2
  replace h := h _ rfl
  refine a_aload_n (pc := 31) hC dX8_addEcho_31 rfl ?_
  refine a_get (pc := 32) hC cl_X8 (oX_1 hX) 1 (by decide) tw_152 rfl dX8_addEcho_32 ?_
  refine a_get (pc := 35) hC cl_X1 (oX_6 hX) 2 (by decide) tw_89 rfl dX8_addEcho_35 ?_
  refine a_iload_n (pc := 38) hC dX8_addEcho_38 rfl ?_
  refine a_iload_n (pc := 39) hC dX8_addEcho_39 rfl ?_
  refine a_iast (pc := 40) hC (oX_8 hX) h.1 dX8_addEcho_40 ?_
  replace h := h.2
  replace h := h _ rfl
  refine a_aload_n (pc := 41) hC dX8_addEcho_41 rfl ?_
  refine a_get (pc := 42) hC cl_X8 (oX_1 hX) 1 (by decide) tw_152 rfl dX8_addEcho_42 ?_
  refine a_get (pc := 45) hC cl_X1 (oX_6 hX) 3 (by decide) tw_92 rfl dX8_addEcho_45 ?_
  refine a_iload_n (pc := 48) hC dX8_addEcho_48 rfl ?_
  refine a_iconst (pc := 49) hC dX8_addEcho_49 (v := (-1)) rfl ?_
  refine a_iast (pc := 50) hC (oX_9 hX) h.1 dX8_addEcho_50 ?_
  replace h := h.2
  replace h := h _ rfl
  refine a_aload_n (pc := 51) hC dX8_addEcho_51 rfl ?_
  refine a_get (pc := 52) hC cl_X8 (oX_1 hX) 1 (by decide) tw_152 rfl dX8_addEcho_52 ?_
  refine a_get (pc := 55) hC cl_X1 (oX_6 hX) 4 (by decide) tw_96 rfl dX8_addEcho_55 ?_
  refine a_iload_n (pc := 58) hC dX8_addEcho_58 rfl ?_
  refine a_iconst (pc := 59) hC dX8_addEcho_59 (v := 0) rfl ?_
  refine a_iast (pc := 60) hC (oX_10 hX) h.1 dX8_addEcho_60 ?_
  replace h := h.2
  replace h := h _ rfl
  refine a_aload_n (pc := 61) hC dX8_addEcho_61 rfl ?_
  refine a_get (pc := 62) hC cl_X8 (oX_1 hX) 1 (by decide) tw_152 rfl dX8_addEcho_62 ?_
  refine a_get (pc := 65) hC cl_X1 (oX_6 hX) 5 (by decide) tw_99 rfl dX8_addEcho_65 ?_
  refine a_iload_n (pc := 68) hC dX8_addEcho_68 rfl ?_
  refine a_iconst (pc := 69) hC dX8_addEcho_69 (v := 0) rfl ?_
  refine a_iast (pc := 70) hC (oX_11 hX) h.1 dX8_addEcho_70 ?_
  replace h := h.2
  replace h := h _ rfl
  refine a_iload_n (pc := 71) hC dX8_addEcho_71 rfl ?_
  exact a_iret (pc := 72) hC hE h (Nat.le_of_ble_eq_true rfl) (Nat.le_of_ble_eq_true rfl) dX8_addEcho_72
set_option maxRecDepth 20000 in
theorem t_X8_addSinger {l : Launch} {g : aG} (hX : isX g) (hl : l.stackTraces = false) (x1 : Int32) (x2 : Int32) (q : aS) (P : Int32 → aS → Prop) (h : w_X8_addSinger x1 x2 q P) : aMi l g yX8_addSinger (aWs yX8_addSinger cX8_addSinger 4 (some .int)) 0 0 0 [.ref (gAd g 1), .int x1, .int x2] q P (fun _ _ => False) := by
  refine aMi_of RX8 ⟨by decide +kernel, rfl⟩ (cat_all rfl) (Nat.le_of_ble_eq_true rfl) hl hX.cl (fun f hR hC hE => ?_)
  show AW f g 0 [some (.ref (gAd g 1)), some (.int x1), some (.int x2), none] [] q 0 0
  unfold w_X8_addSinger at h
  refine a_aload_n (pc := 0) hC dX8_addSinger_0 rfl ?_
  refine a_get (pc := 1) hC cl_X8 (oX_1 hX) 2 (by decide) tw_154 rfl dX8_addSinger_1 ?_
  refine a_get (pc := 4) hC cl_X7 (oX_12 hX) 0 (by decide) tw_120 rfl dX8_addSinger_4 ?_
  refine a_istore_n (pc := 7) hC dX8_addSinger_7 (Nat.le_of_ble_eq_true rfl) ?_
  replace h := h _ rfl
  refine a_aload_n (pc := 8) hC dX8_addSinger_8 rfl ?_
  refine a_get (pc := 9) hC cl_X8 (oX_1 hX) 2 (by decide) tw_154 rfl dX8_addSinger_9 ?_
  refine a_dup (pc := 12) hC dX8_addSinger_12 rfl ?_
  refine a_get (pc := 13) hC cl_X7 (oX_12 hX) 0 (by decide) tw_120 rfl dX8_addSinger_13 ?_
  refine a_iconst (pc := 16) hC dX8_addSinger_16 (v := 1) rfl ?_
  refine a_iadd (pc := 17) hC dX8_addSinger_17 ?_
  refine a_put (pc := 18) hC cl_X7 (oX_12 hX) 0 (by decide) tw_120 tyX7 tyX7_ok rfl rfl rfl (Nat.le_of_ble_eq_true rfl) rfl dX8_addSinger_18 ?_
  replace h := h _ rfl
  refine a_aload_n (pc := 21) hC dX8_addSinger_21 rfl ?_
  refine a_get (pc := 22) hC cl_X8 (oX_1 hX) 2 (by decide) tw_154 rfl dX8_addSinger_22 ?_
  refine a_get (pc := 25) hC cl_X7 (oX_12 hX) 1 (by decide) tw_123 rfl dX8_addSinger_25 ?_
  refine a_iload_n (pc := 28) hC dX8_addSinger_28 rfl ?_
  refine a_iload_n (pc := 29) hC dX8_addSinger_29 rfl ?_
  refine a_iast (pc := 30) hC (oX_13 hX) h.1 dX8_addSinger_30 ?_
  replace h := h.2
  replace h := h _ rfl
  refine a_aload_n (pc := 31) hC dX8_addSinger_31 rfl ?_
  refine a_get (pc := 32) hC cl_X8 (oX_1 hX) 2 (by decide) tw_154 rfl dX8_addSinger_32 ?_
  refine a_get (pc := 35) hC cl_X7 (oX_12 hX) 2 (by decide) tw_126 rfl dX8_addSinger_35 ?_
  refine a_iload_n (pc := 38) hC dX8_addSinger_38 rfl ?_
  refine a_iload_n (pc := 39) hC dX8_addSinger_39 rfl ?_
  refine a_iast (pc := 40) hC (oX_14 hX) h.1 dX8_addSinger_40 ?_
  replace h := h.2
  replace h := h _ rfl
  refine a_aload_n (pc := 41) hC dX8_addSinger_41 rfl ?_
  refine a_get (pc := 42) hC cl_X8 (oX_1 hX) 2 (by decide) tw_154 rfl dX8_addSinger_42 ?_
  refine a_get (pc := 45) hC cl_X7 (oX_12 hX) 3 (by decide) tw_129 rfl dX8_addSinger_45 ?_
  refine a_iload_n (pc := 48) hC dX8_addSinger_48 rfl ?_
  refine a_iconst (pc := 49) hC dX8_addSinger_49 (v := (-1)) rfl ?_
  refine a_iast (pc := 50) hC (oX_15 hX) h.1 dX8_addSinger_50 ?_
  replace h := h.2
  replace h := h _ rfl
  refine a_aload_n (pc := 51) hC dX8_addSinger_51 rfl ?_
  refine a_get (pc := 52) hC cl_X8 (oX_1 hX) 2 (by decide) tw_154 rfl dX8_addSinger_52 ?_
  refine a_get (pc := 55) hC cl_X7 (oX_12 hX) 4 (by decide) tw_133 rfl dX8_addSinger_55 ?_
  refine a_iload_n (pc := 58) hC dX8_addSinger_58 rfl ?_
  refine a_iconst (pc := 59) hC dX8_addSinger_59 (v := 0) rfl ?_
  refine a_iast (pc := 60) hC (oX_16 hX) h.1 dX8_addSinger_60 ?_
  replace h := h.2
  replace h := h _ rfl
  refine a_aload_n (pc := 61) hC dX8_addSinger_61 rfl ?_
  refine a_get (pc := 62) hC cl_X8 (oX_1 hX) 2 (by decide) tw_154 rfl dX8_addSinger_62 ?_
  refine a_get (pc := 65) hC cl_X7 (oX_12 hX) 5 (by decide) tw_136 rfl dX8_addSinger_65 ?_
  refine a_iload_n (pc := 68) hC dX8_addSinger_68 rfl ?_
  refine a_iconst (pc := 69) hC dX8_addSinger_69 (v := 0) rfl ?_
  refine a_iast (pc := 70) hC (oX_17 hX) h.1 dX8_addSinger_70 ?_
  replace h := h.2
  replace h := h _ rfl
  refine a_iload_n (pc := 71) hC dX8_addSinger_71 rfl ?_
  exact a_iret (pc := 72) hC hE h (Nat.le_of_ble_eq_true rfl) (Nat.le_of_ble_eq_true rfl) dX8_addSinger_72
set_option maxRecDepth 20000 in
theorem t_X8_moveIn {l : Launch} {g : aG} (hX : isX g) (hl : l.stackTraces = false) (x1 : Int32) (x2 : Int32) (q : aS) (P : Int32 → aS → Prop) (h : w_X8_moveIn x1 x2 q P) : aMi l g yX8_moveIn (aWs yX8_moveIn cX8_moveIn 3 (some .int)) 1 0 0 [.ref (gAd g 1), .int x1, .int x2] q P (fun _ _ => False) := by
  refine aMi_of RX8 ⟨by decide +kernel, rfl⟩ (cat_all rfl) (Nat.le_of_ble_eq_true rfl) hl hX.cl (fun f hR hC hE => ?_)
  show AW f g 0 [some (.ref (gAd g 1)), some (.int x1), some (.int x2)] [] q 0 0
  unfold w_X8_moveIn at h
  refine a_aload_n (pc := 0) hC dX8_moveIn_0 rfl ?_
  refine a_get (pc := 1) hC cl_X8 (oX_1 hX) 2 (by decide) tw_154 rfl dX8_moveIn_1 ?_
  refine a_get (pc := 4) hC cl_X7 (oX_12 hX) 3 (by decide) tw_129 rfl dX8_moveIn_4 ?_
  refine a_iload_n (pc := 7) hC dX8_moveIn_7 rfl ?_
  refine a_iload_n (pc := 8) hC dX8_moveIn_8 rfl ?_
  refine a_iast (pc := 9) hC (oX_15 hX) h.1 dX8_moveIn_9 ?_
  replace h := h.2
  replace h := h _ rfl
  refine a_aload_n (pc := 10) hC dX8_moveIn_10 rfl ?_
  refine a_iload_n (pc := 11) hC dX8_moveIn_11 rfl ?_
  refine a_callV (pc := 12) hC hR vm_X8_singersIn tw_725 cl_X8 (oX_1 hX) ⟨(Nat.le_of_ble_eq_true rfl), (Nat.le_of_ble_eq_true rfl), (Nat.le_of_ble_eq_true rfl), (Nat.le_of_ble_eq_true rfl)⟩ dX8_moveIn_12 (t_X8_singersIn hX hC.tr _ _ _ h) rfl rfl rfl (Nat.le_of_ble_eq_true rfl) (fun r4 q5 h => ?_)
  refine a_callS (pc := 15) hC hR sm_J6_bitCount_0f7a4 tw_726 ⟨(Nat.le_of_ble_eq_true rfl), (Nat.le_of_ble_eq_true rfl), (Nat.le_of_ble_eq_true rfl), (Nat.le_of_ble_eq_true rfl)⟩ dX8_moveIn_15 (t_J6_bitCount_0f7a4 hX.cl hC.tr _ _ _ h) rfl rfl rfl (Nat.le_of_ble_eq_true rfl) (fun r6 q7 h => ?_)
  exact a_iret (pc := 18) hC hE h (Nat.le_of_ble_eq_true rfl) (Nat.le_of_ble_eq_true rfl) dX8_moveIn_18
set_option maxRecDepth 20000 in
theorem t_X8_moveOut {l : Launch} {g : aG} (hX : isX g) (hl : l.stackTraces = false) (x1 : Int32) (q : aS) (P : Int32 → aS → Prop) (h : w_X8_moveOut x1 q P) : aMi l g yX8_moveOut (aWs yX8_moveOut cX8_moveOut 3 (some .int)) 0 0 0 [.ref (gAd g 1), .int x1] q P (fun _ _ => False) := by
  refine aMi_of RX8 ⟨by decide +kernel, rfl⟩ (cat_all rfl) (Nat.le_of_ble_eq_true rfl) hl hX.cl (fun f hR hC hE => ?_)
  show AW f g 0 [some (.ref (gAd g 1)), some (.int x1), none] [] q 0 0
  unfold w_X8_moveOut at h
  refine a_aload_n (pc := 0) hC dX8_moveOut_0 rfl ?_
  refine a_get (pc := 1) hC cl_X8 (oX_1 hX) 2 (by decide) tw_154 rfl dX8_moveOut_1 ?_
  refine a_get (pc := 4) hC cl_X7 (oX_12 hX) 3 (by decide) tw_129 rfl dX8_moveOut_4 ?_
  refine a_iload_n (pc := 7) hC dX8_moveOut_7 rfl ?_
  refine a_iald (pc := 8) hC (oX_15 hX) h.1 dX8_moveOut_8 ?_
  replace h := h.2
  refine a_istore_n (pc := 9) hC dX8_moveOut_9 (Nat.le_of_ble_eq_true rfl) ?_
  replace h := h _ rfl
  refine a_aload_n (pc := 10) hC dX8_moveOut_10 rfl ?_
  refine a_get (pc := 11) hC cl_X8 (oX_1 hX) 2 (by decide) tw_154 rfl dX8_moveOut_11 ?_
  refine a_get (pc := 14) hC cl_X7 (oX_12 hX) 3 (by decide) tw_129 rfl dX8_moveOut_14 ?_
  refine a_iload_n (pc := 17) hC dX8_moveOut_17 rfl ?_
  refine a_iconst (pc := 18) hC dX8_moveOut_18 (v := (-1)) rfl ?_
  refine a_iast (pc := 19) hC (oX_15 hX) h.1 dX8_moveOut_19 ?_
  replace h := h.2
  replace h := h _ rfl
  refine a_iload_n (pc := 20) hC dX8_moveOut_20 rfl ?_
  exact a_iret (pc := 21) hC hE h (Nat.le_of_ble_eq_true rfl) (Nat.le_of_ble_eq_true rfl) dX8_moveOut_21
set_option maxRecDepth 20000 in
theorem t_X8_moveEcho {l : Launch} {g : aG} (hX : isX g) (hl : l.stackTraces = false) (x1 : Int32) (x2 : Int32) (q : aS) (P : Int32 → aS → Prop) (h : w_X8_moveEcho x1 x2 q P) : aMi l g yX8_moveEcho (aWs yX8_moveEcho cX8_moveEcho 4 (some .int)) 0 0 0 [.ref (gAd g 1), .int x1, .int x2] q P (fun _ _ => False) := by
  refine aMi_of RX8 ⟨by decide +kernel, rfl⟩ (cat_all rfl) (Nat.le_of_ble_eq_true rfl) hl hX.cl (fun f hR hC hE => ?_)
  show AW f g 0 [some (.ref (gAd g 1)), some (.int x1), some (.int x2), none] [] q 0 0
  unfold w_X8_moveEcho at h
  refine a_aload_n (pc := 0) hC dX8_moveEcho_0 rfl ?_
  refine a_get (pc := 1) hC cl_X8 (oX_1 hX) 1 (by decide) tw_152 rfl dX8_moveEcho_1 ?_
  refine a_get (pc := 4) hC cl_X1 (oX_6 hX) 1 (by decide) tw_86 rfl dX8_moveEcho_4 ?_
  refine a_iload_n (pc := 7) hC dX8_moveEcho_7 rfl ?_
  refine a_iald (pc := 8) hC (oX_7 hX) h.1 dX8_moveEcho_8 ?_
  replace h := h.2
  refine a_istore_n (pc := 9) hC dX8_moveEcho_9 (Nat.le_of_ble_eq_true rfl) ?_
  replace h := h _ rfl
  refine a_aload_n (pc := 10) hC dX8_moveEcho_10 rfl ?_
  refine a_get (pc := 11) hC cl_X8 (oX_1 hX) 1 (by decide) tw_152 rfl dX8_moveEcho_11 ?_
  refine a_get (pc := 14) hC cl_X1 (oX_6 hX) 1 (by decide) tw_86 rfl dX8_moveEcho_14 ?_
  refine a_iload_n (pc := 17) hC dX8_moveEcho_17 rfl ?_
  refine a_iload_n (pc := 18) hC dX8_moveEcho_18 rfl ?_
  refine a_iast (pc := 19) hC (oX_7 hX) h.1 dX8_moveEcho_19 ?_
  replace h := h.2
  replace h := h _ rfl
  refine a_iload_n (pc := 20) hC dX8_moveEcho_20 rfl ?_
  exact a_iret (pc := 21) hC hE h (Nat.le_of_ble_eq_true rfl) (Nat.le_of_ble_eq_true rfl) dX8_moveEcho_21
set_option maxRecDepth 20000 in
theorem t_X8_letEcho {l : Launch} {g : aG} (hX : isX g) (hl : l.stackTraces = false) (x1 : Int32) (x2 : Int32) (x3 : Int32) (q : aS) (P : Int32 → aS → Prop) (h : w_X8_letEcho x1 x2 x3 q P) : aMi l g yX8_letEcho (aWs yX8_letEcho cX8_letEcho 5 (some .int)) 0 0 0 [.ref (gAd g 1), .int x1, .int x2, .int x3] q P (fun _ _ => False) := by
  refine aMi_of RX8 ⟨by decide +kernel, rfl⟩ (cat_all rfl) (Nat.le_of_ble_eq_true rfl) hl hX.cl (fun f hR hC hE => ?_)
  show AW f g 0 [some (.ref (gAd g 1)), some (.int x1), some (.int x2), some (.int x3), none] [] q 0 0
  unfold w_X8_letEcho at h
  refine a_aload_n (pc := 0) hC dX8_letEcho_0 rfl ?_
  refine a_get (pc := 1) hC cl_X8 (oX_1 hX) 1 (by decide) tw_152 rfl dX8_letEcho_1 ?_
  refine a_get (pc := 4) hC cl_X1 (oX_6 hX) 2 (by decide) tw_89 rfl dX8_letEcho_4 ?_
  refine a_iload_n (pc := 7) hC dX8_letEcho_7 rfl ?_
  refine a_iald (pc := 8) hC (oX_8 hX) h.1 dX8_letEcho_8 ?_
  replace h := h.2
  refine a_istore (pc := 9) hC dX8_letEcho_9 (Nat.le_of_ble_eq_true rfl) ?_
  replace h := h _ rfl
  refine a_aload_n (pc := 11) hC dX8_letEcho_11 rfl ?_
  refine a_get (pc := 12) hC cl_X8 (oX_1 hX) 2 (by decide) tw_154 rfl dX8_letEcho_12 ?_
  refine a_get (pc := 15) hC cl_X7 (oX_12 hX) 2 (by decide) tw_126 rfl dX8_letEcho_15 ?_
  refine a_iload_n (pc := 18) hC dX8_letEcho_18 rfl ?_
  refine a_dup2 (pc := 19) hC dX8_letEcho_19 rfl rfl ?_
  refine a_iald (pc := 20) hC (oX_14 hX) h.1 dX8_letEcho_20 ?_
  replace h := h.2
  refine a_iload (pc := 21) hC dX8_letEcho_21 rfl ?_
  refine a_isub (pc := 23) hC dX8_letEcho_23 ?_
  refine a_iast (pc := 24) hC (oX_14 hX) h.1 dX8_letEcho_24 ?_
  replace h := h.2
  replace h := h _ rfl
  refine a_aload_n (pc := 25) hC dX8_letEcho_25 rfl ?_
  refine a_dup (pc := 26) hC dX8_letEcho_26 rfl ?_
  refine a_get (pc := 27) hC cl_X8 (oX_1 hX) 4 (by decide) tw_158 rfl dX8_letEcho_27 ?_
  refine a_iload (pc := 30) hC dX8_letEcho_30 rfl ?_
  refine a_iadd (pc := 32) hC dX8_letEcho_32 ?_
  refine a_put (pc := 33) hC cl_X8 (oX_1 hX) 4 (by decide) tw_158 tyX8 tyX8_ok rfl rfl rfl (Nat.le_of_ble_eq_true rfl) rfl dX8_letEcho_33 ?_
  replace h := h _ rfl
  refine a_aload_n (pc := 36) hC dX8_letEcho_36 rfl ?_
  refine a_get (pc := 37) hC cl_X8 (oX_1 hX) 1 (by decide) tw_152 rfl dX8_letEcho_37 ?_
  refine a_get (pc := 40) hC cl_X1 (oX_6 hX) 3 (by decide) tw_92 rfl dX8_letEcho_40 ?_
  refine a_iload_n (pc := 43) hC dX8_letEcho_43 rfl ?_
  refine a_iload_n (pc := 44) hC dX8_letEcho_44 rfl ?_
  refine a_iast (pc := 45) hC (oX_9 hX) h.1 dX8_letEcho_45 ?_
  replace h := h.2
  replace h := h _ rfl
  refine a_aload_n (pc := 46) hC dX8_letEcho_46 rfl ?_
  refine a_get (pc := 47) hC cl_X8 (oX_1 hX) 1 (by decide) tw_152 rfl dX8_letEcho_47 ?_
  refine a_get (pc := 50) hC cl_X1 (oX_6 hX) 4 (by decide) tw_96 rfl dX8_letEcho_50 ?_
  refine a_iload_n (pc := 53) hC dX8_letEcho_53 rfl ?_
  refine a_iload_n (pc := 54) hC dX8_letEcho_54 rfl ?_
  refine a_iast (pc := 55) hC (oX_10 hX) h.1 dX8_letEcho_55 ?_
  replace h := h.2
  replace h := h _ rfl
  refine a_iload (pc := 56) hC dX8_letEcho_56 rfl ?_
  exact a_iret (pc := 58) hC hE h (Nat.le_of_ble_eq_true rfl) (Nat.le_of_ble_eq_true rfl) dX8_letEcho_58
set_option maxRecDepth 20000 in
theorem t_X8_endLetting {l : Launch} {g : aG} (hX : isX g) (hl : l.stackTraces = false) (x1 : Int32) (q : aS) (P : Int32 → aS → Prop) (h : w_X8_endLetting x1 q P) : aMi l g yX8_endLetting (aWs yX8_endLetting cX8_endLetting 4 (some .int)) 2 0 0 [.ref (gAd g 1), .int x1] q P (fun _ _ => False) := by
  refine aMi_of RX8 ⟨by decide +kernel, rfl⟩ (cat_all rfl) (Nat.le_of_ble_eq_true rfl) hl hX.cl (fun f hR hC hE => ?_)
  show AW f g 0 [some (.ref (gAd g 1)), some (.int x1), none, none] [] q 0 0
  unfold w_X8_endLetting at h
  refine a_aload_n (pc := 0) hC dX8_endLetting_0 rfl ?_
  refine a_get (pc := 1) hC cl_X8 (oX_1 hX) 1 (by decide) tw_152 rfl dX8_endLetting_1 ?_
  refine a_get (pc := 4) hC cl_X1 (oX_6 hX) 3 (by decide) tw_92 rfl dX8_endLetting_4 ?_
  refine a_iload_n (pc := 7) hC dX8_endLetting_7 rfl ?_
  refine a_iald (pc := 8) hC (oX_9 hX) h.1 dX8_endLetting_8 ?_
  replace h := h.2
  refine a_istore_n (pc := 9) hC dX8_endLetting_9 (Nat.le_of_ble_eq_true rfl) ?_
  replace h := h _ rfl
  refine a_aload_n (pc := 10) hC dX8_endLetting_10 rfl ?_
  refine a_iload_n (pc := 11) hC dX8_endLetting_11 rfl ?_
  refine a_callV (pc := 12) hC hR vm_X8_aboveDamp tw_576 cl_X8 (oX_1 hX) ⟨(Nat.le_of_ble_eq_true rfl), (Nat.le_of_ble_eq_true rfl), (Nat.le_of_ble_eq_true rfl), (Nat.le_of_ble_eq_true rfl)⟩ dX8_endLetting_12 (t_X8_aboveDamp hX hC.tr _ _ _ h) rfl rfl rfl (Nat.le_of_ble_eq_true rfl) (fun r3 q4 h => ?_)
  refine a_istore_n (pc := 15) hC dX8_endLetting_15 (Nat.le_of_ble_eq_true rfl) ?_
  refine a_aload_n (pc := 16) hC dX8_endLetting_16 rfl ?_
  refine a_get (pc := 17) hC cl_X8 (oX_1 hX) 2 (by decide) tw_154 rfl dX8_endLetting_17 ?_
  refine a_get (pc := 20) hC cl_X7 (oX_12 hX) 2 (by decide) tw_126 rfl dX8_endLetting_20 ?_
  refine a_iload_n (pc := 23) hC dX8_endLetting_23 rfl ?_
  refine a_bipush (pc := 24) hC dX8_endLetting_24 (v := 99) rfl ?_
  refine a_aload_n (pc := 26) hC dX8_endLetting_26 rfl ?_
  refine a_get (pc := 27) hC cl_X8 (oX_1 hX) 2 (by decide) tw_154 rfl dX8_endLetting_27 ?_
  refine a_get (pc := 30) hC cl_X7 (oX_12 hX) 2 (by decide) tw_126 rfl dX8_endLetting_30 ?_
  refine a_iload_n (pc := 33) hC dX8_endLetting_33 rfl ?_
  refine a_iald (pc := 34) hC (oX_14 hX) h.1 dX8_endLetting_34 ?_
  replace h := h.2
  refine a_iload_n (pc := 35) hC dX8_endLetting_35 rfl ?_
  refine a_iadd (pc := 36) hC dX8_endLetting_36 ?_
  refine a_mmin (pc := 37) hC hR ⟨(Nat.le_of_ble_eq_true rfl), (Nat.le_of_ble_eq_true rfl), (Nat.le_of_ble_eq_true rfl)⟩ rfl tw_595 tw_596 tw_23 tw_597 (Nat.le_of_ble_eq_true rfl) dX8_endLetting_37 ?_
  refine a_iast (pc := 40) hC (oX_14 hX) h.1 dX8_endLetting_40 ?_
  replace h := h.2
  replace h := h _ rfl
  refine a_aload_n (pc := 41) hC dX8_endLetting_41 rfl ?_
  refine a_dup (pc := 42) hC dX8_endLetting_42 rfl ?_
  refine a_get (pc := 43) hC cl_X8 (oX_1 hX) 5 (by decide) tw_160 rfl dX8_endLetting_43 ?_
  refine a_iload_n (pc := 46) hC dX8_endLetting_46 rfl ?_
  refine a_iadd (pc := 47) hC dX8_endLetting_47 ?_
  refine a_put (pc := 48) hC cl_X8 (oX_1 hX) 5 (by decide) tw_160 tyX8 tyX8_ok rfl rfl rfl (Nat.le_of_ble_eq_true rfl) rfl dX8_endLetting_48 ?_
  replace h := h _ rfl
  refine a_aload_n (pc := 51) hC dX8_endLetting_51 rfl ?_
  refine a_dup (pc := 52) hC dX8_endLetting_52 rfl ?_
  refine a_get (pc := 53) hC cl_X8 (oX_1 hX) 6 (by decide) tw_162 rfl dX8_endLetting_53 ?_
  refine a_aload_n (pc := 56) hC dX8_endLetting_56 rfl ?_
  refine a_get (pc := 57) hC cl_X8 (oX_1 hX) 1 (by decide) tw_152 rfl dX8_endLetting_57 ?_
  refine a_get (pc := 60) hC cl_X1 (oX_6 hX) 2 (by decide) tw_89 rfl dX8_endLetting_60 ?_
  refine a_iload_n (pc := 63) hC dX8_endLetting_63 rfl ?_
  refine a_iald (pc := 64) hC (oX_8 hX) h.1 dX8_endLetting_64 ?_
  replace h := h.2
  refine a_iload_n (pc := 65) hC dX8_endLetting_65 rfl ?_
  refine a_isub (pc := 66) hC dX8_endLetting_66 ?_
  refine a_iadd (pc := 67) hC dX8_endLetting_67 ?_
  refine a_put (pc := 68) hC cl_X8 (oX_1 hX) 6 (by decide) tw_162 tyX8 tyX8_ok rfl rfl rfl (Nat.le_of_ble_eq_true rfl) rfl dX8_endLetting_68 ?_
  replace h := h _ rfl
  refine a_aload_n (pc := 71) hC dX8_endLetting_71 rfl ?_
  refine a_get (pc := 72) hC cl_X8 (oX_1 hX) 1 (by decide) tw_152 rfl dX8_endLetting_72 ?_
  refine a_get (pc := 75) hC cl_X1 (oX_6 hX) 3 (by decide) tw_92 rfl dX8_endLetting_75 ?_
  refine a_iload_n (pc := 78) hC dX8_endLetting_78 rfl ?_
  refine a_iconst (pc := 79) hC dX8_endLetting_79 (v := (-1)) rfl ?_
  refine a_iast (pc := 80) hC (oX_9 hX) h.1 dX8_endLetting_80 ?_
  replace h := h.2
  replace h := h _ rfl
  refine a_aload_n (pc := 81) hC dX8_endLetting_81 rfl ?_
  refine a_get (pc := 82) hC cl_X8 (oX_1 hX) 1 (by decide) tw_152 rfl dX8_endLetting_82 ?_
  refine a_get (pc := 85) hC cl_X1 (oX_6 hX) 4 (by decide) tw_96 rfl dX8_endLetting_85 ?_
  refine a_iload_n (pc := 88) hC dX8_endLetting_88 rfl ?_
  refine a_iconst (pc := 89) hC dX8_endLetting_89 (v := 0) rfl ?_
  refine a_iast (pc := 90) hC (oX_10 hX) h.1 dX8_endLetting_90 ?_
  replace h := h.2
  replace h := h _ rfl
  refine a_iload_n (pc := 91) hC dX8_endLetting_91 rfl ?_
  exact a_iret (pc := 92) hC hE h (Nat.le_of_ble_eq_true rfl) (Nat.le_of_ble_eq_true rfl) dX8_endLetting_92
set_option maxRecDepth 20000 in
theorem t_X8_echoVerse {l : Launch} {g : aG} (hX : isX g) (hl : l.stackTraces = false) (x1 : Int32) (q : aS) (P : Int32 → aS → Prop) (h : w_X8_echoVerse x1 q P) : aMi l g yX8_echoVerse (aWs yX8_echoVerse cX8_echoVerse 3 (some .int)) 3 0 0 [.ref (gAd g 1), .int x1] q P (fun _ _ => False) := by
  refine aMi_of RX8 ⟨by decide +kernel, rfl⟩ (cat_all rfl) (Nat.le_of_ble_eq_true rfl) hl hX.cl (fun f hR hC hE => ?_)
  show AW f g 0 [some (.ref (gAd g 1)), some (.int x1), none] [] q 0 0
  unfold w_X8_echoVerse at h
  refine a_aload_n (pc := 0) hC dX8_echoVerse_0 rfl ?_
  refine a_iload_n (pc := 1) hC dX8_echoVerse_1 rfl ?_
  refine a_callV (pc := 2) hC hR vm_X8_aboveDamp tw_576 cl_X8 (oX_1 hX) ⟨(Nat.le_of_ble_eq_true rfl), (Nat.le_of_ble_eq_true rfl), (Nat.le_of_ble_eq_true rfl), (Nat.le_of_ble_eq_true rfl)⟩ dX8_echoVerse_2 (t_X8_aboveDamp hX hC.tr _ _ _ h) rfl rfl rfl (Nat.le_of_ble_eq_true rfl) (fun r2 q3 h => ?_)
  refine a_istore_n (pc := 5) hC dX8_echoVerse_5 (Nat.le_of_ble_eq_true rfl) ?_
  refine a_aload_n (pc := 6) hC dX8_echoVerse_6 rfl ?_
  refine a_get (pc := 7) hC cl_X8 (oX_1 hX) 1 (by decide) tw_152 rfl dX8_echoVerse_7 ?_
  refine a_get (pc := 10) hC cl_X1 (oX_6 hX) 5 (by decide) tw_99 rfl dX8_echoVerse_10 ?_
  refine a_iload_n (pc := 13) hC dX8_echoVerse_13 rfl ?_
  refine a_dup2 (pc := 14) hC dX8_echoVerse_14 rfl rfl ?_
  refine a_iald (pc := 15) hC (oX_11 hX) h.1 dX8_echoVerse_15 ?_
  replace h := h.2
  refine a_iload_n (pc := 16) hC dX8_echoVerse_16 rfl ?_
  refine a_iadd (pc := 17) hC dX8_echoVerse_17 ?_
  refine a_iast (pc := 18) hC (oX_11 hX) h.1 dX8_echoVerse_18 ?_
  replace h := h.2
  replace h := h _ rfl
  refine a_aload_n (pc := 19) hC dX8_echoVerse_19 rfl ?_
  refine a_get (pc := 20) hC cl_X8 (oX_1 hX) 1 (by decide) tw_152 rfl dX8_echoVerse_20 ?_
  refine a_get (pc := 23) hC cl_X1 (oX_6 hX) 4 (by decide) tw_96 rfl dX8_echoVerse_23 ?_
  refine a_iload_n (pc := 26) hC dX8_echoVerse_26 rfl ?_
  refine a_dup2 (pc := 27) hC dX8_echoVerse_27 rfl rfl ?_
  refine a_iald (pc := 28) hC (oX_10 hX) h.1 dX8_echoVerse_28 ?_
  replace h := h.2
  refine a_iconst (pc := 29) hC dX8_echoVerse_29 (v := 1) rfl ?_
  refine a_isub (pc := 30) hC dX8_echoVerse_30 ?_
  refine a_iast (pc := 31) hC (oX_10 hX) h.1 dX8_echoVerse_31 ?_
  replace h := h.2
  replace h := h _ rfl
  refine a_aload_n (pc := 32) hC dX8_echoVerse_32 rfl ?_
  refine a_get (pc := 33) hC cl_X8 (oX_1 hX) 1 (by decide) tw_152 rfl dX8_echoVerse_33 ?_
  refine a_get (pc := 36) hC cl_X1 (oX_6 hX) 4 (by decide) tw_96 rfl dX8_echoVerse_36 ?_
  refine a_iload_n (pc := 39) hC dX8_echoVerse_39 rfl ?_
  refine a_iald (pc := 40) hC (oX_10 hX) h.1 dX8_echoVerse_40 ?_
  replace h := h.2
  refine a_if_ne (pc := 41) (tgt := 50) hC dX8_echoVerse_41 (by decide) (fun c => ?_) (fun c => ?_)
  · replace h := h.1 c
    refine a_iload_n (pc := 50) hC dX8_echoVerse_50 rfl ?_
    exact a_iret (pc := 51) hC hE h (Nat.le_of_ble_eq_true rfl) (Nat.le_of_ble_eq_true rfl) dX8_echoVerse_51
  · replace h := h.2 c
    refine a_aload_n (pc := 44) hC dX8_echoVerse_44 rfl ?_
    refine a_iload_n (pc := 45) hC dX8_echoVerse_45 rfl ?_
    refine a_callV (pc := 46) hC hR vm_X8_endLetting tw_845 cl_X8 (oX_1 hX) ⟨(Nat.le_of_ble_eq_true rfl), (Nat.le_of_ble_eq_true rfl), (Nat.le_of_ble_eq_true rfl), (Nat.le_of_ble_eq_true rfl)⟩ dX8_echoVerse_46 (t_X8_endLetting hX hC.tr _ _ _ h) rfl rfl rfl (Nat.le_of_ble_eq_true rfl) (fun r6 q7 h => ?_)
    refine a_pop (pc := 49) hC dX8_echoVerse_49 rfl ?_
    refine a_iload_n (pc := 50) hC dX8_echoVerse_50 rfl ?_
    exact a_iret (pc := 51) hC hE h (Nat.le_of_ble_eq_true rfl) (Nat.le_of_ble_eq_true rfl) dX8_echoVerse_51
set_option maxRecDepth 20000 in
theorem tLX8_singVerse_28 {f : aF} {g : aG} (hX : isX g) (P : Int32 → aS → Prop) (hR : f_R f = aR 4 0 0) (hC : aOK f g cX8_singVerse 5 RX8) (hE : aEi f g .int P (fun _ _ => False) 0 0) (c1 : Int32) (c2 : Int32) {K : Int32 → aS → Prop} (hK : ∀ (w3 : Int32) (q : aS), K w3 q → AW f g 66 [some (.ref (gAd g 1)), some (.int c1), some (.int c2), some (.int w3), none] [] q 0 0) : ∀ (N : Nat) (v3 : Int32) (v4 : Int32) (q : aS), LX8_singVerse_28 c1 c2 P K N v3 v4 q → AW f g 28 [some (.ref (gAd g 1)), some (.int c1), some (.int c2), some (.int v3), some (.int v4)] [] q 0 0 := by
  intro N
  induction N with
  | zero =>
    intro v3 v4 q h
    exact h.elim
  | succ N ih =>
    intro v3 v4 q h
    unfold LX8_singVerse_28 at h
    refine a_iload (pc := 28) hC dX8_singVerse_28 rfl ?_
    refine a_aload_n (pc := 30) hC dX8_singVerse_30 rfl ?_
    refine a_get (pc := 31) hC cl_X8 (oX_1 hX) 1 (by decide) tw_152 rfl dX8_singVerse_31 ?_
    refine a_get (pc := 34) hC cl_X1 (oX_6 hX) 0 (by decide) tw_83 rfl dX8_singVerse_34 ?_
    refine a_icmp_ge (pc := 37) (tgt := 66) hC dX8_singVerse_37 (by decide) (fun c => ?_) (fun c => ?_)
    · replace h := h.1 c
      exact (hK _ _ h).forget ⟨rfl, rfl, rfl, rfl, trivial⟩
    · replace h := h.2 c
      refine a_aload_n (pc := 40) hC dX8_singVerse_40 rfl ?_
      refine a_iload (pc := 41) hC dX8_singVerse_41 rfl ?_
      refine a_iload_n (pc := 43) hC dX8_singVerse_43 rfl ?_
      refine a_iload_n (pc := 44) hC dX8_singVerse_44 rfl ?_
      refine a_callV (pc := 45) hC hR vm_X8_isHeard tw_572 cl_X8 (oX_1 hX) ⟨(Nat.le_of_ble_eq_true rfl), (Nat.le_of_ble_eq_true rfl), (Nat.le_of_ble_eq_true rfl), (Nat.le_of_ble_eq_true rfl)⟩ dX8_singVerse_45 (t_X8_isHeard hX hC.tr _ _ _ _ _ h) rfl rfl rfl (Nat.le_of_ble_eq_true rfl) (fun r4 q5 h => ?_)
      have z_r4 := h.1
      replace h := h.2
      refine a_if_eq (pc := 48) (tgt := 60) hC dX8_singVerse_48 (by decide) (fun c => ?_) (fun c => ?_)
      · replace h := h.1 c
        refine a_iinc (pc := 60) hC dX8_singVerse_60 rfl (c := 1) rfl ?_
        replace h := h _ rfl
        refine a_goto (pc := 63) (tgt := 28) hC dX8_singVerse_63 (by decide) ?_
        exact (ih _ _ _ h).forget ⟨rfl, rfl, rfl, rfl, rfl, trivial⟩
      · replace h := h.2 c
        refine a_iload_n (pc := 51) hC dX8_singVerse_51 rfl ?_
        refine a_aload_n (pc := 52) hC dX8_singVerse_52 rfl ?_
        refine a_iload (pc := 53) hC dX8_singVerse_53 rfl ?_
        refine a_callV (pc := 55) hC hR vm_X8_echoVerse tw_841 cl_X8 (oX_1 hX) ⟨(Nat.le_of_ble_eq_true rfl), (Nat.le_of_ble_eq_true rfl), (Nat.le_of_ble_eq_true rfl), (Nat.le_of_ble_eq_true rfl)⟩ dX8_singVerse_55 (t_X8_echoVerse hX hC.tr _ _ _ h) rfl rfl rfl (Nat.le_of_ble_eq_true rfl) (fun r7 q8 h => ?_)
        refine a_iadd (pc := 58) hC dX8_singVerse_58 ?_
        refine a_istore_n (pc := 59) hC dX8_singVerse_59 (Nat.le_of_ble_eq_true rfl) ?_
        replace h := h _ rfl
        refine a_iinc (pc := 60) hC dX8_singVerse_60 rfl (c := 1) rfl ?_
        replace h := h _ rfl
        refine a_goto (pc := 63) (tgt := 28) hC dX8_singVerse_63 (by decide) ?_
        exact (ih _ _ _ h).forget ⟨rfl, rfl, rfl, rfl, rfl, trivial⟩
set_option maxRecDepth 20000 in
theorem t_X8_singVerse {l : Launch} {g : aG} (hX : isX g) (hl : l.stackTraces = false) (x1 : Int32) (q : aS) (P : Int32 → aS → Prop) (h : w_X8_singVerse x1 q P) : aMi l g yX8_singVerse (aWs yX8_singVerse cX8_singVerse 5 (some .int)) 4 0 0 [.ref (gAd g 1), .int x1] q P (fun _ _ => False) := by
  refine aMi_of RX8 ⟨by decide +kernel, rfl⟩ (cat_all rfl) (Nat.le_of_ble_eq_true rfl) hl hX.cl (fun f hR hC hE => ?_)
  show AW f g 0 [some (.ref (gAd g 1)), some (.int x1), none, none, none] [] q 0 0
  unfold w_X8_singVerse at h
  refine a_aload_n (pc := 0) hC dX8_singVerse_0 rfl ?_
  refine a_get (pc := 1) hC cl_X8 (oX_1 hX) 2 (by decide) tw_154 rfl dX8_singVerse_1 ?_
  refine a_get (pc := 4) hC cl_X7 (oX_12 hX) 3 (by decide) tw_129 rfl dX8_singVerse_4 ?_
  refine a_iload_n (pc := 7) hC dX8_singVerse_7 rfl ?_
  refine a_iald (pc := 8) hC (oX_15 hX) h.1 dX8_singVerse_8 ?_
  replace h := h.2
  refine a_istore_n (pc := 9) hC dX8_singVerse_9 (Nat.le_of_ble_eq_true rfl) ?_
  replace h := h _ rfl
  refine a_iconst (pc := 10) hC dX8_singVerse_10 (v := 0) rfl ?_
  refine a_istore_n (pc := 11) hC dX8_singVerse_11 (Nat.le_of_ble_eq_true rfl) ?_
  refine a_aload_n (pc := 12) hC dX8_singVerse_12 rfl ?_
  refine a_get (pc := 13) hC cl_X8 (oX_1 hX) 2 (by decide) tw_154 rfl dX8_singVerse_13 ?_
  refine a_get (pc := 16) hC cl_X7 (oX_12 hX) 2 (by decide) tw_126 rfl dX8_singVerse_16 ?_
  refine a_iload_n (pc := 19) hC dX8_singVerse_19 rfl ?_
  refine a_dup2 (pc := 20) hC dX8_singVerse_20 rfl rfl ?_
  refine a_iald (pc := 21) hC (oX_14 hX) h.1 dX8_singVerse_21 ?_
  replace h := h.2
  refine a_iconst (pc := 22) hC dX8_singVerse_22 (v := 1) rfl ?_
  refine a_isub (pc := 23) hC dX8_singVerse_23 ?_
  refine a_iast (pc := 24) hC (oX_14 hX) h.1 dX8_singVerse_24 ?_
  replace h := h.2
  replace h := h _ rfl
  refine a_iconst (pc := 25) hC dX8_singVerse_25 (v := 0) rfl ?_
  refine a_istore (pc := 26) hC dX8_singVerse_26 (Nat.le_of_ble_eq_true rfl) ?_
  obtain ⟨N, h⟩ := h
  refine (tLX8_singVerse_28 hX P hR hC hE _ _ (fun y11 q12 h => ?_) N _ _ _ h).forget ⟨rfl, rfl, rfl, rfl, rfl, trivial⟩
  refine a_aload_n (pc := 66) hC dX8_singVerse_66 rfl ?_
  refine a_get (pc := 67) hC cl_X8 (oX_1 hX) 2 (by decide) tw_154 rfl dX8_singVerse_67 ?_
  refine a_get (pc := 70) hC cl_X7 (oX_12 hX) 4 (by decide) tw_133 rfl dX8_singVerse_70 ?_
  refine a_iload_n (pc := 73) hC dX8_singVerse_73 rfl ?_
  refine a_dup2 (pc := 74) hC dX8_singVerse_74 rfl rfl ?_
  refine a_iald (pc := 75) hC (oX_16 hX) h.1 dX8_singVerse_75 ?_
  replace h := h.2
  refine a_iconst (pc := 76) hC dX8_singVerse_76 (v := 1) rfl ?_
  refine a_iadd (pc := 77) hC dX8_singVerse_77 ?_
  refine a_iast (pc := 78) hC (oX_16 hX) h.1 dX8_singVerse_78 ?_
  replace h := h.2
  replace h := h _ rfl
  refine a_aload_n (pc := 79) hC dX8_singVerse_79 rfl ?_
  refine a_get (pc := 80) hC cl_X8 (oX_1 hX) 2 (by decide) tw_154 rfl dX8_singVerse_80 ?_
  refine a_get (pc := 83) hC cl_X7 (oX_12 hX) 5 (by decide) tw_136 rfl dX8_singVerse_83 ?_
  refine a_iload_n (pc := 86) hC dX8_singVerse_86 rfl ?_
  refine a_dup2 (pc := 87) hC dX8_singVerse_87 rfl rfl ?_
  refine a_iald (pc := 88) hC (oX_17 hX) h.1 dX8_singVerse_88 ?_
  replace h := h.2
  refine a_iload_n (pc := 89) hC dX8_singVerse_89 rfl ?_
  refine a_iadd (pc := 90) hC dX8_singVerse_90 ?_
  refine a_iast (pc := 91) hC (oX_17 hX) h.1 dX8_singVerse_91 ?_
  replace h := h.2
  replace h := h _ rfl
  refine a_aload_n (pc := 92) hC dX8_singVerse_92 rfl ?_
  refine a_get (pc := 93) hC cl_X8 (oX_1 hX) 0 (by decide) tw_150 rfl dX8_singVerse_93 ?_
  refine a_get (pc := 96) hC cl_X6 (oX_2 hX) 3 (by decide) tw_65 rfl dX8_singVerse_96 ?_
  refine a_iload_n (pc := 99) hC dX8_singVerse_99 rfl ?_
  refine a_dup2 (pc := 100) hC dX8_singVerse_100 rfl rfl ?_
  refine a_iald (pc := 101) hC (oX_5 hX) h.1 dX8_singVerse_101 ?_
  replace h := h.2
  refine a_iconst (pc := 102) hC dX8_singVerse_102 (v := 1) rfl ?_
  refine a_iadd (pc := 103) hC dX8_singVerse_103 ?_
  refine a_iast (pc := 104) hC (oX_5 hX) h.1 dX8_singVerse_104 ?_
  replace h := h.2
  replace h := h _ rfl
  refine a_aload_n (pc := 105) hC dX8_singVerse_105 rfl ?_
  refine a_get (pc := 106) hC cl_X8 (oX_1 hX) 0 (by decide) tw_150 rfl dX8_singVerse_106 ?_
  refine a_get (pc := 109) hC cl_X6 (oX_2 hX) 2 (by decide) tw_62 rfl dX8_singVerse_109 ?_
  refine a_iload_n (pc := 112) hC dX8_singVerse_112 rfl ?_
  refine a_bipush (pc := 113) hC dX8_singVerse_113 (v := 9) rfl ?_
  refine a_aload_n (pc := 115) hC dX8_singVerse_115 rfl ?_
  refine a_get (pc := 116) hC cl_X8 (oX_1 hX) 0 (by decide) tw_150 rfl dX8_singVerse_116 ?_
  refine a_get (pc := 119) hC cl_X6 (oX_2 hX) 2 (by decide) tw_62 rfl dX8_singVerse_119 ?_
  refine a_iload_n (pc := 122) hC dX8_singVerse_122 rfl ?_
  refine a_iald (pc := 123) hC (oX_4 hX) h.1 dX8_singVerse_123 ?_
  replace h := h.2
  refine a_iconst (pc := 124) hC dX8_singVerse_124 (v := 1) rfl ?_
  refine a_iadd (pc := 125) hC dX8_singVerse_125 ?_
  refine a_mmin (pc := 126) hC hR ⟨(Nat.le_of_ble_eq_true rfl), (Nat.le_of_ble_eq_true rfl), (Nat.le_of_ble_eq_true rfl)⟩ rfl tw_595 tw_596 tw_23 tw_597 (Nat.le_of_ble_eq_true rfl) dX8_singVerse_126 ?_
  refine a_iast (pc := 129) hC (oX_4 hX) h.1 dX8_singVerse_129 ?_
  replace h := h.2
  replace h := h _ rfl
  refine a_iload_n (pc := 130) hC dX8_singVerse_130 rfl ?_
  exact a_iret (pc := 131) hC hE h (Nat.le_of_ble_eq_true rfl) (Nat.le_of_ble_eq_true rfl) dX8_singVerse_131
set_option maxRecDepth 20000 in
theorem tLX8_letNightPass_12 {f : aF} {g : aG} (hX : isX g) (P : Int32 → aS → Prop) (hR : f_R f = aR 1 0 0) (hC : aOK f g cX8_letNightPass 4 RX8) (hE : aEi f g .int P (fun _ _ => False) 0 0) {K : aS → Prop} (hK : ∀ (q : aS), K q → AW f g 53 [some (.ref (gAd g 1)), none, none, none] [] q 0 0) : ∀ (N : Nat) (v1 : Int32) (q : aS), LX8_letNightPass_12 P K N v1 q → AW f g 12 [some (.ref (gAd g 1)), some (.int v1), none, none] [] q 0 0 := by
  intro N
  induction N with
  | zero =>
    intro v1 q h
    exact h.elim
  | succ N ih =>
    intro v1 q h
    unfold LX8_letNightPass_12 at h
    refine a_iload_n (pc := 12) hC dX8_letNightPass_12 rfl ?_
    refine a_aload_n (pc := 13) hC dX8_letNightPass_13 rfl ?_
    refine a_get (pc := 14) hC cl_X8 (oX_1 hX) 0 (by decide) tw_150 rfl dX8_letNightPass_14 ?_
    refine a_get (pc := 17) hC cl_X6 (oX_2 hX) 0 (by decide) tw_55 rfl dX8_letNightPass_17 ?_
    refine a_icmp_ge (pc := 20) (tgt := 53) hC dX8_letNightPass_20 (by decide) (fun c => ?_) (fun c => ?_)
    · replace h := h.1 c
      exact (hK _ h).forget ⟨rfl, trivial⟩
    · replace h := h.2 c
      refine a_aload_n (pc := 23) hC dX8_letNightPass_23 rfl ?_
      refine a_get (pc := 24) hC cl_X8 (oX_1 hX) 0 (by decide) tw_150 rfl dX8_letNightPass_24 ?_
      refine a_get (pc := 27) hC cl_X6 (oX_2 hX) 2 (by decide) tw_62 rfl dX8_letNightPass_27 ?_
      refine a_iload_n (pc := 30) hC dX8_letNightPass_30 rfl ?_
      refine a_iconst (pc := 31) hC dX8_letNightPass_31 (v := 0) rfl ?_
      refine a_aload_n (pc := 32) hC dX8_letNightPass_32 rfl ?_
      refine a_get (pc := 33) hC cl_X8 (oX_1 hX) 0 (by decide) tw_150 rfl dX8_letNightPass_33 ?_
      refine a_get (pc := 36) hC cl_X6 (oX_2 hX) 2 (by decide) tw_62 rfl dX8_letNightPass_36 ?_
      refine a_iload_n (pc := 39) hC dX8_letNightPass_39 rfl ?_
      refine a_iald (pc := 40) hC (oX_4 hX) h.1 dX8_letNightPass_40 ?_
      replace h := h.2
      refine a_iconst (pc := 41) hC dX8_letNightPass_41 (v := 2) rfl ?_
      refine a_isub (pc := 42) hC dX8_letNightPass_42 ?_
      refine a_mmax (pc := 43) hC hR ⟨(Nat.le_of_ble_eq_true rfl), (Nat.le_of_ble_eq_true rfl), (Nat.le_of_ble_eq_true rfl)⟩ rfl tw_580 tw_581 tw_23 tw_582 (Nat.le_of_ble_eq_true rfl) dX8_letNightPass_43 ?_
      refine a_iast (pc := 46) hC (oX_4 hX) h.1 dX8_letNightPass_46 ?_
      replace h := h.2
      replace h := h _ rfl
      refine a_iinc (pc := 47) hC dX8_letNightPass_47 rfl (c := 1) rfl ?_
      replace h := h _ rfl
      refine a_goto (pc := 50) (tgt := 12) hC dX8_letNightPass_50 (by decide) ?_
      exact (ih _ _ h).forget ⟨rfl, rfl, trivial⟩
set_option maxRecDepth 20000 in
theorem tLX8_letNightPass_57 {f : aF} {g : aG} (hX : isX g) (P : Int32 → aS → Prop) (hR : f_R f = aR 1 0 0) (hC : aOK f g cX8_letNightPass 4 RX8) (hE : aEi f g .int P (fun _ _ => False) 0 0) {K : Int32 → aS → Prop} (hK : ∀ (w1 : Int32) (q : aS), K w1 q → AW f g 108 [none, some (.int w1), none, none] [] q 0 0) : ∀ (N : Nat) (v1 : Int32) (v2 : Int32) (q : aS), LX8_letNightPass_57 P K N v1 v2 q → AW f g 57 [some (.ref (gAd g 1)), some (.int v1), some (.int v2), none] [] q 0 0 := by
  intro N
  induction N with
  | zero =>
    intro v1 v2 q h
    exact h.elim
  | succ N ih =>
    intro v1 v2 q h
    unfold LX8_letNightPass_57 at h
    refine a_iload_n (pc := 57) hC dX8_letNightPass_57 rfl ?_
    refine a_aload_n (pc := 58) hC dX8_letNightPass_58 rfl ?_
    refine a_get (pc := 59) hC cl_X8 (oX_1 hX) 2 (by decide) tw_154 rfl dX8_letNightPass_59 ?_
    refine a_get (pc := 62) hC cl_X7 (oX_12 hX) 0 (by decide) tw_120 rfl dX8_letNightPass_62 ?_
    refine a_icmp_ge (pc := 65) (tgt := 108) hC dX8_letNightPass_65 (by decide) (fun c => ?_) (fun c => ?_)
    · replace h := h.1 c
      exact (hK _ _ h).forget ⟨rfl, trivial⟩
    · replace h := h.2 c
      refine a_iconst (pc := 68) hC dX8_letNightPass_68 (v := 3) rfl ?_
      refine a_bipush (pc := 69) hC dX8_letNightPass_69 (v := 99) rfl ?_
      refine a_aload_n (pc := 71) hC dX8_letNightPass_71 rfl ?_
      refine a_get (pc := 72) hC cl_X8 (oX_1 hX) 2 (by decide) tw_154 rfl dX8_letNightPass_72 ?_
      refine a_get (pc := 75) hC cl_X7 (oX_12 hX) 2 (by decide) tw_126 rfl dX8_letNightPass_75 ?_
      refine a_iload_n (pc := 78) hC dX8_letNightPass_78 rfl ?_
      refine a_iald (pc := 79) hC (oX_14 hX) h.1 dX8_letNightPass_79 ?_
      replace h := h.2
      refine a_isub (pc := 80) hC dX8_letNightPass_80 ?_
      refine a_mmin (pc := 81) hC hR ⟨(Nat.le_of_ble_eq_true rfl), (Nat.le_of_ble_eq_true rfl), (Nat.le_of_ble_eq_true rfl)⟩ rfl tw_595 tw_596 tw_23 tw_597 (Nat.le_of_ble_eq_true rfl) dX8_letNightPass_81 ?_
      refine a_istore_n (pc := 84) hC dX8_letNightPass_84 (Nat.le_of_ble_eq_true rfl) ?_
      replace h := h _ rfl
      refine a_aload_n (pc := 85) hC dX8_letNightPass_85 rfl ?_
      refine a_get (pc := 86) hC cl_X8 (oX_1 hX) 2 (by decide) tw_154 rfl dX8_letNightPass_86 ?_
      refine a_get (pc := 89) hC cl_X7 (oX_12 hX) 2 (by decide) tw_126 rfl dX8_letNightPass_89 ?_
      refine a_iload_n (pc := 92) hC dX8_letNightPass_92 rfl ?_
      refine a_dup2 (pc := 93) hC dX8_letNightPass_93 rfl rfl ?_
      refine a_iald (pc := 94) hC (oX_14 hX) h.1 dX8_letNightPass_94 ?_
      replace h := h.2
      refine a_iload_n (pc := 95) hC dX8_letNightPass_95 rfl ?_
      refine a_iadd (pc := 96) hC dX8_letNightPass_96 ?_
      refine a_iast (pc := 97) hC (oX_14 hX) h.1 dX8_letNightPass_97 ?_
      replace h := h.2
      replace h := h _ rfl
      refine a_iload_n (pc := 98) hC dX8_letNightPass_98 rfl ?_
      refine a_iload_n (pc := 99) hC dX8_letNightPass_99 rfl ?_
      refine a_iadd (pc := 100) hC dX8_letNightPass_100 ?_
      refine a_istore_n (pc := 101) hC dX8_letNightPass_101 (Nat.le_of_ble_eq_true rfl) ?_
      replace h := h _ rfl
      refine a_iinc (pc := 102) hC dX8_letNightPass_102 rfl (c := 1) rfl ?_
      replace h := h _ rfl
      refine a_goto (pc := 105) (tgt := 57) hC dX8_letNightPass_105 (by decide) ?_
      exact (ih _ _ _ h).forget ⟨rfl, rfl, rfl, trivial⟩
set_option maxRecDepth 20000 in
theorem t_X8_letNightPass {l : Launch} {g : aG} (hX : isX g) (hl : l.stackTraces = false) (q : aS) (P : Int32 → aS → Prop) (h : w_X8_letNightPass q P) : aMi l g yX8_letNightPass (aWs yX8_letNightPass cX8_letNightPass 4 (some .int)) 1 0 0 [.ref (gAd g 1)] q P (fun _ _ => False) := by
  refine aMi_of RX8 ⟨by decide +kernel, rfl⟩ (cat_all rfl) (Nat.le_of_ble_eq_true rfl) hl hX.cl (fun f hR hC hE => ?_)
  show AW f g 0 [some (.ref (gAd g 1)), none, none, none] [] q 0 0
  unfold w_X8_letNightPass at h
  refine a_aload_n (pc := 0) hC dX8_letNightPass_0 rfl ?_
  refine a_dup (pc := 1) hC dX8_letNightPass_1 rfl ?_
  refine a_get (pc := 2) hC cl_X8 (oX_1 hX) 3 (by decide) tw_156 rfl dX8_letNightPass_2 ?_
  refine a_iconst (pc := 5) hC dX8_letNightPass_5 (v := 1) rfl ?_
  refine a_iadd (pc := 6) hC dX8_letNightPass_6 ?_
  refine a_put (pc := 7) hC cl_X8 (oX_1 hX) 3 (by decide) tw_156 tyX8 tyX8_ok rfl rfl rfl (Nat.le_of_ble_eq_true rfl) rfl dX8_letNightPass_7 ?_
  replace h := h _ rfl
  refine a_iconst (pc := 10) hC dX8_letNightPass_10 (v := 0) rfl ?_
  refine a_istore_n (pc := 11) hC dX8_letNightPass_11 (Nat.le_of_ble_eq_true rfl) ?_
  obtain ⟨N, h⟩ := h
  refine (tLX8_letNightPass_12 hX P hR hC hE (fun q4 h => ?_) N _ _ h).forget ⟨rfl, rfl, trivial⟩
  refine a_iconst (pc := 53) hC dX8_letNightPass_53 (v := 0) rfl ?_
  refine a_istore_n (pc := 54) hC dX8_letNightPass_54 (Nat.le_of_ble_eq_true rfl) ?_
  refine a_iconst (pc := 55) hC dX8_letNightPass_55 (v := 0) rfl ?_
  refine a_istore_n (pc := 56) hC dX8_letNightPass_56 (Nat.le_of_ble_eq_true rfl) ?_
  obtain ⟨N, h⟩ := h
  refine (tLX8_letNightPass_57 hX P hR hC hE (fun y9 q10 h => ?_) N _ _ _ h).forget ⟨rfl, rfl, rfl, trivial⟩
  refine a_iload_n (pc := 108) hC dX8_letNightPass_108 rfl ?_
  exact a_iret (pc := 109) hC hE h (Nat.le_of_ble_eq_true rfl) (Nat.le_of_ble_eq_true rfl) dX8_letNightPass_109
