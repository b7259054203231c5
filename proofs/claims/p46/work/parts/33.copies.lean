theorem dX6_copyFrom_0 : decode cX6_copyFrom 0 = .ok (.aload_n 0, 1) := by decide +kernel
theorem dX6_copyFrom_1 : decode cX6_copyFrom 1 = .ok (.aload_n 1, 1) := by decide +kernel
theorem dX6_copyFrom_2 : decode cX6_copyFrom 2 = .ok (.getfield 21, 3) := by decide +kernel
theorem dX6_copyFrom_5 : decode cX6_copyFrom 5 = .ok (.putfield 21, 3) := by decide +kernel
theorem dX6_copyFrom_8 : decode cX6_copyFrom 8 = .ok (.aload_n 1, 1) := by decide +kernel
theorem dX6_copyFrom_9 : decode cX6_copyFrom 9 = .ok (.getfield 9, 3) := by decide +kernel
theorem dX6_copyFrom_12 : decode cX6_copyFrom 12 = .ok (.iconst 0, 1) := by decide +kernel
theorem dX6_copyFrom_13 : decode cX6_copyFrom 13 = .ok (.aload_n 0, 1) := by decide +kernel
theorem dX6_copyFrom_14 : decode cX6_copyFrom 14 = .ok (.getfield 9, 3) := by decide +kernel
theorem dX6_copyFrom_17 : decode cX6_copyFrom 17 = .ok (.iconst 0, 1) := by decide +kernel
theorem dX6_copyFrom_18 : decode cX6_copyFrom 18 = .ok (.bipush 6, 2) := by decide +kernel
theorem dX6_copyFrom_20 : decode cX6_copyFrom 20 = .ok (.invokestatic 25, 3) := by decide +kernel
theorem dX6_copyFrom_23 : decode cX6_copyFrom 23 = .ok (.aload_n 1, 1) := by decide +kernel
theorem dX6_copyFrom_24 : decode cX6_copyFrom 24 = .ok (.getfield 15, 3) := by decide +kernel
theorem dX6_copyFrom_27 : decode cX6_copyFrom 27 = .ok (.iconst 0, 1) := by decide +kernel
theorem dX6_copyFrom_28 : decode cX6_copyFrom 28 = .ok (.aload_n 0, 1) := by decide +kernel
theorem dX6_copyFrom_29 : decode cX6_copyFrom 29 = .ok (.getfield 15, 3) := by decide +kernel
theorem dX6_copyFrom_32 : decode cX6_copyFrom 32 = .ok (.iconst 0, 1) := by decide +kernel
theorem dX6_copyFrom_33 : decode cX6_copyFrom 33 = .ok (.bipush 6, 2) := by decide +kernel
theorem dX6_copyFrom_35 : decode cX6_copyFrom 35 = .ok (.invokestatic 25, 3) := by decide +kernel
theorem dX6_copyFrom_38 : decode cX6_copyFrom 38 = .ok (.aload_n 1, 1) := by decide +kernel
theorem dX6_copyFrom_39 : decode cX6_copyFrom 39 = .ok (.getfield 18, 3) := by decide +kernel
theorem dX6_copyFrom_42 : decode cX6_copyFrom 42 = .ok (.iconst 0, 1) := by decide +kernel
theorem dX6_copyFrom_43 : decode cX6_copyFrom 43 = .ok (.aload_n 0, 1) := by decide +kernel
theorem dX6_copyFrom_44 : decode cX6_copyFrom 44 = .ok (.getfield 18, 3) := by decide +kernel
theorem dX6_copyFrom_47 : decode cX6_copyFrom 47 = .ok (.iconst 0, 1) := by decide +kernel
theorem dX6_copyFrom_48 : decode cX6_copyFrom 48 = .ok (.bipush 6, 2) := by decide +kernel
theorem dX6_copyFrom_50 : decode cX6_copyFrom 50 = .ok (.invokestatic 25, 3) := by decide +kernel
theorem dX6_copyFrom_53 : decode cX6_copyFrom 53 = .ok (.return_, 1) := by decide +kernel
theorem vm_X6_copyFrom : aVm yX6_copyFrom RX6 cX6_copyFrom 2 none 1 := ⟨tw_786, tw_784, tw_785, tw_3, rfl, by decide +kernel, by decide +kernel, by decide +kernel⟩
theorem dX1_copyFrom_0 : decode cX1_copyFrom 0 = .ok (.aload_n 0, 1) := by decide +kernel
theorem dX1_copyFrom_1 : decode cX1_copyFrom 1 = .ok (.aload_n 1, 1) := by decide +kernel
theorem dX1_copyFrom_2 : decode cX1_copyFrom 2 = .ok (.getfield 27, 3) := by decide +kernel
theorem dX1_copyFrom_5 : decode cX1_copyFrom 5 = .ok (.putfield 27, 3) := by decide +kernel
theorem dX1_copyFrom_8 : decode cX1_copyFrom 8 = .ok (.aload_n 1, 1) := by decide +kernel
theorem dX1_copyFrom_9 : decode cX1_copyFrom 9 = .ok (.getfield 9, 3) := by decide +kernel
theorem dX1_copyFrom_12 : decode cX1_copyFrom 12 = .ok (.iconst 0, 1) := by decide +kernel
theorem dX1_copyFrom_13 : decode cX1_copyFrom 13 = .ok (.aload_n 0, 1) := by decide +kernel
theorem dX1_copyFrom_14 : decode cX1_copyFrom 14 = .ok (.getfield 9, 3) := by decide +kernel
theorem dX1_copyFrom_17 : decode cX1_copyFrom 17 = .ok (.iconst 0, 1) := by decide +kernel
theorem dX1_copyFrom_18 : decode cX1_copyFrom 18 = .ok (.bipush 8, 2) := by decide +kernel
theorem dX1_copyFrom_20 : decode cX1_copyFrom 20 = .ok (.invokestatic 31, 3) := by decide +kernel
theorem dX1_copyFrom_23 : decode cX1_copyFrom 23 = .ok (.aload_n 1, 1) := by decide +kernel
theorem dX1_copyFrom_24 : decode cX1_copyFrom 24 = .ok (.getfield 15, 3) := by decide +kernel
theorem dX1_copyFrom_27 : decode cX1_copyFrom 27 = .ok (.iconst 0, 1) := by decide +kernel
theorem dX1_copyFrom_28 : decode cX1_copyFrom 28 = .ok (.aload_n 0, 1) := by decide +kernel
theorem dX1_copyFrom_29 : decode cX1_copyFrom 29 = .ok (.getfield 15, 3) := by decide +kernel
theorem dX1_copyFrom_32 : decode cX1_copyFrom 32 = .ok (.iconst 0, 1) := by decide +kernel
theorem dX1_copyFrom_33 : decode cX1_copyFrom 33 = .ok (.bipush 8, 2) := by decide +kernel
theorem dX1_copyFrom_35 : decode cX1_copyFrom 35 = .ok (.invokestatic 31, 3) := by decide +kernel
theorem dX1_copyFrom_38 : decode cX1_copyFrom 38 = .ok (.aload_n 1, 1) := by decide +kernel
theorem dX1_copyFrom_39 : decode cX1_copyFrom 39 = .ok (.getfield 18, 3) := by decide +kernel
theorem dX1_copyFrom_42 : decode cX1_copyFrom 42 = .ok (.iconst 0, 1) := by decide +kernel
theorem dX1_copyFrom_43 : decode cX1_copyFrom 43 = .ok (.aload_n 0, 1) := by decide +kernel
theorem dX1_copyFrom_44 : decode cX1_copyFrom 44 = .ok (.getfield 18, 3) := by decide +kernel
theorem dX1_copyFrom_47 : decode cX1_copyFrom 47 = .ok (.iconst 0, 1) := by decide +kernel
theorem dX1_copyFrom_48 : decode cX1_copyFrom 48 = .ok (.bipush 8, 2) := by decide +kernel
theorem dX1_copyFrom_50 : decode cX1_copyFrom 50 = .ok (.invokestatic 31, 3) := by decide +kernel
theorem dX1_copyFrom_53 : decode cX1_copyFrom 53 = .ok (.aload_n 1, 1) := by decide +kernel
theorem dX1_copyFrom_54 : decode cX1_copyFrom 54 = .ok (.getfield 21, 3) := by decide +kernel
theorem dX1_copyFrom_57 : decode cX1_copyFrom 57 = .ok (.iconst 0, 1) := by decide +kernel
theorem dX1_copyFrom_58 : decode cX1_copyFrom 58 = .ok (.aload_n 0, 1) := by decide +kernel
theorem dX1_copyFrom_59 : decode cX1_copyFrom 59 = .ok (.getfield 21, 3) := by decide +kernel
theorem dX1_copyFrom_62 : decode cX1_copyFrom 62 = .ok (.iconst 0, 1) := by decide +kernel
theorem dX1_copyFrom_63 : decode cX1_copyFrom 63 = .ok (.bipush 8, 2) := by decide +kernel
theorem dX1_copyFrom_65 : decode cX1_copyFrom 65 = .ok (.invokestatic 31, 3) := by decide +kernel
theorem dX1_copyFrom_68 : decode cX1_copyFrom 68 = .ok (.aload_n 1, 1) := by decide +kernel
theorem dX1_copyFrom_69 : decode cX1_copyFrom 69 = .ok (.getfield 24, 3) := by decide +kernel
theorem dX1_copyFrom_72 : decode cX1_copyFrom 72 = .ok (.iconst 0, 1) := by decide +kernel
theorem dX1_copyFrom_73 : decode cX1_copyFrom 73 = .ok (.aload_n 0, 1) := by decide +kernel
theorem dX1_copyFrom_74 : decode cX1_copyFrom 74 = .ok (.getfield 24, 3) := by decide +kernel
theorem dX1_copyFrom_77 : decode cX1_copyFrom 77 = .ok (.iconst 0, 1) := by decide +kernel
theorem dX1_copyFrom_78 : decode cX1_copyFrom 78 = .ok (.bipush 8, 2) := by decide +kernel
theorem dX1_copyFrom_80 : decode cX1_copyFrom 80 = .ok (.invokestatic 31, 3) := by decide +kernel
theorem dX1_copyFrom_83 : decode cX1_copyFrom 83 = .ok (.return_, 1) := by decide +kernel
theorem vm_X1_copyFrom : aVm yX1_copyFrom RX1 cX1_copyFrom 2 none 1 := ⟨tw_793, tw_791, tw_792, tw_4, rfl, by decide +kernel, by decide +kernel, by decide +kernel⟩
theorem dX7_copyFrom_0 : decode cX7_copyFrom 0 = .ok (.aload_n 0, 1) := by decide +kernel
theorem dX7_copyFrom_1 : decode cX7_copyFrom 1 = .ok (.aload_n 1, 1) := by decide +kernel
theorem dX7_copyFrom_2 : decode cX7_copyFrom 2 = .ok (.getfield 27, 3) := by decide +kernel
theorem dX7_copyFrom_5 : decode cX7_copyFrom 5 = .ok (.putfield 27, 3) := by decide +kernel
theorem dX7_copyFrom_8 : decode cX7_copyFrom 8 = .ok (.aload_n 1, 1) := by decide +kernel
theorem dX7_copyFrom_9 : decode cX7_copyFrom 9 = .ok (.getfield 9, 3) := by decide +kernel
theorem dX7_copyFrom_12 : decode cX7_copyFrom 12 = .ok (.iconst 0, 1) := by decide +kernel
theorem dX7_copyFrom_13 : decode cX7_copyFrom 13 = .ok (.aload_n 0, 1) := by decide +kernel
theorem dX7_copyFrom_14 : decode cX7_copyFrom 14 = .ok (.getfield 9, 3) := by decide +kernel
theorem dX7_copyFrom_17 : decode cX7_copyFrom 17 = .ok (.iconst 0, 1) := by decide +kernel
theorem dX7_copyFrom_18 : decode cX7_copyFrom 18 = .ok (.bipush 6, 2) := by decide +kernel
theorem dX7_copyFrom_20 : decode cX7_copyFrom 20 = .ok (.invokestatic 31, 3) := by decide +kernel
theorem dX7_copyFrom_23 : decode cX7_copyFrom 23 = .ok (.aload_n 1, 1) := by decide +kernel
theorem dX7_copyFrom_24 : decode cX7_copyFrom 24 = .ok (.getfield 15, 3) := by decide +kernel
theorem dX7_copyFrom_27 : decode cX7_copyFrom 27 = .ok (.iconst 0, 1) := by decide +kernel
theorem dX7_copyFrom_28 : decode cX7_copyFrom 28 = .ok (.aload_n 0, 1) := by decide +kernel
theorem dX7_copyFrom_29 : decode cX7_copyFrom 29 = .ok (.getfield 15, 3) := by decide +kernel
theorem dX7_copyFrom_32 : decode cX7_copyFrom 32 = .ok (.iconst 0, 1) := by decide +kernel
theorem dX7_copyFrom_33 : decode cX7_copyFrom 33 = .ok (.bipush 6, 2) := by decide +kernel
theorem dX7_copyFrom_35 : decode cX7_copyFrom 35 = .ok (.invokestatic 31, 3) := by decide +kernel
theorem dX7_copyFrom_38 : decode cX7_copyFrom 38 = .ok (.aload_n 1, 1) := by decide +kernel
theorem dX7_copyFrom_39 : decode cX7_copyFrom 39 = .ok (.getfield 18, 3) := by decide +kernel
theorem dX7_copyFrom_42 : decode cX7_copyFrom 42 = .ok (.iconst 0, 1) := by decide +kernel
theorem dX7_copyFrom_43 : decode cX7_copyFrom 43 = .ok (.aload_n 0, 1) := by decide +kernel
theorem dX7_copyFrom_44 : decode cX7_copyFrom 44 = .ok (.getfield 18, 3) := by decide +kernel
theorem dX7_copyFrom_47 : decode cX7_copyFrom 47 = .ok (.iconst 0, 1) := by decide +kernel
theorem dX7_copyFrom_48 : decode cX7_copyFrom 48 = .ok (.bipush 6, 2) := by decide +kernel
theorem dX7_copyFrom_50 : decode cX7_copyFrom 50 = .ok (.invokestatic 31, 3) := by decide +kernel
theorem dX7_copyFrom_53 : decode cX7_copyFrom 53 = .ok (.aload_n 1, 1) := by decide +kernel
theorem dX7_copyFrom_54 : decode cX7_copyFrom 54 = .ok (.getfield 21, 3) := by decide +kernel
theorem dX7_copyFrom_57 : decode cX7_copyFrom 57 = .ok (.iconst 0, 1) := by decide +kernel
theorem dX7_copyFrom_58 : decode cX7_copyFrom 58 = .ok (.aload_n 0, 1) := by decide +kernel
theorem dX7_copyFrom_59 : decode cX7_copyFrom 59 = .ok (.getfield 21, 3) := by decide +kernel
theorem dX7_copyFrom_62 : decode cX7_copyFrom 62 = .ok (.iconst 0, 1) := by decide +kernel
theorem dX7_copyFrom_63 : decode cX7_copyFrom 63 = .ok (.bipush 6, 2) := by decide +kernel
theorem dX7_copyFrom_65 : decode cX7_copyFrom 65 = .ok (.invokestatic 31, 3) := by decide +kernel
theorem dX7_copyFrom_68 : decode cX7_copyFrom 68 = .ok (.aload_n 1, 1) := by decide +kernel
theorem dX7_copyFrom_69 : decode cX7_copyFrom 69 = .ok (.getfield 24, 3) := by decide +kernel
theorem dX7_copyFrom_72 : decode cX7_copyFrom 72 = .ok (.iconst 0, 1) := by decide +kernel
theorem dX7_copyFrom_73 : decode cX7_copyFrom 73 = .ok (.aload_n 0, 1) := by decide +kernel
theorem dX7_copyFrom_74 : decode cX7_copyFrom 74 = .ok (.getfield 24, 3) := by decide +kernel
theorem dX7_copyFrom_77 : decode cX7_copyFrom 77 = .ok (.iconst 0, 1) := by decide +kernel
theorem dX7_copyFrom_78 : decode cX7_copyFrom 78 = .ok (.bipush 6, 2) := by decide +kernel
theorem dX7_copyFrom_80 : decode cX7_copyFrom 80 = .ok (.invokestatic 31, 3) := by decide +kernel
theorem dX7_copyFrom_83 : decode cX7_copyFrom 83 = .ok (.return_, 1) := by decide +kernel
theorem vm_X7_copyFrom : aVm yX7_copyFrom RX7 cX7_copyFrom 2 none 1 := ⟨tw_798, tw_796, tw_797, tw_5, rfl, by decide +kernel, by decide +kernel, by decide +kernel⟩
theorem dX8_copyFrom_0 : decode cX8_copyFrom 0 = .ok (.aload_n 0, 1) := by decide +kernel
theorem dX8_copyFrom_1 : decode cX8_copyFrom 1 = .ok (.getfield 12, 3) := by decide +kernel
theorem dX8_copyFrom_4 : decode cX8_copyFrom 4 = .ok (.aload_n 1, 1) := by decide +kernel
theorem dX8_copyFrom_5 : decode cX8_copyFrom 5 = .ok (.getfield 12, 3) := by decide +kernel
theorem dX8_copyFrom_8 : decode cX8_copyFrom 8 = .ok (.invokevirtual 32, 3) := by decide +kernel
theorem dX8_copyFrom_11 : decode cX8_copyFrom 11 = .ok (.aload_n 0, 1) := by decide +kernel
theorem dX8_copyFrom_12 : decode cX8_copyFrom 12 = .ok (.getfield 21, 3) := by decide +kernel
theorem dX8_copyFrom_15 : decode cX8_copyFrom 15 = .ok (.aload_n 1, 1) := by decide +kernel
theorem dX8_copyFrom_16 : decode cX8_copyFrom 16 = .ok (.getfield 21, 3) := by decide +kernel
theorem dX8_copyFrom_19 : decode cX8_copyFrom 19 = .ok (.invokevirtual 36, 3) := by decide +kernel
theorem dX8_copyFrom_22 : decode cX8_copyFrom 22 = .ok (.aload_n 0, 1) := by decide +kernel
theorem dX8_copyFrom_23 : decode cX8_copyFrom 23 = .ok (.getfield 28, 3) := by decide +kernel
theorem dX8_copyFrom_26 : decode cX8_copyFrom 26 = .ok (.aload_n 1, 1) := by decide +kernel
theorem dX8_copyFrom_27 : decode cX8_copyFrom 27 = .ok (.getfield 28, 3) := by decide +kernel
theorem dX8_copyFrom_30 : decode cX8_copyFrom 30 = .ok (.invokevirtual 39, 3) := by decide +kernel
theorem dX8_copyFrom_33 : decode cX8_copyFrom 33 = .ok (.aload_n 0, 1) := by decide +kernel
theorem dX8_copyFrom_34 : decode cX8_copyFrom 34 = .ok (.aload_n 1, 1) := by decide +kernel
theorem dX8_copyFrom_35 : decode cX8_copyFrom 35 = .ok (.getfield 42, 3) := by decide +kernel
theorem dX8_copyFrom_38 : decode cX8_copyFrom 38 = .ok (.putfield 42, 3) := by decide +kernel
theorem dX8_copyFrom_41 : decode cX8_copyFrom 41 = .ok (.aload_n 0, 1) := by decide +kernel
theorem dX8_copyFrom_42 : decode cX8_copyFrom 42 = .ok (.aload_n 1, 1) := by decide +kernel
theorem dX8_copyFrom_43 : decode cX8_copyFrom 43 = .ok (.getfield 46, 3) := by decide +kernel
theorem dX8_copyFrom_46 : decode cX8_copyFrom 46 = .ok (.putfield 46, 3) := by decide +kernel
theorem dX8_copyFrom_49 : decode cX8_copyFrom 49 = .ok (.aload_n 0, 1) := by decide +kernel
theorem dX8_copyFrom_50 : decode cX8_copyFrom 50 = .ok (.aload_n 1, 1) := by decide +kernel
theorem dX8_copyFrom_51 : decode cX8_copyFrom 51 = .ok (.getfield 49, 3) := by decide +kernel
theorem dX8_copyFrom_54 : decode cX8_copyFrom 54 = .ok (.putfield 49, 3) := by decide +kernel
theorem dX8_copyFrom_57 : decode cX8_copyFrom 57 = .ok (.aload_n 0, 1) := by decide +kernel
theorem dX8_copyFrom_58 : decode cX8_copyFrom 58 = .ok (.aload_n 1, 1) := by decide +kernel
theorem dX8_copyFrom_59 : decode cX8_copyFrom 59 = .ok (.getfield 52, 3) := by decide +kernel
theorem dX8_copyFrom_62 : decode cX8_copyFrom 62 = .ok (.putfield 52, 3) := by decide +kernel
theorem dX8_copyFrom_65 : decode cX8_copyFrom 65 = .ok (.return_, 1) := by decide +kernel
theorem vm_X8_copyFrom : aVm yX8_copyFrom RX8 cX8_copyFrom 2 none 1 := ⟨tw_782, tw_780, tw_781, tw_2, rfl, by decide +kernel, by decide +kernel, by decide +kernel⟩
theorem dX4_keep_0 : decode cX4_keep 0 = .ok (.aload_n 0, 1) := by decide +kernel
theorem dX4_keep_1 : decode cX4_keep 1 = .ok (.getfield 11, 3) := by decide +kernel
theorem dX4_keep_4 : decode cX4_keep 4 = .ok (.aload_n 0, 1) := by decide +kernel
theorem dX4_keep_5 : decode cX4_keep 5 = .ok (.getfield 18, 3) := by decide +kernel
theorem dX4_keep_8 : decode cX4_keep 8 = .ok (.aaload, 1) := by decide +kernel
theorem dX4_keep_9 : decode cX4_keep 9 = .ok (.aload_n 1, 1) := by decide +kernel
theorem dX4_keep_10 : decode cX4_keep 10 = .ok (.invokevirtual 22, 3) := by decide +kernel
theorem dX4_keep_13 : decode cX4_keep 13 = .ok (.aload_n 0, 1) := by decide +kernel
theorem dX4_keep_14 : decode cX4_keep 14 = .ok (.aload_n 0, 1) := by decide +kernel
theorem dX4_keep_15 : decode cX4_keep 15 = .ok (.getfield 18, 3) := by decide +kernel
theorem dX4_keep_18 : decode cX4_keep 18 = .ok (.iconst 1, 1) := by decide +kernel
theorem dX4_keep_19 : decode cX4_keep 19 = .ok (.iadd, 1) := by decide +kernel
theorem dX4_keep_20 : decode cX4_keep 20 = .ok (.bipush 8, 2) := by decide +kernel
theorem dX4_keep_22 : decode cX4_keep 22 = .ok (.irem, 1) := by decide +kernel
theorem dX4_keep_23 : decode cX4_keep 23 = .ok (.putfield 18, 3) := by decide +kernel
theorem dX4_keep_26 : decode cX4_keep 26 = .ok (.aload_n 0, 1) := by decide +kernel
theorem dX4_keep_27 : decode cX4_keep 27 = .ok (.bipush 8, 2) := by decide +kernel
theorem dX4_keep_29 : decode cX4_keep 29 = .ok (.aload_n 0, 1) := by decide +kernel
theorem dX4_keep_30 : decode cX4_keep 30 = .ok (.getfield 26, 3) := by decide +kernel
theorem dX4_keep_33 : decode cX4_keep 33 = .ok (.iconst 1, 1) := by decide +kernel
theorem dX4_keep_34 : decode cX4_keep 34 = .ok (.iadd, 1) := by decide +kernel
theorem dX4_keep_35 : decode cX4_keep 35 = .ok (.invokestatic 29, 3) := by decide +kernel
theorem dX4_keep_38 : decode cX4_keep 38 = .ok (.putfield 26, 3) := by decide +kernel
theorem dX4_keep_41 : decode cX4_keep 41 = .ok (.return_, 1) := by decide +kernel
theorem vm_X4_keep : aVm yX4_keep RX4 cX4_keep 2 none 1 := ⟨tw_778, tw_776, tw_777, tw_6, rfl, by decide +kernel, by decide +kernel, by decide +kernel⟩
theorem dX5_keep_0 : decode cX5_keep 0 = .ok (.aload_n 0, 1) := by decide +kernel
theorem dX5_keep_1 : decode cX5_keep 1 = .ok (.iconst 1, 1) := by decide +kernel
theorem dX5_keep_2 : decode cX5_keep 2 = .ok (.putfield 7, 3) := by decide +kernel
theorem dX5_keep_5 : decode cX5_keep 5 = .ok (.aload_n 0, 1) := by decide +kernel
theorem dX5_keep_6 : decode cX5_keep 6 = .ok (.iload_n 1, 1) := by decide +kernel
theorem dX5_keep_7 : decode cX5_keep 7 = .ok (.putfield 13, 3) := by decide +kernel
theorem dX5_keep_10 : decode cX5_keep 10 = .ok (.aload_n 0, 1) := by decide +kernel
theorem dX5_keep_11 : decode cX5_keep 11 = .ok (.iload_n 2, 1) := by decide +kernel
theorem dX5_keep_12 : decode cX5_keep 12 = .ok (.putfield 17, 3) := by decide +kernel
theorem dX5_keep_15 : decode cX5_keep 15 = .ok (.aload_n 0, 1) := by decide +kernel
theorem dX5_keep_16 : decode cX5_keep 16 = .ok (.iconst 0, 1) := by decide +kernel
theorem dX5_keep_17 : decode cX5_keep 17 = .ok (.putfield 20, 3) := by decide +kernel
theorem dX5_keep_20 : decode cX5_keep 20 = .ok (.iconst 1, 1) := by decide +kernel
theorem dX5_keep_21 : decode cX5_keep 21 = .ok (.ireturn, 1) := by decide +kernel
theorem vm_X5_keep : aVm yX5_keep RX5 cX5_keep 3 (some .boolean) 2 := ⟨tw_708, tw_706, tw_707, tw_10, rfl, by decide +kernel, by decide +kernel, by decide +kernel⟩
theorem dX5_putBehind_0 : decode cX5_putBehind 0 = .ok (.aload_n 0, 1) := by decide +kernel
theorem dX5_putBehind_1 : decode cX5_putBehind 1 = .ok (.aload_n 0, 1) := by decide +kernel
theorem dX5_putBehind_2 : decode cX5_putBehind 2 = .ok (.getfield 13, 3) := by decide +kernel
theorem dX5_putBehind_5 : decode cX5_putBehind 5 = .ok (.putfield 23, 3) := by decide +kernel
theorem dX5_putBehind_8 : decode cX5_putBehind 8 = .ok (.aload_n 0, 1) := by decide +kernel
theorem dX5_putBehind_9 : decode cX5_putBehind 9 = .ok (.aload_n 0, 1) := by decide +kernel
theorem dX5_putBehind_10 : decode cX5_putBehind 10 = .ok (.getfield 17, 3) := by decide +kernel
theorem dX5_putBehind_13 : decode cX5_putBehind 13 = .ok (.putfield 26, 3) := by decide +kernel
theorem dX5_putBehind_16 : decode cX5_putBehind 16 = .ok (.aload_n 0, 1) := by decide +kernel
theorem dX5_putBehind_17 : decode cX5_putBehind 17 = .ok (.iload_n 1, 1) := by decide +kernel
theorem dX5_putBehind_18 : decode cX5_putBehind 18 = .ok (.putfield 13, 3) := by decide +kernel
theorem dX5_putBehind_21 : decode cX5_putBehind 21 = .ok (.aload_n 0, 1) := by decide +kernel
theorem dX5_putBehind_22 : decode cX5_putBehind 22 = .ok (.iload_n 2, 1) := by decide +kernel
theorem dX5_putBehind_23 : decode cX5_putBehind 23 = .ok (.putfield 17, 3) := by decide +kernel
theorem dX5_putBehind_26 : decode cX5_putBehind 26 = .ok (.aload_n 0, 1) := by decide +kernel
theorem dX5_putBehind_27 : decode cX5_putBehind 27 = .ok (.iconst 1, 1) := by decide +kernel
theorem dX5_putBehind_28 : decode cX5_putBehind 28 = .ok (.putfield 20, 3) := by decide +kernel
theorem dX5_putBehind_31 : decode cX5_putBehind 31 = .ok (.return_, 1) := by decide +kernel
theorem vm_X5_putBehind : aVm yX5_putBehind RX5 cX5_putBehind 3 none 2 := ⟨tw_997, tw_995, tw_996, tw_10, rfl, by decide +kernel, by decide +kernel, by decide +kernel⟩
def w_X6_copyFrom (b : Nat) (a : Nat) (q : aS) (P : Int32 → aS → Prop) : Prop := ∀ q1 : aS, q1 = (up2 q.1 (b + 1) 0 (q.1 (a + 1) 0), q.2) → (cpok 6 6 0 0 6 ∧ ∀ q2 : aS, q2 = (upR q1.1 (b + 2) (va_cpy (q1.1 (a + 2)) (q1.1 (b + 2)) (Int32.toNatClampNeg 0) (Int32.toNatClampNeg 0) (Int32.toNatClampNeg 6)), q1.2) → (cpok 6 6 0 0 6 ∧ ∀ q3 : aS, q3 = (upR q2.1 (b + 3) (va_cpy (q2.1 (a + 3)) (q2.1 (b + 3)) (Int32.toNatClampNeg 0) (Int32.toNatClampNeg 0) (Int32.toNatClampNeg 6)), q2.2) → (cpok 6 6 0 0 6 ∧ ∀ q4 : aS, q4 = (upR q3.1 (b + 4) (va_cpy (q3.1 (a + 4)) (q3.1 (b + 4)) (Int32.toNatClampNeg 0) (Int32.toNatClampNeg 0) (Int32.toNatClampNeg 6)), q3.2) → P 0 q4)))
def w_X1_copyFrom (b : Nat) (a : Nat) (q : aS) (P : Int32 → aS → Prop) : Prop := ∀ q1 : aS, q1 = (up2 q.1 (b + 5) 0 (q.1 (a + 5) 0), q.2) → (cpok 8 8 0 0 8 ∧ ∀ q2 : aS, q2 = (upR q1.1 (b + 6) (va_cpy (q1.1 (a + 6)) (q1.1 (b + 6)) (Int32.toNatClampNeg 0) (Int32.toNatClampNeg 0) (Int32.toNatClampNeg 8)), q1.2) → (cpok 8 8 0 0 8 ∧ ∀ q3 : aS, q3 = (upR q2.1 (b + 7) (va_cpy (q2.1 (a + 7)) (q2.1 (b + 7)) (Int32.toNatClampNeg 0) (Int32.toNatClampNeg 0) (Int32.toNatClampNeg 8)), q2.2) → (cpok 8 8 0 0 8 ∧ ∀ q4 : aS, q4 = (upR q3.1 (b + 8) (va_cpy (q3.1 (a + 8)) (q3.1 (b + 8)) (Int32.toNatClampNeg 0) (Int32.toNatClampNeg 0) (Int32.toNatClampNeg 8)), q3.2) → (cpok 8 8 0 0 8 ∧ ∀ q5 : aS, q5 = (upR q4.1 (b + 9) (va_cpy (q4.1 (a + 9)) (q4.1 (b + 9)) (Int32.toNatClampNeg 0) (Int32.toNatClampNeg 0) (Int32.toNatClampNeg 8)), q4.2) → (cpok 8 8 0 0 8 ∧ ∀ q6 : aS, q6 = (upR q5.1 (b + 10) (va_cpy (q5.1 (a + 10)) (q5.1 (b + 10)) (Int32.toNatClampNeg 0) (Int32.toNatClampNeg 0) (Int32.toNatClampNeg 8)), q5.2) → P 0 q6)))))
def w_X7_copyFrom (b : Nat) (a : Nat) (q : aS) (P : Int32 → aS → Prop) : Prop := ∀ q1 : aS, q1 = (up2 q.1 (b + 11) 0 (q.1 (a + 11) 0), q.2) → (cpok 6 6 0 0 6 ∧ ∀ q2 : aS, q2 = (upR q1.1 (b + 12) (va_cpy (q1.1 (a + 12)) (q1.1 (b + 12)) (Int32.toNatClampNeg 0) (Int32.toNatClampNeg 0) (Int32.toNatClampNeg 6)), q1.2) → (cpok 6 6 0 0 6 ∧ ∀ q3 : aS, q3 = (upR q2.1 (b + 13) (va_cpy (q2.1 (a + 13)) (q2.1 (b + 13)) (Int32.toNatClampNeg 0) (Int32.toNatClampNeg 0) (Int32.toNatClampNeg 6)), q2.2) → (cpok 6 6 0 0 6 ∧ ∀ q4 : aS, q4 = (upR q3.1 (b + 14) (va_cpy (q3.1 (a + 14)) (q3.1 (b + 14)) (Int32.toNatClampNeg 0) (Int32.toNatClampNeg 0) (Int32.toNatClampNeg 6)), q3.2) → (cpok 6 6 0 0 6 ∧ ∀ q5 : aS, q5 = (upR q4.1 (b + 15) (va_cpy (q4.1 (a + 15)) (q4.1 (b + 15)) (Int32.toNatClampNeg 0) (Int32.toNatClampNeg 0) (Int32.toNatClampNeg 6)), q4.2) → (cpok 6 6 0 0 6 ∧ ∀ q6 : aS, q6 = (upR q5.1 (b + 16) (va_cpy (q5.1 (a + 16)) (q5.1 (b + 16)) (Int32.toNatClampNeg 0) (Int32.toNatClampNeg 0) (Int32.toNatClampNeg 6)), q5.2) → P 0 q6)))))
def w_X8_copyFrom (b : Nat) (a : Nat) (q : aS) (P : Int32 → aS → Prop) : Prop := w_X6_copyFrom b a q (fun _ q2 => w_X1_copyFrom b a q2 (fun _ q4 => w_X7_copyFrom b a q4 (fun _ q6 => ∀ q7 : aS, q7 = (up2 q6.1 (b + 0) 3 (q6.1 (a + 0) 3), q6.2) → ∀ q8 : aS, q8 = (up2 q7.1 (b + 0) 4 (q7.1 (a + 0) 4), q7.2) → ∀ q9 : aS, q9 = (up2 q8.1 (b + 0) 5 (q8.1 (a + 0) 5), q8.2) → ∀ q10 : aS, q10 = (up2 q9.1 (b + 0) 6 (q9.1 (a + 0) 6), q9.2) → P 0 q10)))
def w_X4_keep (a : Nat) (q : aS) (P : Int32 → aS → Prop) : Prop := (vp_in (q.1 52 1) 8 ∧ w_X8_copyFrom (54 + 17 * (Int32.toNatClampNeg (q.1 52 1))) a q (fun _ q3 => ∀ q4 : aS, q4 = (up2 q3.1 52 1 (((q3.1 52 1) + 1) - ((q3.1 52 1) + 1) / 8 * 8), q3.2) → ∀ q5 : aS, q5 = (up2 q4.1 52 2 (if ((q4.1 52 2) + 1) < 8 then ((q4.1 52 2) + 1) else 8), q4.2) → P 0 q5))
def w_X5_keep (x1 : Int32) (x2 : Int32) (q : aS) (P : Int32 → aS → Prop) : Prop := ∀ q3 : aS, q3 = (up2 q.1 204 0 1, q.2) → ∀ q4 : aS, q4 = (up2 q3.1 204 1 x1, q3.2) → ∀ q5 : aS, q5 = (up2 q4.1 204 2 x2, q4.2) → ∀ q6 : aS, q6 = (up2 q5.1 204 3 0, q5.2) → P 1 q6
def w_X5_putBehind (x1 : Int32) (x2 : Int32) (q : aS) (P : Int32 → aS → Prop) : Prop := ∀ q3 : aS, q3 = (up2 q.1 204 4 (q.1 204 1), q.2) → ∀ q4 : aS, q4 = (up2 q3.1 204 5 (q3.1 204 2), q3.2) → ∀ q5 : aS, q5 = (up2 q4.1 204 1 x1, q4.2) → ∀ q6 : aS, q6 = (up2 q5.1 204 2 x2, q5.2) → ∀ q7 : aS, q7 = (up2 q6.1 204 3 1, q6.2) → P 0 q7
set_option maxRecDepth 20000 in
theorem t_X6_copyFrom {l : Launch} {g : aG} (hX : isX g) (b : Nat) (a : Nat) (hb : isB b) (ha : isB a) (hl : l.stackTraces = false) (q : aS) (P : Int32 → aS → Prop) (h : w_X6_copyFrom b a q P) : aMv l g yX6_copyFrom (aWs yX6_copyFrom cX6_copyFrom 2 none) 1 0 0 [.ref (gAd g (b + 1)), .ref (gAd g (a + 1))] q P (fun _ _ => False) := by
  refine aMv_of RX6 ⟨by decide +kernel, rfl⟩ (cat_all rfl) (Nat.le_of_ble_eq_true rfl) hl hX.cl (fun f hR hC hE => ?_)
  show AW f g 0 [some (.ref (gAd g (b + 1))), some (.ref (gAd g (a + 1)))] [] q 0 0
  unfold w_X6_copyFrom at h
  refine a_aload_n (pc := 0) hC dX6_copyFrom_0 rfl ?_
  refine a_aload_n (pc := 1) hC dX6_copyFrom_1 rfl ?_
  refine a_get (pc := 2) hC cl_X6 (oB_1 hX ha) 0 (by decide) tw_54 rfl dX6_copyFrom_2 ?_
  refine a_put (pc := 5) hC cl_X6 (oB_1 hX hb) 0 (by decide) tw_54 tyX6 tyX6_ok rfl rfl rfl (Nat.le_of_ble_eq_true rfl) rfl dX6_copyFrom_5 ?_
  replace h := h _ rfl
  refine a_aload_n (pc := 8) hC dX6_copyFrom_8 rfl ?_
  refine a_get (pc := 9) hC cl_X6 (oB_1 hX ha) 1 (by decide) tw_57 rfl dX6_copyFrom_9 ?_
  refine a_iconst (pc := 12) hC dX6_copyFrom_12 (v := 0) rfl ?_
  refine a_aload_n (pc := 13) hC dX6_copyFrom_13 rfl ?_
  refine a_get (pc := 14) hC cl_X6 (oB_1 hX hb) 1 (by decide) tw_57 rfl dX6_copyFrom_14 ?_
  refine a_iconst (pc := 17) hC dX6_copyFrom_17 (v := 0) rfl ?_
  refine a_bipush (pc := 18) hC dX6_copyFrom_18 (v := 6) rfl ?_
  refine a_copy (pc := 20) hC hR (Nat.le_of_ble_eq_true rfl) rfl tw_787 tw_789 tw_788 tw_22 (oB_2 hX ha) (oB_2 hX hb) h.1 dX6_copyFrom_20 (Nat.le_of_ble_eq_true rfl) ?_
  replace h := h.2 _ rfl
  refine a_aload_n (pc := 23) hC dX6_copyFrom_23 rfl ?_
  refine a_get (pc := 24) hC cl_X6 (oB_1 hX ha) 2 (by decide) tw_60 rfl dX6_copyFrom_24 ?_
  refine a_iconst (pc := 27) hC dX6_copyFrom_27 (v := 0) rfl ?_
  refine a_aload_n (pc := 28) hC dX6_copyFrom_28 rfl ?_
  refine a_get (pc := 29) hC cl_X6 (oB_1 hX hb) 2 (by decide) tw_60 rfl dX6_copyFrom_29 ?_
  refine a_iconst (pc := 32) hC dX6_copyFrom_32 (v := 0) rfl ?_
  refine a_bipush (pc := 33) hC dX6_copyFrom_33 (v := 6) rfl ?_
  refine a_copy (pc := 35) hC hR (Nat.le_of_ble_eq_true rfl) rfl tw_787 tw_789 tw_788 tw_22 (oB_3 hX ha) (oB_3 hX hb) h.1 dX6_copyFrom_35 (Nat.le_of_ble_eq_true rfl) ?_
  replace h := h.2 _ rfl
  refine a_aload_n (pc := 38) hC dX6_copyFrom_38 rfl ?_
  refine a_get (pc := 39) hC cl_X6 (oB_1 hX ha) 3 (by decide) tw_63 rfl dX6_copyFrom_39 ?_
  refine a_iconst (pc := 42) hC dX6_copyFrom_42 (v := 0) rfl ?_
  refine a_aload_n (pc := 43) hC dX6_copyFrom_43 rfl ?_
  refine a_get (pc := 44) hC cl_X6 (oB_1 hX hb) 3 (by decide) tw_63 rfl dX6_copyFrom_44 ?_
  refine a_iconst (pc := 47) hC dX6_copyFrom_47 (v := 0) rfl ?_
  refine a_bipush (pc := 48) hC dX6_copyFrom_48 (v := 6) rfl ?_
  refine a_copy (pc := 50) hC hR (Nat.le_of_ble_eq_true rfl) rfl tw_787 tw_789 tw_788 tw_22 (oB_4 hX ha) (oB_4 hX hb) h.1 dX6_copyFrom_50 (Nat.le_of_ble_eq_true rfl) ?_
  replace h := h.2 _ rfl
  exact a_vret (pc := 53) hC hE h (Nat.le_of_ble_eq_true rfl) (Nat.le_of_ble_eq_true rfl) dX6_copyFrom_53
set_option maxRecDepth 20000 in
theorem t_X1_copyFrom {l : Launch} {g : aG} (hX : isX g) (b : Nat) (a : Nat) (hb : isB b) (ha : isB a) (hl : l.stackTraces = false) (q : aS) (P : Int32 → aS → Prop) (h : w_X1_copyFrom b a q P) : aMv l g yX1_copyFrom (aWs yX1_copyFrom cX1_copyFrom 2 none) 1 0 0 [.ref (gAd g (b + 5)), .ref (gAd g (a + 5))] q P (fun _ _ => False) := by
  refine aMv_of RX1 ⟨by decide +kernel, rfl⟩ (cat_all rfl) (Nat.le_of_ble_eq_true rfl) hl hX.cl (fun f hR hC hE => ?_)
  show AW f g 0 [some (.ref (gAd g (b + 5))), some (.ref (gAd g (a + 5)))] [] q 0 0
  unfold w_X1_copyFrom at h
  refine a_aload_n (pc := 0) hC dX1_copyFrom_0 rfl ?_
  refine a_aload_n (pc := 1) hC dX1_copyFrom_1 rfl ?_
  refine a_get (pc := 2) hC cl_X1 (oB_5 hX ha) 0 (by decide) tw_82 rfl dX1_copyFrom_2 ?_
  refine a_put (pc := 5) hC cl_X1 (oB_5 hX hb) 0 (by decide) tw_82 tyX1 tyX1_ok rfl rfl rfl (Nat.le_of_ble_eq_true rfl) rfl dX1_copyFrom_5 ?_
  replace h := h _ rfl
  refine a_aload_n (pc := 8) hC dX1_copyFrom_8 rfl ?_
  refine a_get (pc := 9) hC cl_X1 (oB_5 hX ha) 1 (by decide) tw_85 rfl dX1_copyFrom_9 ?_
  refine a_iconst (pc := 12) hC dX1_copyFrom_12 (v := 0) rfl ?_
  refine a_aload_n (pc := 13) hC dX1_copyFrom_13 rfl ?_
  refine a_get (pc := 14) hC cl_X1 (oB_5 hX hb) 1 (by decide) tw_85 rfl dX1_copyFrom_14 ?_
  refine a_iconst (pc := 17) hC dX1_copyFrom_17 (v := 0) rfl ?_
  refine a_bipush (pc := 18) hC dX1_copyFrom_18 (v := 8) rfl ?_
  refine a_copy (pc := 20) hC hR (Nat.le_of_ble_eq_true rfl) rfl tw_794 tw_789 tw_788 tw_22 (oB_6 hX ha) (oB_6 hX hb) h.1 dX1_copyFrom_20 (Nat.le_of_ble_eq_true rfl) ?_
  replace h := h.2 _ rfl
  refine a_aload_n (pc := 23) hC dX1_copyFrom_23 rfl ?_
  refine a_get (pc := 24) hC cl_X1 (oB_5 hX ha) 2 (by decide) tw_88 rfl dX1_copyFrom_24 ?_
  refine a_iconst (pc := 27) hC dX1_copyFrom_27 (v := 0) rfl ?_
  refine a_aload_n (pc := 28) hC dX1_copyFrom_28 rfl ?_
  refine a_get (pc := 29) hC cl_X1 (oB_5 hX hb) 2 (by decide) tw_88 rfl dX1_copyFrom_29 ?_
  refine a_iconst (pc := 32) hC dX1_copyFrom_32 (v := 0) rfl ?_
  refine a_bipush (pc := 33) hC dX1_copyFrom_33 (v := 8) rfl ?_
  refine a_copy (pc := 35) hC hR (Nat.le_of_ble_eq_true rfl) rfl tw_794 tw_789 tw_788 tw_22 (oB_7 hX ha) (oB_7 hX hb) h.1 dX1_copyFrom_35 (Nat.le_of_ble_eq_true rfl) ?_
  replace h := h.2 _ rfl
  refine a_aload_n (pc := 38) hC dX1_copyFrom_38 rfl ?_
  refine a_get (pc := 39) hC cl_X1 (oB_5 hX ha) 3 (by decide) tw_91 rfl dX1_copyFrom_39 ?_
  refine a_iconst (pc := 42) hC dX1_copyFrom_42 (v := 0) rfl ?_
  refine a_aload_n (pc := 43) hC dX1_copyFrom_43 rfl ?_
  refine a_get (pc := 44) hC cl_X1 (oB_5 hX hb) 3 (by decide) tw_91 rfl dX1_copyFrom_44 ?_
  refine a_iconst (pc := 47) hC dX1_copyFrom_47 (v := 0) rfl ?_
  refine a_bipush (pc := 48) hC dX1_copyFrom_48 (v := 8) rfl ?_
  refine a_copy (pc := 50) hC hR (Nat.le_of_ble_eq_true rfl) rfl tw_794 tw_789 tw_788 tw_22 (oB_8 hX ha) (oB_8 hX hb) h.1 dX1_copyFrom_50 (Nat.le_of_ble_eq_true rfl) ?_
  replace h := h.2 _ rfl
  refine a_aload_n (pc := 53) hC dX1_copyFrom_53 rfl ?_
  refine a_get (pc := 54) hC cl_X1 (oB_5 hX ha) 4 (by decide) tw_94 rfl dX1_copyFrom_54 ?_
  refine a_iconst (pc := 57) hC dX1_copyFrom_57 (v := 0) rfl ?_
  refine a_aload_n (pc := 58) hC dX1_copyFrom_58 rfl ?_
  refine a_get (pc := 59) hC cl_X1 (oB_5 hX hb) 4 (by decide) tw_94 rfl dX1_copyFrom_59 ?_
  refine a_iconst (pc := 62) hC dX1_copyFrom_62 (v := 0) rfl ?_
  refine a_bipush (pc := 63) hC dX1_copyFrom_63 (v := 8) rfl ?_
  refine a_copy (pc := 65) hC hR (Nat.le_of_ble_eq_true rfl) rfl tw_794 tw_789 tw_788 tw_22 (oB_9 hX ha) (oB_9 hX hb) h.1 dX1_copyFrom_65 (Nat.le_of_ble_eq_true rfl) ?_
  replace h := h.2 _ rfl
  refine a_aload_n (pc := 68) hC dX1_copyFrom_68 rfl ?_
  refine a_get (pc := 69) hC cl_X1 (oB_5 hX ha) 5 (by decide) tw_97 rfl dX1_copyFrom_69 ?_
  refine a_iconst (pc := 72) hC dX1_copyFrom_72 (v := 0) rfl ?_
  refine a_aload_n (pc := 73) hC dX1_copyFrom_73 rfl ?_
  refine a_get (pc := 74) hC cl_X1 (oB_5 hX hb) 5 (by decide) tw_97 rfl dX1_copyFrom_74 ?_
  refine a_iconst (pc := 77) hC dX1_copyFrom_77 (v := 0) rfl ?_
  refine a_bipush (pc := 78) hC dX1_copyFrom_78 (v := 8) rfl ?_
  refine a_copy (pc := 80) hC hR (Nat.le_of_ble_eq_true rfl) rfl tw_794 tw_789 tw_788 tw_22 (oB_10 hX ha) (oB_10 hX hb) h.1 dX1_copyFrom_80 (Nat.le_of_ble_eq_true rfl) ?_
  replace h := h.2 _ rfl
  exact a_vret (pc := 83) hC hE h (Nat.le_of_ble_eq_true rfl) (Nat.le_of_ble_eq_true rfl) dX1_copyFrom_83
set_option maxRecDepth 20000 in
theorem t_X7_copyFrom {l : Launch} {g : aG} (hX : isX g) (b : Nat) (a : Nat) (hb : isB b) (ha : isB a) (hl : l.stackTraces = false) (q : aS) (P : Int32 → aS → Prop) (h : w_X7_copyFrom b a q P) : aMv l g yX7_copyFrom (aWs yX7_copyFrom cX7_copyFrom 2 none) 1 0 0 [.ref (gAd g (b + 11)), .ref (gAd g (a + 11))] q P (fun _ _ => False) := by
  refine aMv_of RX7 ⟨by decide +kernel, rfl⟩ (cat_all rfl) (Nat.le_of_ble_eq_true rfl) hl hX.cl (fun f hR hC hE => ?_)
  show AW f g 0 [some (.ref (gAd g (b + 11))), some (.ref (gAd g (a + 11)))] [] q 0 0
  unfold w_X7_copyFrom at h
  refine a_aload_n (pc := 0) hC dX7_copyFrom_0 rfl ?_
  refine a_aload_n (pc := 1) hC dX7_copyFrom_1 rfl ?_
  refine a_get (pc := 2) hC cl_X7 (oB_11 hX ha) 0 (by decide) tw_119 rfl dX7_copyFrom_2 ?_
  refine a_put (pc := 5) hC cl_X7 (oB_11 hX hb) 0 (by decide) tw_119 tyX7 tyX7_ok rfl rfl rfl (Nat.le_of_ble_eq_true rfl) rfl dX7_copyFrom_5 ?_
  replace h := h _ rfl
  refine a_aload_n (pc := 8) hC dX7_copyFrom_8 rfl ?_
  refine a_get (pc := 9) hC cl_X7 (oB_11 hX ha) 1 (by decide) tw_122 rfl dX7_copyFrom_9 ?_
  refine a_iconst (pc := 12) hC dX7_copyFrom_12 (v := 0) rfl ?_
  refine a_aload_n (pc := 13) hC dX7_copyFrom_13 rfl ?_
  refine a_get (pc := 14) hC cl_X7 (oB_11 hX hb) 1 (by decide) tw_122 rfl dX7_copyFrom_14 ?_
  refine a_iconst (pc := 17) hC dX7_copyFrom_17 (v := 0) rfl ?_
  refine a_bipush (pc := 18) hC dX7_copyFrom_18 (v := 6) rfl ?_
  refine a_copy (pc := 20) hC hR (Nat.le_of_ble_eq_true rfl) rfl tw_799 tw_789 tw_788 tw_22 (oB_12 hX ha) (oB_12 hX hb) h.1 dX7_copyFrom_20 (Nat.le_of_ble_eq_true rfl) ?_
  replace h := h.2 _ rfl
  refine a_aload_n (pc := 23) hC dX7_copyFrom_23 rfl ?_
  refine a_get (pc := 24) hC cl_X7 (oB_11 hX ha) 2 (by decide) tw_125 rfl dX7_copyFrom_24 ?_
  refine a_iconst (pc := 27) hC dX7_copyFrom_27 (v := 0) rfl ?_
  refine a_aload_n (pc := 28) hC dX7_copyFrom_28 rfl ?_
  refine a_get (pc := 29) hC cl_X7 (oB_11 hX hb) 2 (by decide) tw_125 rfl dX7_copyFrom_29 ?_
  refine a_iconst (pc := 32) hC dX7_copyFrom_32 (v := 0) rfl ?_
  refine a_bipush (pc := 33) hC dX7_copyFrom_33 (v := 6) rfl ?_
  refine a_copy (pc := 35) hC hR (Nat.le_of_ble_eq_true rfl) rfl tw_799 tw_789 tw_788 tw_22 (oB_13 hX ha) (oB_13 hX hb) h.1 dX7_copyFrom_35 (Nat.le_of_ble_eq_true rfl) ?_
  replace h := h.2 _ rfl
  refine a_aload_n (pc := 38) hC dX7_copyFrom_38 rfl ?_
  refine a_get (pc := 39) hC cl_X7 (oB_11 hX ha) 3 (by decide) tw_128 rfl dX7_copyFrom_39 ?_
  refine a_iconst (pc := 42) hC dX7_copyFrom_42 (v := 0) rfl ?_
  refine a_aload_n (pc := 43) hC dX7_copyFrom_43 rfl ?_
  refine a_get (pc := 44) hC cl_X7 (oB_11 hX hb) 3 (by decide) tw_128 rfl dX7_copyFrom_44 ?_
  refine a_iconst (pc := 47) hC dX7_copyFrom_47 (v := 0) rfl ?_
  refine a_bipush (pc := 48) hC dX7_copyFrom_48 (v := 6) rfl ?_
  refine a_copy (pc := 50) hC hR (Nat.le_of_ble_eq_true rfl) rfl tw_799 tw_789 tw_788 tw_22 (oB_14 hX ha) (oB_14 hX hb) h.1 dX7_copyFrom_50 (Nat.le_of_ble_eq_true rfl) ?_
  replace h := h.2 _ rfl
  refine a_aload_n (pc := 53) hC dX7_copyFrom_53 rfl ?_
  refine a_get (pc := 54) hC cl_X7 (oB_11 hX ha) 4 (by decide) tw_131 rfl dX7_copyFrom_54 ?_
  refine a_iconst (pc := 57) hC dX7_copyFrom_57 (v := 0) rfl ?_
  refine a_aload_n (pc := 58) hC dX7_copyFrom_58 rfl ?_
  refine a_get (pc := 59) hC cl_X7 (oB_11 hX hb) 4 (by decide) tw_131 rfl dX7_copyFrom_59 ?_
  refine a_iconst (pc := 62) hC dX7_copyFrom_62 (v := 0) rfl ?_
  refine a_bipush (pc := 63) hC dX7_copyFrom_63 (v := 6) rfl ?_
  refine a_copy (pc := 65) hC hR (Nat.le_of_ble_eq_true rfl) rfl tw_799 tw_789 tw_788 tw_22 (oB_15 hX ha) (oB_15 hX hb) h.1 dX7_copyFrom_65 (Nat.le_of_ble_eq_true rfl) ?_
  replace h := h.2 _ rfl
  refine a_aload_n (pc := 68) hC dX7_copyFrom_68 rfl ?_
  refine a_get (pc := 69) hC cl_X7 (oB_11 hX ha) 5 (by decide) tw_134 rfl dX7_copyFrom_69 ?_
  refine a_iconst (pc := 72) hC dX7_copyFrom_72 (v := 0) rfl ?_
  refine a_aload_n (pc := 73) hC dX7_copyFrom_73 rfl ?_
  refine a_get (pc := 74) hC cl_X7 (oB_11 hX hb) 5 (by decide) tw_134 rfl dX7_copyFrom_74 ?_
  refine a_iconst (pc := 77) hC dX7_copyFrom_77 (v := 0) rfl ?_
  refine a_bipush (pc := 78) hC dX7_copyFrom_78 (v := 6) rfl ?_
  refine a_copy (pc := 80) hC hR (Nat.le_of_ble_eq_true rfl) rfl tw_799 tw_789 tw_788 tw_22 (oB_16 hX ha) (oB_16 hX hb) h.1 dX7_copyFrom_80 (Nat.le_of_ble_eq_true rfl) ?_
  replace h := h.2 _ rfl
  exact a_vret (pc := 83) hC hE h (Nat.le_of_ble_eq_true rfl) (Nat.le_of_ble_eq_true rfl) dX7_copyFrom_83
set_option maxRecDepth 20000 in
theorem t_X8_copyFrom {l : Launch} {g : aG} (hX : isX g) (b : Nat) (a : Nat) (hb : isB b) (ha : isB a) (hl : l.stackTraces = false) (q : aS) (P : Int32 → aS → Prop) (h : w_X8_copyFrom b a q P) : aMv l g yX8_copyFrom (aWs yX8_copyFrom cX8_copyFrom 2 none) 2 0 0 [.ref (gAd g (b + 0)), .ref (gAd g (a + 0))] q P (fun _ _ => False) := by
  refine aMv_of RX8 ⟨by decide +kernel, rfl⟩ (cat_all rfl) (Nat.le_of_ble_eq_true rfl) hl hX.cl (fun f hR hC hE => ?_)
  show AW f g 0 [some (.ref (gAd g (b + 0))), some (.ref (gAd g (a + 0)))] [] q 0 0
  unfold w_X8_copyFrom at h
  refine a_aload_n (pc := 0) hC dX8_copyFrom_0 rfl ?_
  refine a_get (pc := 1) hC cl_X8 (oB_0 hX hb) 0 (by decide) tw_150 rfl dX8_copyFrom_1 ?_
  refine a_aload_n (pc := 4) hC dX8_copyFrom_4 rfl ?_
  refine a_get (pc := 5) hC cl_X8 (oB_0 hX ha) 0 (by decide) tw_150 rfl dX8_copyFrom_5 ?_
  refine a_callVv (pc := 8) hC hR vm_X6_copyFrom tw_783 cl_X6 (oB_1 hX hb) ⟨(Nat.le_of_ble_eq_true rfl), (Nat.le_of_ble_eq_true rfl), (Nat.le_of_ble_eq_true rfl), (Nat.le_of_ble_eq_true rfl)⟩ dX8_copyFrom_8 (t_X6_copyFrom hX _ _ hb ha hC.tr _ _ h) rfl rfl rfl (Nat.le_of_ble_eq_true rfl) (fun q2 h => ?_)
  refine a_aload_n (pc := 11) hC dX8_copyFrom_11 rfl ?_
  refine a_get (pc := 12) hC cl_X8 (oB_0 hX hb) 1 (by decide) tw_152 rfl dX8_copyFrom_12 ?_
  refine a_aload_n (pc := 15) hC dX8_copyFrom_15 rfl ?_
  refine a_get (pc := 16) hC cl_X8 (oB_0 hX ha) 1 (by decide) tw_152 rfl dX8_copyFrom_16 ?_
  refine a_callVv (pc := 19) hC hR vm_X1_copyFrom tw_790 cl_X1 (oB_5 hX hb) ⟨(Nat.le_of_ble_eq_true rfl), (Nat.le_of_ble_eq_true rfl), (Nat.le_of_ble_eq_true rfl), (Nat.le_of_ble_eq_true rfl)⟩ dX8_copyFrom_19 (t_X1_copyFrom hX _ _ hb ha hC.tr _ _ h) rfl rfl rfl (Nat.le_of_ble_eq_true rfl) (fun q4 h => ?_)
  refine a_aload_n (pc := 22) hC dX8_copyFrom_22 rfl ?_
  refine a_get (pc := 23) hC cl_X8 (oB_0 hX hb) 2 (by decide) tw_154 rfl dX8_copyFrom_23 ?_
  refine a_aload_n (pc := 26) hC dX8_copyFrom_26 rfl ?_
  refine a_get (pc := 27) hC cl_X8 (oB_0 hX ha) 2 (by decide) tw_154 rfl dX8_copyFrom_27 ?_
  refine a_callVv (pc := 30) hC hR vm_X7_copyFrom tw_795 cl_X7 (oB_11 hX hb) ⟨(Nat.le_of_ble_eq_true rfl), (Nat.le_of_ble_eq_true rfl), (Nat.le_of_ble_eq_true rfl), (Nat.le_of_ble_eq_true rfl)⟩ dX8_copyFrom_30 (t_X7_copyFrom hX _ _ hb ha hC.tr _ _ h) rfl rfl rfl (Nat.le_of_ble_eq_true rfl) (fun q6 h => ?_)
  refine a_aload_n (pc := 33) hC dX8_copyFrom_33 rfl ?_
  refine a_aload_n (pc := 34) hC dX8_copyFrom_34 rfl ?_
  refine a_get (pc := 35) hC cl_X8 (oB_0 hX ha) 3 (by decide) tw_156 rfl dX8_copyFrom_35 ?_
  refine a_put (pc := 38) hC cl_X8 (oB_0 hX hb) 3 (by decide) tw_156 tyX8 tyX8_ok rfl rfl rfl (Nat.le_of_ble_eq_true rfl) rfl dX8_copyFrom_38 ?_
  replace h := h _ rfl
  refine a_aload_n (pc := 41) hC dX8_copyFrom_41 rfl ?_
  refine a_aload_n (pc := 42) hC dX8_copyFrom_42 rfl ?_
  refine a_get (pc := 43) hC cl_X8 (oB_0 hX ha) 4 (by decide) tw_158 rfl dX8_copyFrom_43 ?_
  refine a_put (pc := 46) hC cl_X8 (oB_0 hX hb) 4 (by decide) tw_158 tyX8 tyX8_ok rfl rfl rfl (Nat.le_of_ble_eq_true rfl) rfl dX8_copyFrom_46 ?_
  replace h := h _ rfl
  refine a_aload_n (pc := 49) hC dX8_copyFrom_49 rfl ?_
  refine a_aload_n (pc := 50) hC dX8_copyFrom_50 rfl ?_
  refine a_get (pc := 51) hC cl_X8 (oB_0 hX ha) 5 (by decide) tw_160 rfl dX8_copyFrom_51 ?_
  refine a_put (pc := 54) hC cl_X8 (oB_0 hX hb) 5 (by decide) tw_160 tyX8 tyX8_ok rfl rfl rfl (Nat.le_of_ble_eq_true rfl) rfl dX8_copyFrom_54 ?_
  replace h := h _ rfl
  refine a_aload_n (pc := 57) hC dX8_copyFrom_57 rfl ?_
  refine a_aload_n (pc := 58) hC dX8_copyFrom_58 rfl ?_
  refine a_get (pc := 59) hC cl_X8 (oB_0 hX ha) 6 (by decide) tw_162 rfl dX8_copyFrom_59 ?_
  refine a_put (pc := 62) hC cl_X8 (oB_0 hX hb) 6 (by decide) tw_162 tyX8 tyX8_ok rfl rfl rfl (Nat.le_of_ble_eq_true rfl) rfl dX8_copyFrom_62 ?_
  replace h := h _ rfl
  exact a_vret (pc := 65) hC hE h (Nat.le_of_ble_eq_true rfl) (Nat.le_of_ble_eq_true rfl) dX8_copyFrom_65
set_option maxRecDepth 20000 in
theorem t_X4_keep {l : Launch} {g : aG} (hX : isX g) (a : Nat) (ha : isB a) (hl : l.stackTraces = false) (q : aS) (P : Int32 → aS → Prop) (h : w_X4_keep a q P) : aMv l g yX4_keep (aWs yX4_keep cX4_keep 2 none) 3 0 0 [.ref (gAd g 52), .ref (gAd g (a + 0))] q P (fun _ _ => False) := by
  refine aMv_of RX4 ⟨by decide +kernel, rfl⟩ (cat_all rfl) (Nat.le_of_ble_eq_true rfl) hl hX.cl (fun f hR hC hE => ?_)
  show AW f g 0 [some (.ref (gAd g 52)), some (.ref (gAd g (a + 0)))] [] q 0 0
  unfold w_X4_keep at h
  refine a_aload_n (pc := 0) hC dX4_keep_0 rfl ?_
  refine a_get (pc := 1) hC cl_X4 (oX_52 hX) 0 (by decide) tw_188 rfl dX4_keep_1 ?_
  refine a_aload_n (pc := 4) hC dX4_keep_4 rfl ?_
  refine a_get (pc := 5) hC cl_X4 (oX_52 hX) 1 (by decide) tw_189 rfl dX4_keep_5 ?_
  refine a_aald (pc := 8) hC (oX_53 hX) rfl h.1 rfl dX4_keep_8 ?_
  have hp1 := isB_past h.1
  replace h := h.2
  refine a_aload_n (pc := 9) hC dX4_keep_9 rfl ?_
  refine a_callVv (pc := 10) hC hR vm_X8_copyFrom tw_779 cl_X8 (oB_0 hX hp1) ⟨(Nat.le_of_ble_eq_true rfl), (Nat.le_of_ble_eq_true rfl), (Nat.le_of_ble_eq_true rfl), (Nat.le_of_ble_eq_true rfl)⟩ dX4_keep_10 (t_X8_copyFrom hX _ _ hp1 ha hC.tr _ _ h) rfl rfl rfl (Nat.le_of_ble_eq_true rfl) (fun q3 h => ?_)
  refine a_aload_n (pc := 13) hC dX4_keep_13 rfl ?_
  refine a_aload_n (pc := 14) hC dX4_keep_14 rfl ?_
  refine a_get (pc := 15) hC cl_X4 (oX_52 hX) 1 (by decide) tw_189 rfl dX4_keep_15 ?_
  refine a_iconst (pc := 18) hC dX4_keep_18 (v := 1) rfl ?_
  refine a_iadd (pc := 19) hC dX4_keep_19 ?_
  refine a_bipush (pc := 20) hC dX4_keep_20 (v := 8) rfl ?_
  refine a_irem (pc := 22) hC dX4_keep_22 (by decide) ?_
  refine a_put (pc := 23) hC cl_X4 (oX_52 hX) 1 (by decide) tw_189 tyX4 tyX4_ok rfl rfl rfl (Nat.le_of_ble_eq_true rfl) rfl dX4_keep_23 ?_
  replace h := h _ rfl
  refine a_aload_n (pc := 26) hC dX4_keep_26 rfl ?_
  refine a_bipush (pc := 27) hC dX4_keep_27 (v := 8) rfl ?_
  refine a_aload_n (pc := 29) hC dX4_keep_29 rfl ?_
  refine a_get (pc := 30) hC cl_X4 (oX_52 hX) 2 (by decide) tw_190 rfl dX4_keep_30 ?_
  refine a_iconst (pc := 33) hC dX4_keep_33 (v := 1) rfl ?_
  refine a_iadd (pc := 34) hC dX4_keep_34 ?_
  refine a_mmin (pc := 35) hC hR ⟨(Nat.le_of_ble_eq_true rfl), (Nat.le_of_ble_eq_true rfl), (Nat.le_of_ble_eq_true rfl)⟩ rfl tw_800 tw_596 tw_23 tw_597 (Nat.le_of_ble_eq_true rfl) dX4_keep_35 ?_
  refine a_put (pc := 38) hC cl_X4 (oX_52 hX) 2 (by decide) tw_190 tyX4 tyX4_ok rfl rfl rfl (Nat.le_of_ble_eq_true rfl) rfl dX4_keep_38 ?_
  replace h := h _ rfl
  exact a_vret (pc := 41) hC hE h (Nat.le_of_ble_eq_true rfl) (Nat.le_of_ble_eq_true rfl) dX4_keep_41
set_option maxRecDepth 20000 in
theorem t_X5_keep {l : Launch} {g : aG} (hX : isX g) (hl : l.stackTraces = false) (x1 : Int32) (x2 : Int32) (q : aS) (P : Int32 → aS → Prop) (h : w_X5_keep x1 x2 q P) : aMi l g yX5_keep (aWs yX5_keep cX5_keep 3 (some .boolean)) 0 0 0 [.ref (gAd g 204), .int x1, .int x2] q (fun r u => (r = 0 ∨ r = 1) ∧ P r u) (fun _ _ => False) := by
  refine aMi_of RX5 ⟨by decide +kernel, rfl⟩ (cat_all rfl) (Nat.le_of_ble_eq_true rfl) hl hX.cl (fun f hR hC hE => ?_)
  show AW f g 0 [some (.ref (gAd g 204)), some (.int x1), some (.int x2)] [] q 0 0
  unfold w_X5_keep at h
  refine a_aload_n (pc := 0) hC dX5_keep_0 rfl ?_
  refine a_iconst (pc := 1) hC dX5_keep_1 (v := 1) rfl ?_
  refine a_put (pc := 2) hC cl_X5 (oX_204 hX) 0 (by decide) tw_245 tyX5 tyX5_ok rfl (by decide) (by decide) (Nat.le_of_ble_eq_true rfl) rfl dX5_keep_2 ?_
  replace h := h _ rfl
  refine a_aload_n (pc := 5) hC dX5_keep_5 rfl ?_
  refine a_iload_n (pc := 6) hC dX5_keep_6 rfl ?_
  refine a_put (pc := 7) hC cl_X5 (oX_204 hX) 1 (by decide) tw_247 tyX5 tyX5_ok rfl rfl rfl (Nat.le_of_ble_eq_true rfl) rfl dX5_keep_7 ?_
  replace h := h _ rfl
  refine a_aload_n (pc := 10) hC dX5_keep_10 rfl ?_
  refine a_iload_n (pc := 11) hC dX5_keep_11 rfl ?_
  refine a_put (pc := 12) hC cl_X5 (oX_204 hX) 2 (by decide) tw_249 tyX5 tyX5_ok rfl rfl rfl (Nat.le_of_ble_eq_true rfl) rfl dX5_keep_12 ?_
  replace h := h _ rfl
  refine a_aload_n (pc := 15) hC dX5_keep_15 rfl ?_
  refine a_iconst (pc := 16) hC dX5_keep_16 (v := 0) rfl ?_
  refine a_put (pc := 17) hC cl_X5 (oX_204 hX) 3 (by decide) tw_251 tyX5 tyX5_ok rfl (by decide) (by decide) (Nat.le_of_ble_eq_true rfl) rfl dX5_keep_17 ?_
  replace h := h _ rfl
  refine a_iconst (pc := 20) hC dX5_keep_20 (v := 1) rfl ?_
  exact a_bret (pc := 21) hC hE (Or.inr rfl) h (Nat.le_of_ble_eq_true rfl) (Nat.le_of_ble_eq_true rfl) dX5_keep_21
set_option maxRecDepth 20000 in
theorem t_X5_putBehind {l : Launch} {g : aG} (hX : isX g) (hl : l.stackTraces = false) (x1 : Int32) (x2 : Int32) (q : aS) (P : Int32 → aS → Prop) (h : w_X5_putBehind x1 x2 q P) : aMv l g yX5_putBehind (aWs yX5_putBehind cX5_putBehind 3 none) 0 0 0 [.ref (gAd g 204), .int x1, .int x2] q P (fun _ _ => False) := by
  refine aMv_of RX5 ⟨by decide +kernel, rfl⟩ (cat_all rfl) (Nat.le_of_ble_eq_true rfl) hl hX.cl (fun f hR hC hE => ?_)
  show AW f g 0 [some (.ref (gAd g 204)), some (.int x1), some (.int x2)] [] q 0 0
  unfold w_X5_putBehind at h
  refine a_aload_n (pc := 0) hC dX5_putBehind_0 rfl ?_
  refine a_aload_n (pc := 1) hC dX5_putBehind_1 rfl ?_
  refine a_get (pc := 2) hC cl_X5 (oX_204 hX) 1 (by decide) tw_247 rfl dX5_putBehind_2 ?_
  refine a_put (pc := 5) hC cl_X5 (oX_204 hX) 4 (by decide) tw_253 tyX5 tyX5_ok rfl rfl rfl (Nat.le_of_ble_eq_true rfl) rfl dX5_putBehind_5 ?_
  replace h := h _ rfl
  refine a_aload_n (pc := 8) hC dX5_putBehind_8 rfl ?_
  refine a_aload_n (pc := 9) hC dX5_putBehind_9 rfl ?_
  refine a_get (pc := 10) hC cl_X5 (oX_204 hX) 2 (by decide) tw_249 rfl dX5_putBehind_10 ?_
  refine a_put (pc := 13) hC cl_X5 (oX_204 hX) 5 (by decide) tw_255 tyX5 tyX5_ok rfl rfl rfl (Nat.le_of_ble_eq_true rfl) rfl dX5_putBehind_13 ?_
  replace h := h _ rfl
  refine a_aload_n (pc := 16) hC dX5_putBehind_16 rfl ?_
  refine a_iload_n (pc := 17) hC dX5_putBehind_17 rfl ?_
  refine a_put (pc := 18) hC cl_X5 (oX_204 hX) 1 (by decide) tw_247 tyX5 tyX5_ok rfl rfl rfl (Nat.le_of_ble_eq_true rfl) rfl dX5_putBehind_18 ?_
  replace h := h _ rfl
  refine a_aload_n (pc := 21) hC dX5_putBehind_21 rfl ?_
  refine a_iload_n (pc := 22) hC dX5_putBehind_22 rfl ?_
  refine a_put (pc := 23) hC cl_X5 (oX_204 hX) 2 (by decide) tw_249 tyX5 tyX5_ok rfl rfl rfl (Nat.le_of_ble_eq_true rfl) rfl dX5_putBehind_23 ?_
  replace h := h _ rfl
  refine a_aload_n (pc := 26) hC dX5_putBehind_26 rfl ?_
  refine a_iconst (pc := 27) hC dX5_putBehind_27 (v := 1) rfl ?_
  refine a_put (pc := 28) hC cl_X5 (oX_204 hX) 3 (by decide) tw_251 tyX5 tyX5_ok rfl (by decide) (by decide) (Nat.le_of_ble_eq_true rfl) rfl dX5_putBehind_28 ?_
  replace h := h _ rfl
  exact a_vret (pc := 31) hC hE h (Nat.le_of_ble_eq_true rfl) (Nat.le_of_ble_eq_true rfl) dX5_putBehind_31
