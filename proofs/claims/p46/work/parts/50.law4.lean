/-! the law: its checks -/
theorem dL_singersIn_0 : decode cL_singersIn 0 = .ok (.iconst 0, 1) := by decide +kernel
theorem dL_singersIn_1 : decode cL_singersIn 1 = .ok (.istore_n 2, 1) := by decide +kernel
theorem dL_singersIn_2 : decode cL_singersIn 2 = .ok (.iconst 0, 1) := by decide +kernel
theorem dL_singersIn_3 : decode cL_singersIn 3 = .ok (.istore_n 3, 1) := by decide +kernel
theorem dL_singersIn_4 : decode cL_singersIn 4 = .ok (.iload_n 3, 1) := by decide +kernel
theorem dL_singersIn_5 : decode cL_singersIn 5 = .ok (.aload_n 0, 1) := by decide +kernel
theorem dL_singersIn_6 : decode cL_singersIn 6 = .ok (.iconst 2, 1) := by decide +kernel
theorem dL_singersIn_7 : decode cL_singersIn 7 = .ok (.invokevirtual 127, 3) := by decide +kernel
theorem dL_singersIn_10 : decode cL_singersIn 10 = .ok (.if_icmp .ge 29, 3) := by decide +kernel
theorem dL_singersIn_13 : decode cL_singersIn 13 = .ok (.iload_n 2, 1) := by decide +kernel
theorem dL_singersIn_14 : decode cL_singersIn 14 = .ok (.aload_n 0, 1) := by decide +kernel
theorem dL_singersIn_15 : decode cL_singersIn 15 = .ok (.iload_n 3, 1) := by decide +kernel
theorem dL_singersIn_16 : decode cL_singersIn 16 = .ok (.iconst 2, 1) := by decide +kernel
theorem dL_singersIn_17 : decode cL_singersIn 17 = .ok (.invokevirtual 81, 3) := by decide +kernel
theorem dL_singersIn_20 : decode cL_singersIn 20 = .ok (.iload_n 1, 1) := by decide +kernel
theorem dL_singersIn_21 : decode cL_singersIn 21 = .ok (.if_icmp .ne 9, 3) := by decide +kernel
theorem dL_singersIn_24 : decode cL_singersIn 24 = .ok (.iconst 1, 1) := by decide +kernel
theorem dL_singersIn_25 : decode cL_singersIn 25 = .ok (.iload_n 3, 1) := by decide +kernel
theorem dL_singersIn_26 : decode cL_singersIn 26 = .ok (.ishl, 1) := by decide +kernel
theorem dL_singersIn_27 : decode cL_singersIn 27 = .ok (.goto 4, 3) := by decide +kernel
theorem dL_singersIn_30 : decode cL_singersIn 30 = .ok (.iconst 0, 1) := by decide +kernel
theorem dL_singersIn_31 : decode cL_singersIn 31 = .ok (.ior, 1) := by decide +kernel
theorem dL_singersIn_32 : decode cL_singersIn 32 = .ok (.istore_n 2, 1) := by decide +kernel
theorem dL_singersIn_33 : decode cL_singersIn 33 = .ok (.iinc 3 1, 3) := by decide +kernel
theorem dL_singersIn_36 : decode cL_singersIn 36 = .ok (.goto (-32), 3) := by decide +kernel
theorem dL_singersIn_39 : decode cL_singersIn 39 = .ok (.iload_n 2, 1) := by decide +kernel
theorem dL_singersIn_40 : decode cL_singersIn 40 = .ok (.ireturn, 1) := by decide +kernel
theorem sm_L_singersIn : aSm yL_singersIn cL_singersIn 4 (some .int) 2 := ⟨tw_1012, tw_1011, tw_0, by decide +kernel, by decide +kernel, by decide +kernel⟩
theorem dL_backOf_0 : decode cL_backOf 0 = .ok (.iconst 0, 1) := by decide +kernel
theorem dL_backOf_1 : decode cL_backOf 1 = .ok (.aload_n 0, 1) := by decide +kernel
theorem dL_backOf_2 : decode cL_backOf 2 = .ok (.iload_n 1, 1) := by decide +kernel
theorem dL_backOf_3 : decode cL_backOf 3 = .ok (.iconst 1, 1) := by decide +kernel
theorem dL_backOf_4 : decode cL_backOf 4 = .ok (.invokevirtual 78, 3) := by decide +kernel
theorem dL_backOf_7 : decode cL_backOf 7 = .ok (.aload_n 0, 1) := by decide +kernel
theorem dL_backOf_8 : decode cL_backOf 8 = .ok (.aload_n 0, 1) := by decide +kernel
theorem dL_backOf_9 : decode cL_backOf 9 = .ok (.iload_n 1, 1) := by decide +kernel
theorem dL_backOf_10 : decode cL_backOf 10 = .ok (.iconst 0, 1) := by decide +kernel
theorem dL_backOf_11 : decode cL_backOf 11 = .ok (.invokevirtual 78, 3) := by decide +kernel
theorem dL_backOf_14 : decode cL_backOf 14 = .ok (.iconst 1, 1) := by decide +kernel
theorem dL_backOf_15 : decode cL_backOf 15 = .ok (.invokevirtual 75, 3) := by decide +kernel
theorem dL_backOf_18 : decode cL_backOf 18 = .ok (.isub, 1) := by decide +kernel
theorem dL_backOf_19 : decode cL_backOf 19 = .ok (.invokestatic 130, 3) := by decide +kernel
theorem dL_backOf_22 : decode cL_backOf 22 = .ok (.ireturn, 1) := by decide +kernel
theorem sm_L_backOf : aSm yL_backOf cL_backOf 2 (some .int) 2 := ⟨tw_1081, tw_1080, tw_0, by decide +kernel, by decide +kernel, by decide +kernel⟩
theorem dL_tones_0 : decode cL_tones 0 = .ok (.iconst 0, 1) := by decide +kernel
theorem dL_tones_1 : decode cL_tones 1 = .ok (.istore 4, 2) := by decide +kernel
theorem dL_tones_3 : decode cL_tones 3 = .ok (.iconst 0, 1) := by decide +kernel
theorem dL_tones_4 : decode cL_tones 4 = .ok (.istore 5, 2) := by decide +kernel
theorem dL_tones_6 : decode cL_tones 6 = .ok (.iload 5, 2) := by decide +kernel
theorem dL_tones_8 : decode cL_tones 8 = .ok (.aload_n 0, 1) := by decide +kernel
theorem dL_tones_9 : decode cL_tones 9 = .ok (.iconst 1, 1) := by decide +kernel
theorem dL_tones_10 : decode cL_tones 10 = .ok (.invokevirtual 127, 3) := by decide +kernel
theorem dL_tones_13 : decode cL_tones 13 = .ok (.if_icmp .ge 88, 3) := by decide +kernel
theorem dL_tones_16 : decode cL_tones 16 = .ok (.aload_n 0, 1) := by decide +kernel
theorem dL_tones_17 : decode cL_tones 17 = .ok (.iload 5, 2) := by decide +kernel
theorem dL_tones_19 : decode cL_tones 19 = .ok (.iconst 0, 1) := by decide +kernel
theorem dL_tones_20 : decode cL_tones 20 = .ok (.invokevirtual 78, 3) := by decide +kernel
theorem dL_tones_23 : decode cL_tones 23 = .ok (.iload_n 2, 1) := by decide +kernel
theorem dL_tones_24 : decode cL_tones 24 = .ok (.if_icmp .ne 29, 3) := by decide +kernel
theorem dL_tones_27 : decode cL_tones 27 = .ok (.aload_n 0, 1) := by decide +kernel
theorem dL_tones_28 : decode cL_tones 28 = .ok (.iload 5, 2) := by decide +kernel
theorem dL_tones_30 : decode cL_tones 30 = .ok (.iconst 2, 1) := by decide +kernel
theorem dL_tones_31 : decode cL_tones 31 = .ok (.invokevirtual 78, 3) := by decide +kernel
theorem dL_tones_34 : decode cL_tones 34 = .ok (.iload_n 1, 1) := by decide +kernel
theorem dL_tones_35 : decode cL_tones 35 = .ok (.if_icmp .ne 18, 3) := by decide +kernel
theorem dL_tones_38 : decode cL_tones 38 = .ok (.aload_n 0, 1) := by decide +kernel
theorem dL_tones_39 : decode cL_tones 39 = .ok (.iload 5, 2) := by decide +kernel
theorem dL_tones_41 : decode cL_tones 41 = .ok (.iconst 3, 1) := by decide +kernel
theorem dL_tones_42 : decode cL_tones 42 = .ok (.invokevirtual 78, 3) := by decide +kernel
theorem dL_tones_45 : decode cL_tones 45 = .ok (.iload_n 3, 1) := by decide +kernel
theorem dL_tones_46 : decode cL_tones 46 = .ok (.if_icmp .le 7, 3) := by decide +kernel
theorem dL_tones_49 : decode cL_tones 49 = .ok (.iconst 1, 1) := by decide +kernel
theorem dL_tones_50 : decode cL_tones 50 = .ok (.goto 4, 3) := by decide +kernel
theorem dL_tones_53 : decode cL_tones 53 = .ok (.iconst 0, 1) := by decide +kernel
theorem dL_tones_54 : decode cL_tones 54 = .ok (.istore 6, 2) := by decide +kernel
theorem dL_tones_56 : decode cL_tones 56 = .ok (.iload 4, 2) := by decide +kernel
theorem dL_tones_58 : decode cL_tones 58 = .ok (.iload 6, 2) := by decide +kernel
theorem dL_tones_60 : decode cL_tones 60 = .ok (.ifCond .eq 31, 3) := by decide +kernel
theorem dL_tones_63 : decode cL_tones 63 = .ok (.iconst 0, 1) := by decide +kernel
theorem dL_tones_64 : decode cL_tones 64 = .ok (.aload_n 0, 1) := by decide +kernel
theorem dL_tones_65 : decode cL_tones 65 = .ok (.iload 5, 2) := by decide +kernel
theorem dL_tones_67 : decode cL_tones 67 = .ok (.iconst 1, 1) := by decide +kernel
theorem dL_tones_68 : decode cL_tones 68 = .ok (.invokevirtual 78, 3) := by decide +kernel
theorem dL_tones_71 : decode cL_tones 71 = .ok (.bipush 9, 2) := by decide +kernel
theorem dL_tones_73 : decode cL_tones 73 = .ok (.aload_n 0, 1) := by decide +kernel
theorem dL_tones_74 : decode cL_tones 74 = .ok (.iload_n 2, 1) := by decide +kernel
theorem dL_tones_75 : decode cL_tones 75 = .ok (.iconst 1, 1) := by decide +kernel
theorem dL_tones_76 : decode cL_tones 76 = .ok (.invokevirtual 75, 3) := by decide +kernel
theorem dL_tones_79 : decode cL_tones 79 = .ok (.iload_n 3, 1) := by decide +kernel
theorem dL_tones_80 : decode cL_tones 80 = .ok (.iadd, 1) := by decide +kernel
theorem dL_tones_81 : decode cL_tones 81 = .ok (.invokestatic 135, 3) := by decide +kernel
theorem dL_tones_84 : decode cL_tones 84 = .ok (.isub, 1) := by decide +kernel
theorem dL_tones_85 : decode cL_tones 85 = .ok (.invokestatic 130, 3) := by decide +kernel
theorem dL_tones_88 : decode cL_tones 88 = .ok (.goto 4, 3) := by decide +kernel
theorem dL_tones_91 : decode cL_tones 91 = .ok (.iconst 0, 1) := by decide +kernel
theorem dL_tones_92 : decode cL_tones 92 = .ok (.iadd, 1) := by decide +kernel
theorem dL_tones_93 : decode cL_tones 93 = .ok (.istore 4, 2) := by decide +kernel
theorem dL_tones_95 : decode cL_tones 95 = .ok (.iinc 5 1, 3) := by decide +kernel
theorem dL_tones_98 : decode cL_tones 98 = .ok (.goto (-92), 3) := by decide +kernel
theorem dL_tones_101 : decode cL_tones 101 = .ok (.iload 4, 2) := by decide +kernel
theorem dL_tones_103 : decode cL_tones 103 = .ok (.ireturn, 1) := by decide +kernel
theorem sm_L_tones : aSm yL_tones cL_tones 7 (some .int) 4 := ⟨tw_1020, tw_1019, tw_0, by decide +kernel, by decide +kernel, by decide +kernel⟩
theorem dL_rank_0 : decode cL_rank 0 = .ok (.aload_n 0, 1) := by decide +kernel
theorem dL_rank_1 : decode cL_rank 1 = .ok (.iload_n 1, 1) := by decide +kernel
theorem dL_rank_2 : decode cL_rank 2 = .ok (.iload_n 2, 1) := by decide +kernel
theorem dL_rank_3 : decode cL_rank 3 = .ok (.ifCond .ne 7, 3) := by decide +kernel
theorem dL_rank_6 : decode cL_rank 6 = .ok (.iconst 1, 1) := by decide +kernel
theorem dL_rank_7 : decode cL_rank 7 = .ok (.goto 22, 3) := by decide +kernel
theorem dL_rank_10 : decode cL_rank 10 = .ok (.iload_n 2, 1) := by decide +kernel
theorem dL_rank_11 : decode cL_rank 11 = .ok (.iconst 1, 1) := by decide +kernel
theorem dL_rank_12 : decode cL_rank 12 = .ok (.if_icmp .ne 7, 3) := by decide +kernel
theorem dL_rank_15 : decode cL_rank 15 = .ok (.iconst 5, 1) := by decide +kernel
theorem dL_rank_16 : decode cL_rank 16 = .ok (.goto 13, 3) := by decide +kernel
theorem dL_rank_19 : decode cL_rank 19 = .ok (.iload_n 2, 1) := by decide +kernel
theorem dL_rank_20 : decode cL_rank 20 = .ok (.iconst 2, 1) := by decide +kernel
theorem dL_rank_21 : decode cL_rank 21 = .ok (.if_icmp .ne 7, 3) := by decide +kernel
theorem dL_rank_24 : decode cL_rank 24 = .ok (.iconst 4, 1) := by decide +kernel
theorem dL_rank_25 : decode cL_rank 25 = .ok (.goto 4, 3) := by decide +kernel
theorem dL_rank_28 : decode cL_rank 28 = .ok (.iconst 0, 1) := by decide +kernel
theorem dL_rank_29 : decode cL_rank 29 = .ok (.invokevirtual 81, 3) := by decide +kernel
theorem dL_rank_32 : decode cL_rank 32 = .ok (.ireturn, 1) := by decide +kernel
theorem sm_L_rank : aSm yL_rank cL_rank 3 (some .int) 3 := ⟨tw_1100, tw_1099, tw_0, by decide +kernel, by decide +kernel, by decide +kernel⟩
theorem dL_isSingerRight_0 : decode cL_isSingerRight 0 = .ok (.aload_n 0, 1) := by decide +kernel
theorem dL_isSingerRight_1 : decode cL_isSingerRight 1 = .ok (.iconst 0, 1) := by decide +kernel
theorem dL_isSingerRight_2 : decode cL_isSingerRight 2 = .ok (.invokevirtual 127, 3) := by decide +kernel
theorem dL_isSingerRight_5 : decode cL_isSingerRight 5 = .ok (.istore_n 2, 1) := by decide +kernel
theorem dL_isSingerRight_6 : decode cL_isSingerRight 6 = .ok (.aload_n 0, 1) := by decide +kernel
theorem dL_isSingerRight_7 : decode cL_isSingerRight 7 = .ok (.iload_n 1, 1) := by decide +kernel
theorem dL_isSingerRight_8 : decode cL_isSingerRight 8 = .ok (.iconst 2, 1) := by decide +kernel
theorem dL_isSingerRight_9 : decode cL_isSingerRight 9 = .ok (.invokevirtual 81, 3) := by decide +kernel
theorem dL_isSingerRight_12 : decode cL_isSingerRight 12 = .ok (.istore_n 3, 1) := by decide +kernel
theorem dL_isSingerRight_13 : decode cL_isSingerRight 13 = .ok (.iconst 0, 1) := by decide +kernel
theorem dL_isSingerRight_14 : decode cL_isSingerRight 14 = .ok (.istore 4, 2) := by decide +kernel
theorem dL_isSingerRight_16 : decode cL_isSingerRight 16 = .ok (.iconst 0, 1) := by decide +kernel
theorem dL_isSingerRight_17 : decode cL_isSingerRight 17 = .ok (.istore 5, 2) := by decide +kernel
theorem dL_isSingerRight_19 : decode cL_isSingerRight 19 = .ok (.iconst 0, 1) := by decide +kernel
theorem dL_isSingerRight_20 : decode cL_isSingerRight 20 = .ok (.istore 6, 2) := by decide +kernel
theorem dL_isSingerRight_22 : decode cL_isSingerRight 22 = .ok (.aload_n 0, 1) := by decide +kernel
theorem dL_isSingerRight_23 : decode cL_isSingerRight 23 = .ok (.iconst 2, 1) := by decide +kernel
theorem dL_isSingerRight_24 : decode cL_isSingerRight 24 = .ok (.iload_n 1, 1) := by decide +kernel
theorem dL_isSingerRight_25 : decode cL_isSingerRight 25 = .ok (.bipush 7, 2) := by decide +kernel
theorem dL_isSingerRight_27 : decode cL_isSingerRight 27 = .ok (.invokestatic 138, 3) := by decide +kernel
theorem dL_isSingerRight_30 : decode cL_isSingerRight 30 = .ok (.sipush (-2003), 3) := by decide +kernel
theorem dL_isSingerRight_33 : decode cL_isSingerRight 33 = .ok (.if_icmp .ne 7, 3) := by decide +kernel
theorem dL_isSingerRight_36 : decode cL_isSingerRight 36 = .ok (.iconst 1, 1) := by decide +kernel
theorem dL_isSingerRight_37 : decode cL_isSingerRight 37 = .ok (.goto 4, 3) := by decide +kernel
theorem dL_isSingerRight_40 : decode cL_isSingerRight 40 = .ok (.iconst 0, 1) := by decide +kernel
theorem dL_isSingerRight_41 : decode cL_isSingerRight 41 = .ok (.istore 7, 2) := by decide +kernel
theorem dL_isSingerRight_43 : decode cL_isSingerRight 43 = .ok (.iconst 0, 1) := by decide +kernel
theorem dL_isSingerRight_44 : decode cL_isSingerRight 44 = .ok (.istore 8, 2) := by decide +kernel
theorem dL_isSingerRight_46 : decode cL_isSingerRight 46 = .ok (.iload 8, 2) := by decide +kernel
theorem dL_isSingerRight_48 : decode cL_isSingerRight 48 = .ok (.aload_n 0, 1) := by decide +kernel
theorem dL_isSingerRight_49 : decode cL_isSingerRight 49 = .ok (.iconst 1, 1) := by decide +kernel
theorem dL_isSingerRight_50 : decode cL_isSingerRight 50 = .ok (.invokevirtual 127, 3) := by decide +kernel
theorem dL_isSingerRight_53 : decode cL_isSingerRight 53 = .ok (.if_icmp .ge 131, 3) := by decide +kernel
theorem dL_isSingerRight_56 : decode cL_isSingerRight 56 = .ok (.aload_n 0, 1) := by decide +kernel
theorem dL_isSingerRight_57 : decode cL_isSingerRight 57 = .ok (.iload 8, 2) := by decide +kernel
theorem dL_isSingerRight_59 : decode cL_isSingerRight 59 = .ok (.iconst 2, 1) := by decide +kernel
theorem dL_isSingerRight_60 : decode cL_isSingerRight 60 = .ok (.invokevirtual 78, 3) := by decide +kernel
theorem dL_isSingerRight_63 : decode cL_isSingerRight 63 = .ok (.iload_n 1, 1) := by decide +kernel
theorem dL_isSingerRight_64 : decode cL_isSingerRight 64 = .ok (.if_icmp .ne 7, 3) := by decide +kernel
theorem dL_isSingerRight_67 : decode cL_isSingerRight 67 = .ok (.iconst 1, 1) := by decide +kernel
theorem dL_isSingerRight_68 : decode cL_isSingerRight 68 = .ok (.goto 4, 3) := by decide +kernel
theorem dL_isSingerRight_71 : decode cL_isSingerRight 71 = .ok (.iconst 0, 1) := by decide +kernel
theorem dL_isSingerRight_72 : decode cL_isSingerRight 72 = .ok (.istore 9, 2) := by decide +kernel
theorem dL_isSingerRight_74 : decode cL_isSingerRight 74 = .ok (.iload 4, 2) := by decide +kernel
theorem dL_isSingerRight_76 : decode cL_isSingerRight 76 = .ok (.iload 9, 2) := by decide +kernel
theorem dL_isSingerRight_78 : decode cL_isSingerRight 78 = .ok (.ifCond .eq 7, 3) := by decide +kernel
theorem dL_isSingerRight_81 : decode cL_isSingerRight 81 = .ok (.iconst 1, 1) := by decide +kernel
theorem dL_isSingerRight_82 : decode cL_isSingerRight 82 = .ok (.goto 4, 3) := by decide +kernel
theorem dL_isSingerRight_85 : decode cL_isSingerRight 85 = .ok (.iconst 0, 1) := by decide +kernel
theorem dL_isSingerRight_86 : decode cL_isSingerRight 86 = .ok (.iadd, 1) := by decide +kernel
theorem dL_isSingerRight_87 : decode cL_isSingerRight 87 = .ok (.istore 4, 2) := by decide +kernel
theorem dL_isSingerRight_89 : decode cL_isSingerRight 89 = .ok (.iload 5, 2) := by decide +kernel
theorem dL_isSingerRight_91 : decode cL_isSingerRight 91 = .ok (.iload 9, 2) := by decide +kernel
theorem dL_isSingerRight_93 : decode cL_isSingerRight 93 = .ok (.ifCond .eq 13, 3) := by decide +kernel
theorem dL_isSingerRight_96 : decode cL_isSingerRight 96 = .ok (.aload_n 0, 1) := by decide +kernel
theorem dL_isSingerRight_97 : decode cL_isSingerRight 97 = .ok (.iload 8, 2) := by decide +kernel
theorem dL_isSingerRight_99 : decode cL_isSingerRight 99 = .ok (.iconst 1, 1) := by decide +kernel
theorem dL_isSingerRight_100 : decode cL_isSingerRight 100 = .ok (.invokevirtual 78, 3) := by decide +kernel
theorem dL_isSingerRight_103 : decode cL_isSingerRight 103 = .ok (.goto 4, 3) := by decide +kernel
theorem dL_isSingerRight_106 : decode cL_isSingerRight 106 = .ok (.iconst 0, 1) := by decide +kernel
theorem dL_isSingerRight_107 : decode cL_isSingerRight 107 = .ok (.iadd, 1) := by decide +kernel
theorem dL_isSingerRight_108 : decode cL_isSingerRight 108 = .ok (.istore 5, 2) := by decide +kernel
theorem dL_isSingerRight_110 : decode cL_isSingerRight 110 = .ok (.aload_n 0, 1) := by decide +kernel
theorem dL_isSingerRight_111 : decode cL_isSingerRight 111 = .ok (.iload 8, 2) := by decide +kernel
theorem dL_isSingerRight_113 : decode cL_isSingerRight 113 = .ok (.iconst 2, 1) := by decide +kernel
theorem dL_isSingerRight_114 : decode cL_isSingerRight 114 = .ok (.invokevirtual 78, 3) := by decide +kernel
theorem dL_isSingerRight_117 : decode cL_isSingerRight 117 = .ok (.ifCond .ge 34, 3) := by decide +kernel
theorem dL_isSingerRight_120 : decode cL_isSingerRight 120 = .ok (.aload_n 0, 1) := by decide +kernel
theorem dL_isSingerRight_121 : decode cL_isSingerRight 121 = .ok (.iload 8, 2) := by decide +kernel
theorem dL_isSingerRight_123 : decode cL_isSingerRight 123 = .ok (.iconst 0, 1) := by decide +kernel
theorem dL_isSingerRight_124 : decode cL_isSingerRight 124 = .ok (.invokevirtual 78, 3) := by decide +kernel
theorem dL_isSingerRight_127 : decode cL_isSingerRight 127 = .ok (.iload_n 3, 1) := by decide +kernel
theorem dL_isSingerRight_128 : decode cL_isSingerRight 128 = .ok (.if_icmp .ne 23, 3) := by decide +kernel
theorem dL_isSingerRight_131 : decode cL_isSingerRight 131 = .ok (.aload_n 0, 1) := by decide +kernel
theorem dL_isSingerRight_132 : decode cL_isSingerRight 132 = .ok (.iload_n 1, 1) := by decide +kernel
theorem dL_isSingerRight_133 : decode cL_isSingerRight 133 = .ok (.iconst 1, 1) := by decide +kernel
theorem dL_isSingerRight_134 : decode cL_isSingerRight 134 = .ok (.invokevirtual 81, 3) := by decide +kernel
theorem dL_isSingerRight_137 : decode cL_isSingerRight 137 = .ok (.aload_n 0, 1) := by decide +kernel
theorem dL_isSingerRight_138 : decode cL_isSingerRight 138 = .ok (.iload 8, 2) := by decide +kernel
theorem dL_isSingerRight_140 : decode cL_isSingerRight 140 = .ok (.iconst 1, 1) := by decide +kernel
theorem dL_isSingerRight_141 : decode cL_isSingerRight 141 = .ok (.invokevirtual 78, 3) := by decide +kernel
theorem dL_isSingerRight_144 : decode cL_isSingerRight 144 = .ok (.if_icmp .lt 7, 3) := by decide +kernel
theorem dL_isSingerRight_147 : decode cL_isSingerRight 147 = .ok (.iconst 1, 1) := by decide +kernel
theorem dL_isSingerRight_148 : decode cL_isSingerRight 148 = .ok (.goto 4, 3) := by decide +kernel
theorem dL_isSingerRight_151 : decode cL_isSingerRight 151 = .ok (.iconst 0, 1) := by decide +kernel
theorem dL_isSingerRight_152 : decode cL_isSingerRight 152 = .ok (.istore 10, 2) := by decide +kernel
theorem dL_isSingerRight_154 : decode cL_isSingerRight 154 = .ok (.iload 7, 2) := by decide +kernel
theorem dL_isSingerRight_156 : decode cL_isSingerRight 156 = .ok (.ifCond .eq 19, 3) := by decide +kernel
theorem dL_isSingerRight_159 : decode cL_isSingerRight 159 = .ok (.aload_n 0, 1) := by decide +kernel
theorem dL_isSingerRight_160 : decode cL_isSingerRight 160 = .ok (.iload_n 1, 1) := by decide +kernel
theorem dL_isSingerRight_161 : decode cL_isSingerRight 161 = .ok (.iload 8, 2) := by decide +kernel
theorem dL_isSingerRight_163 : decode cL_isSingerRight 163 = .ok (.invokevirtual 141, 3) := by decide +kernel
theorem dL_isSingerRight_166 : decode cL_isSingerRight 166 = .ok (.iload 10, 2) := by decide +kernel
theorem dL_isSingerRight_168 : decode cL_isSingerRight 168 = .ok (.if_icmp .ne 7, 3) := by decide +kernel
theorem dL_isSingerRight_171 : decode cL_isSingerRight 171 = .ok (.iconst 1, 1) := by decide +kernel
theorem dL_isSingerRight_172 : decode cL_isSingerRight 172 = .ok (.goto 4, 3) := by decide +kernel
theorem dL_isSingerRight_175 : decode cL_isSingerRight 175 = .ok (.iconst 0, 1) := by decide +kernel
theorem dL_isSingerRight_176 : decode cL_isSingerRight 176 = .ok (.istore 7, 2) := by decide +kernel
theorem dL_isSingerRight_178 : decode cL_isSingerRight 178 = .ok (.iinc 8 1, 3) := by decide +kernel
theorem dL_isSingerRight_181 : decode cL_isSingerRight 181 = .ok (.goto (-135), 3) := by decide +kernel
theorem dL_isSingerRight_184 : decode cL_isSingerRight 184 = .ok (.iconst 0, 1) := by decide +kernel
theorem dL_isSingerRight_185 : decode cL_isSingerRight 185 = .ok (.istore 8, 2) := by decide +kernel
theorem dL_isSingerRight_187 : decode cL_isSingerRight 187 = .ok (.iload 8, 2) := by decide +kernel
theorem dL_isSingerRight_189 : decode cL_isSingerRight 189 = .ok (.iload_n 2, 1) := by decide +kernel
theorem dL_isSingerRight_190 : decode cL_isSingerRight 190 = .ok (.if_icmp .ge 131, 3) := by decide +kernel
theorem dL_isSingerRight_193 : decode cL_isSingerRight 193 = .ok (.aload_n 0, 1) := by decide +kernel
theorem dL_isSingerRight_194 : decode cL_isSingerRight 194 = .ok (.iload 8, 2) := by decide +kernel
theorem dL_isSingerRight_196 : decode cL_isSingerRight 196 = .ok (.invokestatic 145, 3) := by decide +kernel
theorem dL_isSingerRight_199 : decode cL_isSingerRight 199 = .ok (.invokestatic 149, 3) := by decide +kernel
theorem dL_isSingerRight_202 : decode cL_isSingerRight 202 = .ok (.istore 9, 2) := by decide +kernel
theorem dL_isSingerRight_204 : decode cL_isSingerRight 204 = .ok (.iload_n 3, 1) := by decide +kernel
theorem dL_isSingerRight_205 : decode cL_isSingerRight 205 = .ok (.iload 8, 2) := by decide +kernel
theorem dL_isSingerRight_207 : decode cL_isSingerRight 207 = .ok (.if_icmp .eq 35, 3) := by decide +kernel
theorem dL_isSingerRight_210 : decode cL_isSingerRight 210 = .ok (.iload 9, 2) := by decide +kernel
theorem dL_isSingerRight_212 : decode cL_isSingerRight 212 = .ok (.aload_n 0, 1) := by decide +kernel
theorem dL_isSingerRight_213 : decode cL_isSingerRight 213 = .ok (.iload 8, 2) := by decide +kernel
theorem dL_isSingerRight_215 : decode cL_isSingerRight 215 = .ok (.iconst 0, 1) := by decide +kernel
theorem dL_isSingerRight_216 : decode cL_isSingerRight 216 = .ok (.invokevirtual 75, 3) := by decide +kernel
theorem dL_isSingerRight_219 : decode cL_isSingerRight 219 = .ok (.if_icmp .ge 23, 3) := by decide +kernel
theorem dL_isSingerRight_222 : decode cL_isSingerRight 222 = .ok (.iconst 3, 1) := by decide +kernel
theorem dL_isSingerRight_223 : decode cL_isSingerRight 223 = .ok (.iload 9, 2) := by decide +kernel
theorem dL_isSingerRight_225 : decode cL_isSingerRight 225 = .ok (.imul, 1) := by decide +kernel
theorem dL_isSingerRight_226 : decode cL_isSingerRight 226 = .ok (.bipush 9, 2) := by decide +kernel
theorem dL_isSingerRight_228 : decode cL_isSingerRight 228 = .ok (.aload_n 0, 1) := by decide +kernel
theorem dL_isSingerRight_229 : decode cL_isSingerRight 229 = .ok (.iload_n 1, 1) := by decide +kernel
theorem dL_isSingerRight_230 : decode cL_isSingerRight 230 = .ok (.iconst 0, 1) := by decide +kernel
theorem dL_isSingerRight_231 : decode cL_isSingerRight 231 = .ok (.invokevirtual 81, 3) := by decide +kernel
theorem dL_isSingerRight_234 : decode cL_isSingerRight 234 = .ok (.isub, 1) := by decide +kernel
theorem dL_isSingerRight_235 : decode cL_isSingerRight 235 = .ok (.if_icmp .gt 7, 3) := by decide +kernel
theorem dL_isSingerRight_238 : decode cL_isSingerRight 238 = .ok (.iconst 1, 1) := by decide +kernel
theorem dL_isSingerRight_239 : decode cL_isSingerRight 239 = .ok (.goto 4, 3) := by decide +kernel
theorem dL_isSingerRight_242 : decode cL_isSingerRight 242 = .ok (.iconst 0, 1) := by decide +kernel
theorem dL_isSingerRight_243 : decode cL_isSingerRight 243 = .ok (.istore 10, 2) := by decide +kernel
theorem dL_isSingerRight_245 : decode cL_isSingerRight 245 = .ok (.iload 7, 2) := by decide +kernel
theorem dL_isSingerRight_247 : decode cL_isSingerRight 247 = .ok (.ifCond .eq 37, 3) := by decide +kernel
theorem dL_isSingerRight_250 : decode cL_isSingerRight 250 = .ok (.aload_n 0, 1) := by decide +kernel
theorem dL_isSingerRight_251 : decode cL_isSingerRight 251 = .ok (.iload_n 1, 1) := by decide +kernel
theorem dL_isSingerRight_252 : decode cL_isSingerRight 252 = .ok (.iload 8, 2) := by decide +kernel
theorem dL_isSingerRight_254 : decode cL_isSingerRight 254 = .ok (.invokevirtual 154, 3) := by decide +kernel
theorem dL_isSingerRight_257 : decode cL_isSingerRight 257 = .ok (.iload 10, 2) := by decide +kernel
theorem dL_isSingerRight_259 : decode cL_isSingerRight 259 = .ok (.if_icmp .ne 25, 3) := by decide +kernel
theorem dL_isSingerRight_262 : decode cL_isSingerRight 262 = .ok (.aload_n 0, 1) := by decide +kernel
theorem dL_isSingerRight_263 : decode cL_isSingerRight 263 = .ok (.iload_n 1, 1) := by decide +kernel
theorem dL_isSingerRight_264 : decode cL_isSingerRight 264 = .ok (.iload 8, 2) := by decide +kernel
theorem dL_isSingerRight_266 : decode cL_isSingerRight 266 = .ok (.invokevirtual 90, 3) := by decide +kernel
theorem dL_isSingerRight_269 : decode cL_isSingerRight 269 = .ok (.aload_n 0, 1) := by decide +kernel
theorem dL_isSingerRight_270 : decode cL_isSingerRight 270 = .ok (.iload_n 1, 1) := by decide +kernel
theorem dL_isSingerRight_271 : decode cL_isSingerRight 271 = .ok (.iload 8, 2) := by decide +kernel
theorem dL_isSingerRight_273 : decode cL_isSingerRight 273 = .ok (.iconst 0, 1) := by decide +kernel
theorem dL_isSingerRight_274 : decode cL_isSingerRight 274 = .ok (.invokestatic 157, 3) := by decide +kernel
theorem dL_isSingerRight_277 : decode cL_isSingerRight 277 = .ok (.if_icmp .ne 7, 3) := by decide +kernel
theorem dL_isSingerRight_280 : decode cL_isSingerRight 280 = .ok (.iconst 1, 1) := by decide +kernel
theorem dL_isSingerRight_281 : decode cL_isSingerRight 281 = .ok (.goto 4, 3) := by decide +kernel
theorem dL_isSingerRight_284 : decode cL_isSingerRight 284 = .ok (.iconst 0, 1) := by decide +kernel
theorem dL_isSingerRight_285 : decode cL_isSingerRight 285 = .ok (.istore 7, 2) := by decide +kernel
theorem dL_isSingerRight_287 : decode cL_isSingerRight 287 = .ok (.aload_n 0, 1) := by decide +kernel
theorem dL_isSingerRight_288 : decode cL_isSingerRight 288 = .ok (.iload_n 1, 1) := by decide +kernel
theorem dL_isSingerRight_289 : decode cL_isSingerRight 289 = .ok (.iload 8, 2) := by decide +kernel
theorem dL_isSingerRight_291 : decode cL_isSingerRight 291 = .ok (.iconst 0, 1) := by decide +kernel
theorem dL_isSingerRight_292 : decode cL_isSingerRight 292 = .ok (.invokestatic 157, 3) := by decide +kernel
theorem dL_isSingerRight_295 : decode cL_isSingerRight 295 = .ok (.aload_n 0, 1) := by decide +kernel
theorem dL_isSingerRight_296 : decode cL_isSingerRight 296 = .ok (.iload_n 1, 1) := by decide +kernel
theorem dL_isSingerRight_297 : decode cL_isSingerRight 297 = .ok (.iload 6, 2) := by decide +kernel
theorem dL_isSingerRight_299 : decode cL_isSingerRight 299 = .ok (.iconst 0, 1) := by decide +kernel
theorem dL_isSingerRight_300 : decode cL_isSingerRight 300 = .ok (.invokestatic 157, 3) := by decide +kernel
theorem dL_isSingerRight_303 : decode cL_isSingerRight 303 = .ok (.if_icmp .le 8, 3) := by decide +kernel
theorem dL_isSingerRight_306 : decode cL_isSingerRight 306 = .ok (.iload 8, 2) := by decide +kernel
theorem dL_isSingerRight_308 : decode cL_isSingerRight 308 = .ok (.goto 5, 3) := by decide +kernel
theorem dL_isSingerRight_311 : decode cL_isSingerRight 311 = .ok (.iload 6, 2) := by decide +kernel
theorem dL_isSingerRight_313 : decode cL_isSingerRight 313 = .ok (.istore 6, 2) := by decide +kernel
theorem dL_isSingerRight_315 : decode cL_isSingerRight 315 = .ok (.iinc 8 1, 3) := by decide +kernel
theorem dL_isSingerRight_318 : decode cL_isSingerRight 318 = .ok (.goto (-131), 3) := by decide +kernel
theorem dL_isSingerRight_321 : decode cL_isSingerRight 321 = .ok (.iload 7, 2) := by decide +kernel
theorem dL_isSingerRight_323 : decode cL_isSingerRight 323 = .ok (.ifCond .eq 66, 3) := by decide +kernel
theorem dL_isSingerRight_326 : decode cL_isSingerRight 326 = .ok (.aload_n 0, 1) := by decide +kernel
theorem dL_isSingerRight_327 : decode cL_isSingerRight 327 = .ok (.iload_n 1, 1) := by decide +kernel
theorem dL_isSingerRight_328 : decode cL_isSingerRight 328 = .ok (.iconst 3, 1) := by decide +kernel
theorem dL_isSingerRight_329 : decode cL_isSingerRight 329 = .ok (.invokevirtual 81, 3) := by decide +kernel
theorem dL_isSingerRight_332 : decode cL_isSingerRight 332 = .ok (.iload 4, 2) := by decide +kernel
theorem dL_isSingerRight_334 : decode cL_isSingerRight 334 = .ok (.if_icmp .ne 55, 3) := by decide +kernel
theorem dL_isSingerRight_337 : decode cL_isSingerRight 337 = .ok (.aload_n 0, 1) := by decide +kernel
theorem dL_isSingerRight_338 : decode cL_isSingerRight 338 = .ok (.iload_n 1, 1) := by decide +kernel
theorem dL_isSingerRight_339 : decode cL_isSingerRight 339 = .ok (.bipush 6, 2) := by decide +kernel
theorem dL_isSingerRight_341 : decode cL_isSingerRight 341 = .ok (.invokevirtual 81, 3) := by decide +kernel
theorem dL_isSingerRight_344 : decode cL_isSingerRight 344 = .ok (.iload 5, 2) := by decide +kernel
theorem dL_isSingerRight_346 : decode cL_isSingerRight 346 = .ok (.if_icmp .ne 43, 3) := by decide +kernel
theorem dL_isSingerRight_349 : decode cL_isSingerRight 349 = .ok (.aload_n 0, 1) := by decide +kernel
theorem dL_isSingerRight_350 : decode cL_isSingerRight 350 = .ok (.bipush 6, 2) := by decide +kernel
theorem dL_isSingerRight_352 : decode cL_isSingerRight 352 = .ok (.iload_n 1, 1) := by decide +kernel
theorem dL_isSingerRight_353 : decode cL_isSingerRight 353 = .ok (.iconst 0, 1) := by decide +kernel
theorem dL_isSingerRight_354 : decode cL_isSingerRight 354 = .ok (.invokestatic 138, 3) := by decide +kernel
theorem dL_isSingerRight_357 : decode cL_isSingerRight 357 = .ok (.iload_n 2, 1) := by decide +kernel
theorem dL_isSingerRight_358 : decode cL_isSingerRight 358 = .ok (.ifCond .ne 9, 3) := by decide +kernel
theorem dL_isSingerRight_361 : decode cL_isSingerRight 361 = .ok (.sipush (-2004), 3) := by decide +kernel
theorem dL_isSingerRight_364 : decode cL_isSingerRight 364 = .ok (.goto 5, 3) := by decide +kernel
theorem dL_isSingerRight_367 : decode cL_isSingerRight 367 = .ok (.iload 6, 2) := by decide +kernel
theorem dL_isSingerRight_369 : decode cL_isSingerRight 369 = .ok (.if_icmp .ne 20, 3) := by decide +kernel
theorem dL_isSingerRight_372 : decode cL_isSingerRight 372 = .ok (.aload_n 0, 1) := by decide +kernel
theorem dL_isSingerRight_373 : decode cL_isSingerRight 373 = .ok (.iconst 5, 1) := by decide +kernel
theorem dL_isSingerRight_374 : decode cL_isSingerRight 374 = .ok (.iload_n 1, 1) := by decide +kernel
theorem dL_isSingerRight_375 : decode cL_isSingerRight 375 = .ok (.iload_n 2, 1) := by decide +kernel
theorem dL_isSingerRight_376 : decode cL_isSingerRight 376 = .ok (.invokestatic 138, 3) := by decide +kernel
theorem dL_isSingerRight_379 : decode cL_isSingerRight 379 = .ok (.sipush (-2002), 3) := by decide +kernel
theorem dL_isSingerRight_382 : decode cL_isSingerRight 382 = .ok (.if_icmp .ne 7, 3) := by decide +kernel
theorem dL_isSingerRight_385 : decode cL_isSingerRight 385 = .ok (.iconst 1, 1) := by decide +kernel
theorem dL_isSingerRight_386 : decode cL_isSingerRight 386 = .ok (.goto 4, 3) := by decide +kernel
theorem dL_isSingerRight_389 : decode cL_isSingerRight 389 = .ok (.iconst 0, 1) := by decide +kernel
theorem dL_isSingerRight_390 : decode cL_isSingerRight 390 = .ok (.istore 7, 2) := by decide +kernel
theorem dL_isSingerRight_392 : decode cL_isSingerRight 392 = .ok (.iload_n 3, 1) := by decide +kernel
theorem dL_isSingerRight_393 : decode cL_isSingerRight 393 = .ok (.ifCond .ge 40, 3) := by decide +kernel
theorem dL_isSingerRight_396 : decode cL_isSingerRight 396 = .ok (.iload 7, 2) := by decide +kernel
theorem dL_isSingerRight_398 : decode cL_isSingerRight 398 = .ok (.ifCond .eq 33, 3) := by decide +kernel
theorem dL_isSingerRight_401 : decode cL_isSingerRight 401 = .ok (.aload_n 0, 1) := by decide +kernel
theorem dL_isSingerRight_402 : decode cL_isSingerRight 402 = .ok (.iconst 3, 1) := by decide +kernel
theorem dL_isSingerRight_403 : decode cL_isSingerRight 403 = .ok (.iload_n 1, 1) := by decide +kernel
theorem dL_isSingerRight_404 : decode cL_isSingerRight 404 = .ok (.iconst 0, 1) := by decide +kernel
theorem dL_isSingerRight_405 : decode cL_isSingerRight 405 = .ok (.invokestatic 138, 3) := by decide +kernel
theorem dL_isSingerRight_408 : decode cL_isSingerRight 408 = .ok (.sipush (-2004), 3) := by decide +kernel
theorem dL_isSingerRight_411 : decode cL_isSingerRight 411 = .ok (.if_icmp .ne 20, 3) := by decide +kernel
theorem dL_isSingerRight_414 : decode cL_isSingerRight 414 = .ok (.aload_n 0, 1) := by decide +kernel
theorem dL_isSingerRight_415 : decode cL_isSingerRight 415 = .ok (.iconst 4, 1) := by decide +kernel
theorem dL_isSingerRight_416 : decode cL_isSingerRight 416 = .ok (.iload_n 1, 1) := by decide +kernel
theorem dL_isSingerRight_417 : decode cL_isSingerRight 417 = .ok (.iconst 0, 1) := by decide +kernel
theorem dL_isSingerRight_418 : decode cL_isSingerRight 418 = .ok (.invokestatic 138, 3) := by decide +kernel
theorem dL_isSingerRight_421 : decode cL_isSingerRight 421 = .ok (.sipush (-2004), 3) := by decide +kernel
theorem dL_isSingerRight_424 : decode cL_isSingerRight 424 = .ok (.if_icmp .ne 7, 3) := by decide +kernel
theorem dL_isSingerRight_427 : decode cL_isSingerRight 427 = .ok (.iconst 1, 1) := by decide +kernel
theorem dL_isSingerRight_428 : decode cL_isSingerRight 428 = .ok (.goto 4, 3) := by decide +kernel
theorem dL_isSingerRight_431 : decode cL_isSingerRight 431 = .ok (.iconst 0, 1) := by decide +kernel
theorem dL_isSingerRight_432 : decode cL_isSingerRight 432 = .ok (.ireturn, 1) := by decide +kernel
theorem dL_isSingerRight_433 : decode cL_isSingerRight 433 = .ok (.iconst 0, 1) := by decide +kernel
theorem dL_isSingerRight_434 : decode cL_isSingerRight 434 = .ok (.istore 8, 2) := by decide +kernel
theorem dL_isSingerRight_436 : decode cL_isSingerRight 436 = .ok (.aload_n 0, 1) := by decide +kernel
theorem dL_isSingerRight_437 : decode cL_isSingerRight 437 = .ok (.iload_n 1, 1) := by decide +kernel
theorem dL_isSingerRight_438 : decode cL_isSingerRight 438 = .ok (.iload_n 3, 1) := by decide +kernel
theorem dL_isSingerRight_439 : decode cL_isSingerRight 439 = .ok (.iload 8, 2) := by decide +kernel
theorem dL_isSingerRight_441 : decode cL_isSingerRight 441 = .ok (.invokestatic 157, 3) := by decide +kernel
theorem dL_isSingerRight_444 : decode cL_isSingerRight 444 = .ok (.ifCond .le 9, 3) := by decide +kernel
theorem dL_isSingerRight_447 : decode cL_isSingerRight 447 = .ok (.iinc 8 1, 3) := by decide +kernel
theorem dL_isSingerRight_450 : decode cL_isSingerRight 450 = .ok (.goto (-14), 3) := by decide +kernel
theorem dL_isSingerRight_453 : decode cL_isSingerRight 453 = .ok (.iload 7, 2) := by decide +kernel
theorem dL_isSingerRight_455 : decode cL_isSingerRight 455 = .ok (.ifCond .eq 57, 3) := by decide +kernel
theorem dL_isSingerRight_458 : decode cL_isSingerRight 458 = .ok (.aload_n 0, 1) := by decide +kernel
theorem dL_isSingerRight_459 : decode cL_isSingerRight 459 = .ok (.iload_n 1, 1) := by decide +kernel
theorem dL_isSingerRight_460 : decode cL_isSingerRight 460 = .ok (.invokevirtual 84, 3) := by decide +kernel
theorem dL_isSingerRight_463 : decode cL_isSingerRight 463 = .ok (.aload_n 0, 1) := by decide +kernel
theorem dL_isSingerRight_464 : decode cL_isSingerRight 464 = .ok (.iload_n 1, 1) := by decide +kernel
theorem dL_isSingerRight_465 : decode cL_isSingerRight 465 = .ok (.iload_n 3, 1) := by decide +kernel
theorem dL_isSingerRight_466 : decode cL_isSingerRight 466 = .ok (.iconst 0, 1) := by decide +kernel
theorem dL_isSingerRight_467 : decode cL_isSingerRight 467 = .ok (.invokestatic 157, 3) := by decide +kernel
theorem dL_isSingerRight_470 : decode cL_isSingerRight 470 = .ok (.if_icmp .ne 42, 3) := by decide +kernel
theorem dL_isSingerRight_473 : decode cL_isSingerRight 473 = .ok (.aload_n 0, 1) := by decide +kernel
theorem dL_isSingerRight_474 : decode cL_isSingerRight 474 = .ok (.iload_n 1, 1) := by decide +kernel
theorem dL_isSingerRight_475 : decode cL_isSingerRight 475 = .ok (.invokevirtual 159, 3) := by decide +kernel
theorem dL_isSingerRight_478 : decode cL_isSingerRight 478 = .ok (.aload_n 0, 1) := by decide +kernel
theorem dL_isSingerRight_479 : decode cL_isSingerRight 479 = .ok (.iload_n 1, 1) := by decide +kernel
theorem dL_isSingerRight_480 : decode cL_isSingerRight 480 = .ok (.iload_n 3, 1) := by decide +kernel
theorem dL_isSingerRight_481 : decode cL_isSingerRight 481 = .ok (.iconst 0, 1) := by decide +kernel
theorem dL_isSingerRight_482 : decode cL_isSingerRight 482 = .ok (.invokestatic 157, 3) := by decide +kernel
theorem dL_isSingerRight_485 : decode cL_isSingerRight 485 = .ok (.if_icmp .ne 27, 3) := by decide +kernel
theorem dL_isSingerRight_488 : decode cL_isSingerRight 488 = .ok (.aload_n 0, 1) := by decide +kernel
theorem dL_isSingerRight_489 : decode cL_isSingerRight 489 = .ok (.iload_n 1, 1) := by decide +kernel
theorem dL_isSingerRight_490 : decode cL_isSingerRight 490 = .ok (.invokevirtual 87, 3) := by decide +kernel
theorem dL_isSingerRight_493 : decode cL_isSingerRight 493 = .ok (.iload 8, 2) := by decide +kernel
theorem dL_isSingerRight_495 : decode cL_isSingerRight 495 = .ok (.if_icmp .ne 17, 3) := by decide +kernel
theorem dL_isSingerRight_498 : decode cL_isSingerRight 498 = .ok (.aload_n 0, 1) := by decide +kernel
theorem dL_isSingerRight_499 : decode cL_isSingerRight 499 = .ok (.iload_n 1, 1) := by decide +kernel
theorem dL_isSingerRight_500 : decode cL_isSingerRight 500 = .ok (.invokevirtual 162, 3) := by decide +kernel
theorem dL_isSingerRight_503 : decode cL_isSingerRight 503 = .ok (.iload 8, 2) := by decide +kernel
theorem dL_isSingerRight_505 : decode cL_isSingerRight 505 = .ok (.if_icmp .ne 7, 3) := by decide +kernel
theorem dL_isSingerRight_508 : decode cL_isSingerRight 508 = .ok (.iconst 1, 1) := by decide +kernel
theorem dL_isSingerRight_509 : decode cL_isSingerRight 509 = .ok (.goto 4, 3) := by decide +kernel
theorem dL_isSingerRight_512 : decode cL_isSingerRight 512 = .ok (.iconst 0, 1) := by decide +kernel
theorem dL_isSingerRight_513 : decode cL_isSingerRight 513 = .ok (.ireturn, 1) := by decide +kernel
theorem sm_L_isSingerRight : aSm yL_isSingerRight cL_isSingerRight 11 (some .boolean) 2 := ⟨tw_1005, tw_1004, tw_0, by decide +kernel, by decide +kernel, by decide +kernel⟩
theorem dL_areRoomsRight_0 : decode cL_areRoomsRight 0 = .ok (.aload_n 0, 1) := by decide +kernel
theorem dL_areRoomsRight_1 : decode cL_areRoomsRight 1 = .ok (.iconst 0, 1) := by decide +kernel
theorem dL_areRoomsRight_2 : decode cL_areRoomsRight 2 = .ok (.invokevirtual 127, 3) := by decide +kernel
theorem dL_areRoomsRight_5 : decode cL_areRoomsRight 5 = .ok (.istore_n 1, 1) := by decide +kernel
theorem dL_areRoomsRight_6 : decode cL_areRoomsRight 6 = .ok (.iconst 0, 1) := by decide +kernel
theorem dL_areRoomsRight_7 : decode cL_areRoomsRight 7 = .ok (.istore_n 2, 1) := by decide +kernel
theorem dL_areRoomsRight_8 : decode cL_areRoomsRight 8 = .ok (.iconst 0, 1) := by decide +kernel
theorem dL_areRoomsRight_9 : decode cL_areRoomsRight 9 = .ok (.istore_n 3, 1) := by decide +kernel
theorem dL_areRoomsRight_10 : decode cL_areRoomsRight 10 = .ok (.aload_n 0, 1) := by decide +kernel
theorem dL_areRoomsRight_11 : decode cL_areRoomsRight 11 = .ok (.bipush 8, 2) := by decide +kernel
theorem dL_areRoomsRight_13 : decode cL_areRoomsRight 13 = .ok (.iload_n 1, 1) := by decide +kernel
theorem dL_areRoomsRight_14 : decode cL_areRoomsRight 14 = .ok (.iconst 0, 1) := by decide +kernel
theorem dL_areRoomsRight_15 : decode cL_areRoomsRight 15 = .ok (.invokestatic 138, 3) := by decide +kernel
theorem dL_areRoomsRight_18 : decode cL_areRoomsRight 18 = .ok (.sipush (-2004), 3) := by decide +kernel
theorem dL_areRoomsRight_21 : decode cL_areRoomsRight 21 = .ok (.if_icmp .ne 34, 3) := by decide +kernel
theorem dL_areRoomsRight_24 : decode cL_areRoomsRight 24 = .ok (.aload_n 0, 1) := by decide +kernel
theorem dL_areRoomsRight_25 : decode cL_areRoomsRight 25 = .ok (.bipush 8, 2) := by decide +kernel
theorem dL_areRoomsRight_27 : decode cL_areRoomsRight 27 = .ok (.iconst (-1), 1) := by decide +kernel
theorem dL_areRoomsRight_28 : decode cL_areRoomsRight 28 = .ok (.iconst 0, 1) := by decide +kernel
theorem dL_areRoomsRight_29 : decode cL_areRoomsRight 29 = .ok (.invokestatic 138, 3) := by decide +kernel
theorem dL_areRoomsRight_32 : decode cL_areRoomsRight 32 = .ok (.sipush (-2004), 3) := by decide +kernel
theorem dL_areRoomsRight_35 : decode cL_areRoomsRight 35 = .ok (.if_icmp .ne 20, 3) := by decide +kernel
theorem dL_areRoomsRight_38 : decode cL_areRoomsRight 38 = .ok (.aload_n 0, 1) := by decide +kernel
theorem dL_areRoomsRight_39 : decode cL_areRoomsRight 39 = .ok (.iconst 0, 1) := by decide +kernel
theorem dL_areRoomsRight_40 : decode cL_areRoomsRight 40 = .ok (.iload_n 1, 1) := by decide +kernel
theorem dL_areRoomsRight_41 : decode cL_areRoomsRight 41 = .ok (.iconst 0, 1) := by decide +kernel
theorem dL_areRoomsRight_42 : decode cL_areRoomsRight 42 = .ok (.invokestatic 138, 3) := by decide +kernel
theorem dL_areRoomsRight_45 : decode cL_areRoomsRight 45 = .ok (.sipush (-2002), 3) := by decide +kernel
theorem dL_areRoomsRight_48 : decode cL_areRoomsRight 48 = .ok (.if_icmp .ne 7, 3) := by decide +kernel
theorem dL_areRoomsRight_51 : decode cL_areRoomsRight 51 = .ok (.iconst 1, 1) := by decide +kernel
theorem dL_areRoomsRight_52 : decode cL_areRoomsRight 52 = .ok (.goto 4, 3) := by decide +kernel
theorem dL_areRoomsRight_55 : decode cL_areRoomsRight 55 = .ok (.iconst 0, 1) := by decide +kernel
theorem dL_areRoomsRight_56 : decode cL_areRoomsRight 56 = .ok (.istore 4, 2) := by decide +kernel
theorem dL_areRoomsRight_58 : decode cL_areRoomsRight 58 = .ok (.iconst 0, 1) := by decide +kernel
theorem dL_areRoomsRight_59 : decode cL_areRoomsRight 59 = .ok (.istore 5, 2) := by decide +kernel
theorem dL_areRoomsRight_61 : decode cL_areRoomsRight 61 = .ok (.iload 5, 2) := by decide +kernel
theorem dL_areRoomsRight_63 : decode cL_areRoomsRight 63 = .ok (.iload_n 1, 1) := by decide +kernel
theorem dL_areRoomsRight_64 : decode cL_areRoomsRight 64 = .ok (.if_icmp .ge 256, 3) := by decide +kernel
theorem dL_areRoomsRight_67 : decode cL_areRoomsRight 67 = .ok (.iconst 0, 1) := by decide +kernel
theorem dL_areRoomsRight_68 : decode cL_areRoomsRight 68 = .ok (.istore 6, 2) := by decide +kernel
theorem dL_areRoomsRight_70 : decode cL_areRoomsRight 70 = .ok (.iconst 0, 1) := by decide +kernel
theorem dL_areRoomsRight_71 : decode cL_areRoomsRight 71 = .ok (.istore 7, 2) := by decide +kernel
theorem dL_areRoomsRight_73 : decode cL_areRoomsRight 73 = .ok (.iconst 0, 1) := by decide +kernel
theorem dL_areRoomsRight_74 : decode cL_areRoomsRight 74 = .ok (.istore 8, 2) := by decide +kernel
theorem dL_areRoomsRight_76 : decode cL_areRoomsRight 76 = .ok (.iload 8, 2) := by decide +kernel
theorem dL_areRoomsRight_78 : decode cL_areRoomsRight 78 = .ok (.aload_n 0, 1) := by decide +kernel
theorem dL_areRoomsRight_79 : decode cL_areRoomsRight 79 = .ok (.iconst 1, 1) := by decide +kernel
theorem dL_areRoomsRight_80 : decode cL_areRoomsRight 80 = .ok (.invokevirtual 127, 3) := by decide +kernel
theorem dL_areRoomsRight_83 : decode cL_areRoomsRight 83 = .ok (.if_icmp .ge 71, 3) := by decide +kernel
theorem dL_areRoomsRight_86 : decode cL_areRoomsRight 86 = .ok (.aload_n 0, 1) := by decide +kernel
theorem dL_areRoomsRight_87 : decode cL_areRoomsRight 87 = .ok (.iload 8, 2) := by decide +kernel
theorem dL_areRoomsRight_89 : decode cL_areRoomsRight 89 = .ok (.iconst 0, 1) := by decide +kernel
theorem dL_areRoomsRight_90 : decode cL_areRoomsRight 90 = .ok (.invokevirtual 78, 3) := by decide +kernel
theorem dL_areRoomsRight_93 : decode cL_areRoomsRight 93 = .ok (.iload 5, 2) := by decide +kernel
theorem dL_areRoomsRight_95 : decode cL_areRoomsRight 95 = .ok (.if_icmp .ne 7, 3) := by decide +kernel
theorem dL_areRoomsRight_98 : decode cL_areRoomsRight 98 = .ok (.iconst 1, 1) := by decide +kernel
theorem dL_areRoomsRight_99 : decode cL_areRoomsRight 99 = .ok (.goto 4, 3) := by decide +kernel
theorem dL_areRoomsRight_102 : decode cL_areRoomsRight 102 = .ok (.iconst 0, 1) := by decide +kernel
theorem dL_areRoomsRight_103 : decode cL_areRoomsRight 103 = .ok (.istore 9, 2) := by decide +kernel
theorem dL_areRoomsRight_105 : decode cL_areRoomsRight 105 = .ok (.iload 6, 2) := by decide +kernel
theorem dL_areRoomsRight_107 : decode cL_areRoomsRight 107 = .ok (.iload 9, 2) := by decide +kernel
theorem dL_areRoomsRight_109 : decode cL_areRoomsRight 109 = .ok (.ifCond .eq 7, 3) := by decide +kernel
theorem dL_areRoomsRight_112 : decode cL_areRoomsRight 112 = .ok (.iconst 1, 1) := by decide +kernel
theorem dL_areRoomsRight_113 : decode cL_areRoomsRight 113 = .ok (.goto 4, 3) := by decide +kernel
theorem dL_areRoomsRight_116 : decode cL_areRoomsRight 116 = .ok (.iconst 0, 1) := by decide +kernel
theorem dL_areRoomsRight_117 : decode cL_areRoomsRight 117 = .ok (.iadd, 1) := by decide +kernel
theorem dL_areRoomsRight_118 : decode cL_areRoomsRight 118 = .ok (.istore 6, 2) := by decide +kernel
theorem dL_areRoomsRight_120 : decode cL_areRoomsRight 120 = .ok (.iload 7, 2) := by decide +kernel
theorem dL_areRoomsRight_122 : decode cL_areRoomsRight 122 = .ok (.iload 9, 2) := by decide +kernel
theorem dL_areRoomsRight_124 : decode cL_areRoomsRight 124 = .ok (.ifCond .eq 20, 3) := by decide +kernel
theorem dL_areRoomsRight_127 : decode cL_areRoomsRight 127 = .ok (.aload_n 0, 1) := by decide +kernel
theorem dL_areRoomsRight_128 : decode cL_areRoomsRight 128 = .ok (.iload 8, 2) := by decide +kernel
theorem dL_areRoomsRight_130 : decode cL_areRoomsRight 130 = .ok (.iconst 2, 1) := by decide +kernel
theorem dL_areRoomsRight_131 : decode cL_areRoomsRight 131 = .ok (.invokevirtual 78, 3) := by decide +kernel
theorem dL_areRoomsRight_134 : decode cL_areRoomsRight 134 = .ok (.ifCond .ge 10, 3) := by decide +kernel
theorem dL_areRoomsRight_137 : decode cL_areRoomsRight 137 = .ok (.iconst 1, 1) := by decide +kernel
theorem dL_areRoomsRight_138 : decode cL_areRoomsRight 138 = .ok (.iload 8, 2) := by decide +kernel
theorem dL_areRoomsRight_140 : decode cL_areRoomsRight 140 = .ok (.ishl, 1) := by decide +kernel
theorem dL_areRoomsRight_141 : decode cL_areRoomsRight 141 = .ok (.goto 4, 3) := by decide +kernel
theorem dL_areRoomsRight_144 : decode cL_areRoomsRight 144 = .ok (.iconst 0, 1) := by decide +kernel
theorem dL_areRoomsRight_145 : decode cL_areRoomsRight 145 = .ok (.ior, 1) := by decide +kernel
theorem dL_areRoomsRight_146 : decode cL_areRoomsRight 146 = .ok (.istore 7, 2) := by decide +kernel
theorem dL_areRoomsRight_148 : decode cL_areRoomsRight 148 = .ok (.iinc 8 1, 3) := by decide +kernel
theorem dL_areRoomsRight_151 : decode cL_areRoomsRight 151 = .ok (.goto (-75), 3) := by decide +kernel
theorem dL_areRoomsRight_154 : decode cL_areRoomsRight 154 = .ok (.iload_n 2, 1) := by decide +kernel
theorem dL_areRoomsRight_155 : decode cL_areRoomsRight 155 = .ok (.aload_n 0, 1) := by decide +kernel
theorem dL_areRoomsRight_156 : decode cL_areRoomsRight 156 = .ok (.iload 5, 2) := by decide +kernel
theorem dL_areRoomsRight_158 : decode cL_areRoomsRight 158 = .ok (.iconst 1, 1) := by decide +kernel
theorem dL_areRoomsRight_159 : decode cL_areRoomsRight 159 = .ok (.invokevirtual 75, 3) := by decide +kernel
theorem dL_areRoomsRight_162 : decode cL_areRoomsRight 162 = .ok (.iadd, 1) := by decide +kernel
theorem dL_areRoomsRight_163 : decode cL_areRoomsRight 163 = .ok (.istore_n 2, 1) := by decide +kernel
theorem dL_areRoomsRight_164 : decode cL_areRoomsRight 164 = .ok (.iload_n 3, 1) := by decide +kernel
theorem dL_areRoomsRight_165 : decode cL_areRoomsRight 165 = .ok (.aload_n 0, 1) := by decide +kernel
theorem dL_areRoomsRight_166 : decode cL_areRoomsRight 166 = .ok (.iload 5, 2) := by decide +kernel
theorem dL_areRoomsRight_168 : decode cL_areRoomsRight 168 = .ok (.iconst 5, 1) := by decide +kernel
theorem dL_areRoomsRight_169 : decode cL_areRoomsRight 169 = .ok (.invokevirtual 75, 3) := by decide +kernel
theorem dL_areRoomsRight_172 : decode cL_areRoomsRight 172 = .ok (.iadd, 1) := by decide +kernel
theorem dL_areRoomsRight_173 : decode cL_areRoomsRight 173 = .ok (.istore_n 3, 1) := by decide +kernel
theorem dL_areRoomsRight_174 : decode cL_areRoomsRight 174 = .ok (.iload 4, 2) := by decide +kernel
theorem dL_areRoomsRight_176 : decode cL_areRoomsRight 176 = .ok (.ifCond .eq 135, 3) := by decide +kernel
theorem dL_areRoomsRight_179 : decode cL_areRoomsRight 179 = .ok (.aload_n 0, 1) := by decide +kernel
theorem dL_areRoomsRight_180 : decode cL_areRoomsRight 180 = .ok (.iload 5, 2) := by decide +kernel
theorem dL_areRoomsRight_182 : decode cL_areRoomsRight 182 = .ok (.invokevirtual 165, 3) := by decide +kernel
theorem dL_areRoomsRight_185 : decode cL_areRoomsRight 185 = .ok (.aload_n 0, 1) := by decide +kernel
theorem dL_areRoomsRight_186 : decode cL_areRoomsRight 186 = .ok (.iload 5, 2) := by decide +kernel
theorem dL_areRoomsRight_188 : decode cL_areRoomsRight 188 = .ok (.invokestatic 145, 3) := by decide +kernel
theorem dL_areRoomsRight_191 : decode cL_areRoomsRight 191 = .ok (.if_icmp .ne 120, 3) := by decide +kernel
theorem dL_areRoomsRight_194 : decode cL_areRoomsRight 194 = .ok (.aload_n 0, 1) := by decide +kernel
theorem dL_areRoomsRight_195 : decode cL_areRoomsRight 195 = .ok (.iload 5, 2) := by decide +kernel
theorem dL_areRoomsRight_197 : decode cL_areRoomsRight 197 = .ok (.iconst 2, 1) := by decide +kernel
theorem dL_areRoomsRight_198 : decode cL_areRoomsRight 198 = .ok (.invokevirtual 75, 3) := by decide +kernel
theorem dL_areRoomsRight_201 : decode cL_areRoomsRight 201 = .ok (.aload_n 0, 1) := by decide +kernel
theorem dL_areRoomsRight_202 : decode cL_areRoomsRight 202 = .ok (.iload 5, 2) := by decide +kernel
theorem dL_areRoomsRight_204 : decode cL_areRoomsRight 204 = .ok (.invokestatic 145, 3) := by decide +kernel
theorem dL_areRoomsRight_207 : decode cL_areRoomsRight 207 = .ok (.invokestatic 149, 3) := by decide +kernel
theorem dL_areRoomsRight_210 : decode cL_areRoomsRight 210 = .ok (.if_icmp .ne 101, 3) := by decide +kernel
theorem dL_areRoomsRight_213 : decode cL_areRoomsRight 213 = .ok (.aload_n 0, 1) := by decide +kernel
theorem dL_areRoomsRight_214 : decode cL_areRoomsRight 214 = .ok (.iload 5, 2) := by decide +kernel
theorem dL_areRoomsRight_216 : decode cL_areRoomsRight 216 = .ok (.iconst 3, 1) := by decide +kernel
theorem dL_areRoomsRight_217 : decode cL_areRoomsRight 217 = .ok (.invokevirtual 75, 3) := by decide +kernel
theorem dL_areRoomsRight_220 : decode cL_areRoomsRight 220 = .ok (.iload 6, 2) := by decide +kernel
theorem dL_areRoomsRight_222 : decode cL_areRoomsRight 222 = .ok (.if_icmp .ne 89, 3) := by decide +kernel
theorem dL_areRoomsRight_225 : decode cL_areRoomsRight 225 = .ok (.aload_n 0, 1) := by decide +kernel
theorem dL_areRoomsRight_226 : decode cL_areRoomsRight 226 = .ok (.iload 5, 2) := by decide +kernel
theorem dL_areRoomsRight_228 : decode cL_areRoomsRight 228 = .ok (.invokevirtual 168, 3) := by decide +kernel
theorem dL_areRoomsRight_231 : decode cL_areRoomsRight 231 = .ok (.iload 7, 2) := by decide +kernel
theorem dL_areRoomsRight_233 : decode cL_areRoomsRight 233 = .ok (.if_icmp .ne 78, 3) := by decide +kernel
theorem dL_areRoomsRight_236 : decode cL_areRoomsRight 236 = .ok (.aload_n 0, 1) := by decide +kernel
theorem dL_areRoomsRight_237 : decode cL_areRoomsRight 237 = .ok (.iload 5, 2) := by decide +kernel
theorem dL_areRoomsRight_239 : decode cL_areRoomsRight 239 = .ok (.iconst 4, 1) := by decide +kernel
theorem dL_areRoomsRight_240 : decode cL_areRoomsRight 240 = .ok (.invokevirtual 75, 3) := by decide +kernel
theorem dL_areRoomsRight_243 : decode cL_areRoomsRight 243 = .ok (.iload 6, 2) := by decide +kernel
theorem dL_areRoomsRight_245 : decode cL_areRoomsRight 245 = .ok (.iload 7, 2) := by decide +kernel
theorem dL_areRoomsRight_247 : decode cL_areRoomsRight 247 = .ok (.invokestatic 149, 3) := by decide +kernel
theorem dL_areRoomsRight_250 : decode cL_areRoomsRight 250 = .ok (.isub, 1) := by decide +kernel
theorem dL_areRoomsRight_251 : decode cL_areRoomsRight 251 = .ok (.if_icmp .ne 60, 3) := by decide +kernel
theorem dL_areRoomsRight_254 : decode cL_areRoomsRight 254 = .ok (.iconst 2, 1) := by decide +kernel
theorem dL_areRoomsRight_255 : decode cL_areRoomsRight 255 = .ok (.aload_n 0, 1) := by decide +kernel
theorem dL_areRoomsRight_256 : decode cL_areRoomsRight 256 = .ok (.iload 5, 2) := by decide +kernel
theorem dL_areRoomsRight_258 : decode cL_areRoomsRight 258 = .ok (.invokevirtual 171, 3) := by decide +kernel
theorem dL_areRoomsRight_261 : decode cL_areRoomsRight 261 = .ok (.imul, 1) := by decide +kernel
theorem dL_areRoomsRight_262 : decode cL_areRoomsRight 262 = .ok (.aload_n 0, 1) := by decide +kernel
theorem dL_areRoomsRight_263 : decode cL_areRoomsRight 263 = .ok (.iload 5, 2) := by decide +kernel
theorem dL_areRoomsRight_265 : decode cL_areRoomsRight 265 = .ok (.iconst 1, 1) := by decide +kernel
theorem dL_areRoomsRight_266 : decode cL_areRoomsRight 266 = .ok (.invokevirtual 75, 3) := by decide +kernel
theorem dL_areRoomsRight_269 : decode cL_areRoomsRight 269 = .ok (.if_icmp .lt 42, 3) := by decide +kernel
theorem dL_areRoomsRight_272 : decode cL_areRoomsRight 272 = .ok (.iconst 2, 1) := by decide +kernel
theorem dL_areRoomsRight_273 : decode cL_areRoomsRight 273 = .ok (.aload_n 0, 1) := by decide +kernel
theorem dL_areRoomsRight_274 : decode cL_areRoomsRight 274 = .ok (.iload 5, 2) := by decide +kernel
theorem dL_areRoomsRight_276 : decode cL_areRoomsRight 276 = .ok (.invokevirtual 171, 3) := by decide +kernel
theorem dL_areRoomsRight_279 : decode cL_areRoomsRight 279 = .ok (.imul, 1) := by decide +kernel
theorem dL_areRoomsRight_280 : decode cL_areRoomsRight 280 = .ok (.aload_n 0, 1) := by decide +kernel
theorem dL_areRoomsRight_281 : decode cL_areRoomsRight 281 = .ok (.iload 5, 2) := by decide +kernel
theorem dL_areRoomsRight_283 : decode cL_areRoomsRight 283 = .ok (.iconst 1, 1) := by decide +kernel
theorem dL_areRoomsRight_284 : decode cL_areRoomsRight 284 = .ok (.invokevirtual 75, 3) := by decide +kernel
theorem dL_areRoomsRight_287 : decode cL_areRoomsRight 287 = .ok (.iconst 1, 1) := by decide +kernel
theorem dL_areRoomsRight_288 : decode cL_areRoomsRight 288 = .ok (.iadd, 1) := by decide +kernel
theorem dL_areRoomsRight_289 : decode cL_areRoomsRight 289 = .ok (.if_icmp .gt 22, 3) := by decide +kernel
theorem dL_areRoomsRight_292 : decode cL_areRoomsRight 292 = .ok (.aload_n 0, 1) := by decide +kernel
theorem dL_areRoomsRight_293 : decode cL_areRoomsRight 293 = .ok (.iconst 0, 1) := by decide +kernel
theorem dL_areRoomsRight_294 : decode cL_areRoomsRight 294 = .ok (.iload 5, 2) := by decide +kernel
theorem dL_areRoomsRight_296 : decode cL_areRoomsRight 296 = .ok (.bipush 6, 2) := by decide +kernel
theorem dL_areRoomsRight_298 : decode cL_areRoomsRight 298 = .ok (.invokestatic 138, 3) := by decide +kernel
theorem dL_areRoomsRight_301 : decode cL_areRoomsRight 301 = .ok (.sipush (-2003), 3) := by decide +kernel
theorem dL_areRoomsRight_304 : decode cL_areRoomsRight 304 = .ok (.if_icmp .ne 7, 3) := by decide +kernel
theorem dL_areRoomsRight_307 : decode cL_areRoomsRight 307 = .ok (.iconst 1, 1) := by decide +kernel
theorem dL_areRoomsRight_308 : decode cL_areRoomsRight 308 = .ok (.goto 4, 3) := by decide +kernel
theorem dL_areRoomsRight_311 : decode cL_areRoomsRight 311 = .ok (.iconst 0, 1) := by decide +kernel
theorem dL_areRoomsRight_312 : decode cL_areRoomsRight 312 = .ok (.istore 4, 2) := by decide +kernel
theorem dL_areRoomsRight_314 : decode cL_areRoomsRight 314 = .ok (.iinc 5 1, 3) := by decide +kernel
theorem dL_areRoomsRight_317 : decode cL_areRoomsRight 317 = .ok (.goto (-256), 3) := by decide +kernel
theorem dL_areRoomsRight_320 : decode cL_areRoomsRight 320 = .ok (.iconst 0, 1) := by decide +kernel
theorem dL_areRoomsRight_321 : decode cL_areRoomsRight 321 = .ok (.istore 5, 2) := by decide +kernel
theorem dL_areRoomsRight_323 : decode cL_areRoomsRight 323 = .ok (.iload 5, 2) := by decide +kernel
theorem dL_areRoomsRight_325 : decode cL_areRoomsRight 325 = .ok (.iconst 1, 1) := by decide +kernel
theorem dL_areRoomsRight_326 : decode cL_areRoomsRight 326 = .ok (.iadd, 1) := by decide +kernel
theorem dL_areRoomsRight_327 : decode cL_areRoomsRight 327 = .ok (.iload_n 1, 1) := by decide +kernel
theorem dL_areRoomsRight_328 : decode cL_areRoomsRight 328 = .ok (.if_icmp .ge 100, 3) := by decide +kernel
theorem dL_areRoomsRight_331 : decode cL_areRoomsRight 331 = .ok (.aload_n 0, 1) := by decide +kernel
theorem dL_areRoomsRight_332 : decode cL_areRoomsRight 332 = .ok (.iload 5, 2) := by decide +kernel
theorem dL_areRoomsRight_334 : decode cL_areRoomsRight 334 = .ok (.invokevirtual 99, 3) := by decide +kernel
theorem dL_areRoomsRight_337 : decode cL_areRoomsRight 337 = .ok (.istore 6, 2) := by decide +kernel
theorem dL_areRoomsRight_339 : decode cL_areRoomsRight 339 = .ok (.aload_n 0, 1) := by decide +kernel
theorem dL_areRoomsRight_340 : decode cL_areRoomsRight 340 = .ok (.iload 5, 2) := by decide +kernel
theorem dL_areRoomsRight_342 : decode cL_areRoomsRight 342 = .ok (.iconst 1, 1) := by decide +kernel
theorem dL_areRoomsRight_343 : decode cL_areRoomsRight 343 = .ok (.iadd, 1) := by decide +kernel
theorem dL_areRoomsRight_344 : decode cL_areRoomsRight 344 = .ok (.invokevirtual 99, 3) := by decide +kernel
theorem dL_areRoomsRight_347 : decode cL_areRoomsRight 347 = .ok (.istore 7, 2) := by decide +kernel
theorem dL_areRoomsRight_349 : decode cL_areRoomsRight 349 = .ok (.aload_n 0, 1) := by decide +kernel
theorem dL_areRoomsRight_350 : decode cL_areRoomsRight 350 = .ok (.iload 6, 2) := by decide +kernel
theorem dL_areRoomsRight_352 : decode cL_areRoomsRight 352 = .ok (.iconst 1, 1) := by decide +kernel
theorem dL_areRoomsRight_353 : decode cL_areRoomsRight 353 = .ok (.invokevirtual 75, 3) := by decide +kernel
theorem dL_areRoomsRight_356 : decode cL_areRoomsRight 356 = .ok (.aload_n 0, 1) := by decide +kernel
theorem dL_areRoomsRight_357 : decode cL_areRoomsRight 357 = .ok (.iload 7, 2) := by decide +kernel
theorem dL_areRoomsRight_359 : decode cL_areRoomsRight 359 = .ok (.iconst 1, 1) := by decide +kernel
theorem dL_areRoomsRight_360 : decode cL_areRoomsRight 360 = .ok (.invokevirtual 75, 3) := by decide +kernel
theorem dL_areRoomsRight_363 : decode cL_areRoomsRight 363 = .ok (.isub, 1) := by decide +kernel
theorem dL_areRoomsRight_364 : decode cL_areRoomsRight 364 = .ok (.istore 8, 2) := by decide +kernel
theorem dL_areRoomsRight_366 : decode cL_areRoomsRight 366 = .ok (.aload_n 0, 1) := by decide +kernel
theorem dL_areRoomsRight_367 : decode cL_areRoomsRight 367 = .ok (.iload 6, 2) := by decide +kernel
theorem dL_areRoomsRight_369 : decode cL_areRoomsRight 369 = .ok (.iconst 2, 1) := by decide +kernel
theorem dL_areRoomsRight_370 : decode cL_areRoomsRight 370 = .ok (.invokevirtual 75, 3) := by decide +kernel
theorem dL_areRoomsRight_373 : decode cL_areRoomsRight 373 = .ok (.aload_n 0, 1) := by decide +kernel
theorem dL_areRoomsRight_374 : decode cL_areRoomsRight 374 = .ok (.iload 7, 2) := by decide +kernel
theorem dL_areRoomsRight_376 : decode cL_areRoomsRight 376 = .ok (.iconst 2, 1) := by decide +kernel
theorem dL_areRoomsRight_377 : decode cL_areRoomsRight 377 = .ok (.invokevirtual 75, 3) := by decide +kernel
theorem dL_areRoomsRight_380 : decode cL_areRoomsRight 380 = .ok (.isub, 1) := by decide +kernel
theorem dL_areRoomsRight_381 : decode cL_areRoomsRight 381 = .ok (.istore 9, 2) := by decide +kernel
theorem dL_areRoomsRight_383 : decode cL_areRoomsRight 383 = .ok (.iload 4, 2) := by decide +kernel
theorem dL_areRoomsRight_385 : decode cL_areRoomsRight 385 = .ok (.ifCond .eq 34, 3) := by decide +kernel
theorem dL_areRoomsRight_388 : decode cL_areRoomsRight 388 = .ok (.iload 8, 2) := by decide +kernel
theorem dL_areRoomsRight_390 : decode cL_areRoomsRight 390 = .ok (.ifCond .gt 25, 3) := by decide +kernel
theorem dL_areRoomsRight_393 : decode cL_areRoomsRight 393 = .ok (.iload 8, 2) := by decide +kernel
theorem dL_areRoomsRight_395 : decode cL_areRoomsRight 395 = .ok (.ifCond .ne 24, 3) := by decide +kernel
theorem dL_areRoomsRight_398 : decode cL_areRoomsRight 398 = .ok (.iload 9, 2) := by decide +kernel
theorem dL_areRoomsRight_400 : decode cL_areRoomsRight 400 = .ok (.ifCond .gt 15, 3) := by decide +kernel
theorem dL_areRoomsRight_403 : decode cL_areRoomsRight 403 = .ok (.iload 9, 2) := by decide +kernel
theorem dL_areRoomsRight_405 : decode cL_areRoomsRight 405 = .ok (.ifCond .ne 14, 3) := by decide +kernel
theorem dL_areRoomsRight_408 : decode cL_areRoomsRight 408 = .ok (.iload 6, 2) := by decide +kernel
theorem dL_areRoomsRight_410 : decode cL_areRoomsRight 410 = .ok (.iload 7, 2) := by decide +kernel
theorem dL_areRoomsRight_412 : decode cL_areRoomsRight 412 = .ok (.if_icmp .ge 7, 3) := by decide +kernel
theorem dL_areRoomsRight_415 : decode cL_areRoomsRight 415 = .ok (.iconst 1, 1) := by decide +kernel
theorem dL_areRoomsRight_416 : decode cL_areRoomsRight 416 = .ok (.goto 4, 3) := by decide +kernel
theorem dL_areRoomsRight_419 : decode cL_areRoomsRight 419 = .ok (.iconst 0, 1) := by decide +kernel
theorem dL_areRoomsRight_420 : decode cL_areRoomsRight 420 = .ok (.istore 4, 2) := by decide +kernel
theorem dL_areRoomsRight_422 : decode cL_areRoomsRight 422 = .ok (.iinc 5 1, 3) := by decide +kernel
theorem dL_areRoomsRight_425 : decode cL_areRoomsRight 425 = .ok (.goto (-102), 3) := by decide +kernel
theorem dL_areRoomsRight_428 : decode cL_areRoomsRight 428 = .ok (.iload 4, 2) := by decide +kernel
theorem dL_areRoomsRight_430 : decode cL_areRoomsRight 430 = .ok (.ifCond .eq 43, 3) := by decide +kernel
theorem dL_areRoomsRight_433 : decode cL_areRoomsRight 433 = .ok (.aload_n 0, 1) := by decide +kernel
theorem dL_areRoomsRight_434 : decode cL_areRoomsRight 434 = .ok (.iconst 5, 1) := by decide +kernel
theorem dL_areRoomsRight_435 : decode cL_areRoomsRight 435 = .ok (.invokevirtual 127, 3) := by decide +kernel
theorem dL_areRoomsRight_438 : decode cL_areRoomsRight 438 = .ok (.iload_n 2, 1) := by decide +kernel
theorem dL_areRoomsRight_439 : decode cL_areRoomsRight 439 = .ok (.if_icmp .ne 34, 3) := by decide +kernel
theorem dL_areRoomsRight_442 : decode cL_areRoomsRight 442 = .ok (.aload_n 0, 1) := by decide +kernel
theorem dL_areRoomsRight_443 : decode cL_areRoomsRight 443 = .ok (.bipush 6, 2) := by decide +kernel
theorem dL_areRoomsRight_445 : decode cL_areRoomsRight 445 = .ok (.invokevirtual 127, 3) := by decide +kernel
theorem dL_areRoomsRight_448 : decode cL_areRoomsRight 448 = .ok (.iload_n 3, 1) := by decide +kernel
theorem dL_areRoomsRight_449 : decode cL_areRoomsRight 449 = .ok (.if_icmp .ne 24, 3) := by decide +kernel
theorem dL_areRoomsRight_452 : decode cL_areRoomsRight 452 = .ok (.iload_n 1, 1) := by decide +kernel
theorem dL_areRoomsRight_453 : decode cL_areRoomsRight 453 = .ok (.ifCond .eq 16, 3) := by decide +kernel
theorem dL_areRoomsRight_456 : decode cL_areRoomsRight 456 = .ok (.aload_n 0, 1) := by decide +kernel
theorem dL_areRoomsRight_457 : decode cL_areRoomsRight 457 = .ok (.invokevirtual 174, 3) := by decide +kernel
theorem dL_areRoomsRight_460 : decode cL_areRoomsRight 460 = .ok (.iload_n 2, 1) := by decide +kernel
theorem dL_areRoomsRight_461 : decode cL_areRoomsRight 461 = .ok (.i2d, 1) := by decide +kernel
theorem dL_areRoomsRight_462 : decode cL_areRoomsRight 462 = .ok (.iload_n 1, 1) := by decide +kernel
theorem dL_areRoomsRight_463 : decode cL_areRoomsRight 463 = .ok (.i2d, 1) := by decide +kernel
theorem dL_areRoomsRight_464 : decode cL_areRoomsRight 464 = .ok (.ddiv, 1) := by decide +kernel
theorem dL_areRoomsRight_465 : decode cL_areRoomsRight 465 = .ok (.dcmp .l, 1) := by decide +kernel
theorem dL_areRoomsRight_466 : decode cL_areRoomsRight 466 = .ok (.ifCond .ne 7, 3) := by decide +kernel
theorem dL_areRoomsRight_469 : decode cL_areRoomsRight 469 = .ok (.iconst 1, 1) := by decide +kernel
theorem dL_areRoomsRight_470 : decode cL_areRoomsRight 470 = .ok (.goto 4, 3) := by decide +kernel
theorem dL_areRoomsRight_473 : decode cL_areRoomsRight 473 = .ok (.iconst 0, 1) := by decide +kernel
theorem dL_areRoomsRight_474 : decode cL_areRoomsRight 474 = .ok (.ireturn, 1) := by decide +kernel
theorem sm_L_areRoomsRight : aSm yL_areRoomsRight cL_areRoomsRight 10 (some .boolean) 1 := ⟨tw_1044, tw_1043, tw_0, by decide +kernel, by decide +kernel, by decide +kernel⟩
theorem dL_areEchoesRight_0 : decode cL_areEchoesRight 0 = .ok (.aload_n 0, 1) := by decide +kernel
theorem dL_areEchoesRight_1 : decode cL_areEchoesRight 1 = .ok (.iconst 1, 1) := by decide +kernel
theorem dL_areEchoesRight_2 : decode cL_areEchoesRight 2 = .ok (.invokevirtual 127, 3) := by decide +kernel
theorem dL_areEchoesRight_5 : decode cL_areEchoesRight 5 = .ok (.istore_n 1, 1) := by decide +kernel
theorem dL_areEchoesRight_6 : decode cL_areEchoesRight 6 = .ok (.iconst 0, 1) := by decide +kernel
theorem dL_areEchoesRight_7 : decode cL_areEchoesRight 7 = .ok (.istore_n 2, 1) := by decide +kernel
theorem dL_areEchoesRight_8 : decode cL_areEchoesRight 8 = .ok (.iconst 0, 1) := by decide +kernel
theorem dL_areEchoesRight_9 : decode cL_areEchoesRight 9 = .ok (.istore_n 3, 1) := by decide +kernel
theorem dL_areEchoesRight_10 : decode cL_areEchoesRight 10 = .ok (.iconst 0, 1) := by decide +kernel
theorem dL_areEchoesRight_11 : decode cL_areEchoesRight 11 = .ok (.istore 4, 2) := by decide +kernel
theorem dL_areEchoesRight_13 : decode cL_areEchoesRight 13 = .ok (.aload_n 0, 1) := by decide +kernel
theorem dL_areEchoesRight_14 : decode cL_areEchoesRight 14 = .ok (.bipush 10, 2) := by decide +kernel
theorem dL_areEchoesRight_16 : decode cL_areEchoesRight 16 = .ok (.iload_n 1, 1) := by decide +kernel
theorem dL_areEchoesRight_17 : decode cL_areEchoesRight 17 = .ok (.iconst 0, 1) := by decide +kernel
theorem dL_areEchoesRight_18 : decode cL_areEchoesRight 18 = .ok (.invokestatic 138, 3) := by decide +kernel
theorem dL_areEchoesRight_21 : decode cL_areEchoesRight 21 = .ok (.sipush (-2004), 3) := by decide +kernel
theorem dL_areEchoesRight_24 : decode cL_areEchoesRight 24 = .ok (.if_icmp .ne 20, 3) := by decide +kernel
theorem dL_areEchoesRight_27 : decode cL_areEchoesRight 27 = .ok (.aload_n 0, 1) := by decide +kernel
theorem dL_areEchoesRight_28 : decode cL_areEchoesRight 28 = .ok (.iconst 1, 1) := by decide +kernel
theorem dL_areEchoesRight_29 : decode cL_areEchoesRight 29 = .ok (.iload_n 1, 1) := by decide +kernel
theorem dL_areEchoesRight_30 : decode cL_areEchoesRight 30 = .ok (.iconst 0, 1) := by decide +kernel
theorem dL_areEchoesRight_31 : decode cL_areEchoesRight 31 = .ok (.invokestatic 138, 3) := by decide +kernel
theorem dL_areEchoesRight_34 : decode cL_areEchoesRight 34 = .ok (.sipush (-2002), 3) := by decide +kernel
theorem dL_areEchoesRight_37 : decode cL_areEchoesRight 37 = .ok (.if_icmp .ne 7, 3) := by decide +kernel
theorem dL_areEchoesRight_40 : decode cL_areEchoesRight 40 = .ok (.iconst 1, 1) := by decide +kernel
theorem dL_areEchoesRight_41 : decode cL_areEchoesRight 41 = .ok (.goto 4, 3) := by decide +kernel
theorem dL_areEchoesRight_44 : decode cL_areEchoesRight 44 = .ok (.iconst 0, 1) := by decide +kernel
theorem dL_areEchoesRight_45 : decode cL_areEchoesRight 45 = .ok (.istore 5, 2) := by decide +kernel
theorem dL_areEchoesRight_47 : decode cL_areEchoesRight 47 = .ok (.iconst 0, 1) := by decide +kernel
theorem dL_areEchoesRight_48 : decode cL_areEchoesRight 48 = .ok (.istore 6, 2) := by decide +kernel
theorem dL_areEchoesRight_50 : decode cL_areEchoesRight 50 = .ok (.iload 6, 2) := by decide +kernel
theorem dL_areEchoesRight_52 : decode cL_areEchoesRight 52 = .ok (.iload_n 1, 1) := by decide +kernel
theorem dL_areEchoesRight_53 : decode cL_areEchoesRight 53 = .ok (.if_icmp .ge 145, 3) := by decide +kernel
theorem dL_areEchoesRight_56 : decode cL_areEchoesRight 56 = .ok (.aload_n 0, 1) := by decide +kernel
theorem dL_areEchoesRight_57 : decode cL_areEchoesRight 57 = .ok (.iload 6, 2) := by decide +kernel
theorem dL_areEchoesRight_59 : decode cL_areEchoesRight 59 = .ok (.iconst 2, 1) := by decide +kernel
theorem dL_areEchoesRight_60 : decode cL_areEchoesRight 60 = .ok (.invokevirtual 78, 3) := by decide +kernel
theorem dL_areEchoesRight_63 : decode cL_areEchoesRight 63 = .ok (.ifCond .lt 7, 3) := by decide +kernel
theorem dL_areEchoesRight_66 : decode cL_areEchoesRight 66 = .ok (.iconst 1, 1) := by decide +kernel
theorem dL_areEchoesRight_67 : decode cL_areEchoesRight 67 = .ok (.goto 4, 3) := by decide +kernel
theorem dL_areEchoesRight_70 : decode cL_areEchoesRight 70 = .ok (.iconst 0, 1) := by decide +kernel
theorem dL_areEchoesRight_71 : decode cL_areEchoesRight 71 = .ok (.istore 7, 2) := by decide +kernel
theorem dL_areEchoesRight_73 : decode cL_areEchoesRight 73 = .ok (.iload_n 2, 1) := by decide +kernel
theorem dL_areEchoesRight_74 : decode cL_areEchoesRight 74 = .ok (.iload 7, 2) := by decide +kernel
theorem dL_areEchoesRight_76 : decode cL_areEchoesRight 76 = .ok (.ifCond .eq 7, 3) := by decide +kernel
theorem dL_areEchoesRight_79 : decode cL_areEchoesRight 79 = .ok (.iconst 1, 1) := by decide +kernel
theorem dL_areEchoesRight_80 : decode cL_areEchoesRight 80 = .ok (.goto 4, 3) := by decide +kernel
theorem dL_areEchoesRight_83 : decode cL_areEchoesRight 83 = .ok (.iconst 0, 1) := by decide +kernel
theorem dL_areEchoesRight_84 : decode cL_areEchoesRight 84 = .ok (.iadd, 1) := by decide +kernel
theorem dL_areEchoesRight_85 : decode cL_areEchoesRight 85 = .ok (.istore_n 2, 1) := by decide +kernel
theorem dL_areEchoesRight_86 : decode cL_areEchoesRight 86 = .ok (.iload_n 3, 1) := by decide +kernel
theorem dL_areEchoesRight_87 : decode cL_areEchoesRight 87 = .ok (.iload 7, 2) := by decide +kernel
theorem dL_areEchoesRight_89 : decode cL_areEchoesRight 89 = .ok (.ifCond .eq 13, 3) := by decide +kernel
theorem dL_areEchoesRight_92 : decode cL_areEchoesRight 92 = .ok (.aload_n 0, 1) := by decide +kernel
theorem dL_areEchoesRight_93 : decode cL_areEchoesRight 93 = .ok (.iload 6, 2) := by decide +kernel
theorem dL_areEchoesRight_95 : decode cL_areEchoesRight 95 = .ok (.iconst 1, 1) := by decide +kernel
theorem dL_areEchoesRight_96 : decode cL_areEchoesRight 96 = .ok (.invokevirtual 78, 3) := by decide +kernel
theorem dL_areEchoesRight_99 : decode cL_areEchoesRight 99 = .ok (.goto 4, 3) := by decide +kernel
theorem dL_areEchoesRight_102 : decode cL_areEchoesRight 102 = .ok (.iconst 0, 1) := by decide +kernel
theorem dL_areEchoesRight_103 : decode cL_areEchoesRight 103 = .ok (.iadd, 1) := by decide +kernel
theorem dL_areEchoesRight_104 : decode cL_areEchoesRight 104 = .ok (.istore_n 3, 1) := by decide +kernel
theorem dL_areEchoesRight_105 : decode cL_areEchoesRight 105 = .ok (.iload 4, 2) := by decide +kernel
theorem dL_areEchoesRight_107 : decode cL_areEchoesRight 107 = .ok (.aload_n 0, 1) := by decide +kernel
theorem dL_areEchoesRight_108 : decode cL_areEchoesRight 108 = .ok (.iload 6, 2) := by decide +kernel
theorem dL_areEchoesRight_110 : decode cL_areEchoesRight 110 = .ok (.iconst 4, 1) := by decide +kernel
theorem dL_areEchoesRight_111 : decode cL_areEchoesRight 111 = .ok (.invokevirtual 78, 3) := by decide +kernel
theorem dL_areEchoesRight_114 : decode cL_areEchoesRight 114 = .ok (.iadd, 1) := by decide +kernel
theorem dL_areEchoesRight_115 : decode cL_areEchoesRight 115 = .ok (.istore 4, 2) := by decide +kernel
theorem dL_areEchoesRight_117 : decode cL_areEchoesRight 117 = .ok (.iload 5, 2) := by decide +kernel
theorem dL_areEchoesRight_119 : decode cL_areEchoesRight 119 = .ok (.ifCond .eq 70, 3) := by decide +kernel
theorem dL_areEchoesRight_122 : decode cL_areEchoesRight 122 = .ok (.iload 7, 2) := by decide +kernel
theorem dL_areEchoesRight_124 : decode cL_areEchoesRight 124 = .ok (.aload_n 0, 1) := by decide +kernel
theorem dL_areEchoesRight_125 : decode cL_areEchoesRight 125 = .ok (.iload 6, 2) := by decide +kernel
theorem dL_areEchoesRight_127 : decode cL_areEchoesRight 127 = .ok (.iconst 3, 1) := by decide +kernel
theorem dL_areEchoesRight_128 : decode cL_areEchoesRight 128 = .ok (.invokevirtual 78, 3) := by decide +kernel
theorem dL_areEchoesRight_131 : decode cL_areEchoesRight 131 = .ok (.ifCond .le 7, 3) := by decide +kernel
theorem dL_areEchoesRight_134 : decode cL_areEchoesRight 134 = .ok (.iconst 1, 1) := by decide +kernel
theorem dL_areEchoesRight_135 : decode cL_areEchoesRight 135 = .ok (.goto 4, 3) := by decide +kernel
theorem dL_areEchoesRight_138 : decode cL_areEchoesRight 138 = .ok (.iconst 0, 1) := by decide +kernel
theorem dL_areEchoesRight_139 : decode cL_areEchoesRight 139 = .ok (.if_icmp .ne 50, 3) := by decide +kernel
theorem dL_areEchoesRight_142 : decode cL_areEchoesRight 142 = .ok (.aload_n 0, 1) := by decide +kernel
theorem dL_areEchoesRight_143 : decode cL_areEchoesRight 143 = .ok (.bipush 7, 2) := by decide +kernel
theorem dL_areEchoesRight_145 : decode cL_areEchoesRight 145 = .ok (.iload 6, 2) := by decide +kernel
theorem dL_areEchoesRight_147 : decode cL_areEchoesRight 147 = .ok (.iconst 0, 1) := by decide +kernel
theorem dL_areEchoesRight_148 : decode cL_areEchoesRight 148 = .ok (.invokestatic 138, 3) := by decide +kernel
theorem dL_areEchoesRight_151 : decode cL_areEchoesRight 151 = .ok (.iload 7, 2) := by decide +kernel
theorem dL_areEchoesRight_153 : decode cL_areEchoesRight 153 = .ok (.ifCond .eq 12, 3) := by decide +kernel
theorem dL_areEchoesRight_156 : decode cL_areEchoesRight 156 = .ok (.aload_n 0, 1) := by decide +kernel
theorem dL_areEchoesRight_157 : decode cL_areEchoesRight 157 = .ok (.iload 6, 2) := by decide +kernel
theorem dL_areEchoesRight_159 : decode cL_areEchoesRight 159 = .ok (.invokestatic 178, 3) := by decide +kernel
theorem dL_areEchoesRight_162 : decode cL_areEchoesRight 162 = .ok (.goto 6, 3) := by decide +kernel
theorem dL_areEchoesRight_165 : decode cL_areEchoesRight 165 = .ok (.sipush (-2004), 3) := by decide +kernel
theorem dL_areEchoesRight_168 : decode cL_areEchoesRight 168 = .ok (.if_icmp .ne 21, 3) := by decide +kernel
theorem dL_areEchoesRight_171 : decode cL_areEchoesRight 171 = .ok (.aload_n 0, 1) := by decide +kernel
theorem dL_areEchoesRight_172 : decode cL_areEchoesRight 172 = .ok (.iconst 1, 1) := by decide +kernel
theorem dL_areEchoesRight_173 : decode cL_areEchoesRight 173 = .ok (.iload 6, 2) := by decide +kernel
theorem dL_areEchoesRight_175 : decode cL_areEchoesRight 175 = .ok (.iconst 5, 1) := by decide +kernel
theorem dL_areEchoesRight_176 : decode cL_areEchoesRight 176 = .ok (.invokestatic 138, 3) := by decide +kernel
theorem dL_areEchoesRight_179 : decode cL_areEchoesRight 179 = .ok (.sipush (-2003), 3) := by decide +kernel
theorem dL_areEchoesRight_182 : decode cL_areEchoesRight 182 = .ok (.if_icmp .ne 7, 3) := by decide +kernel
theorem dL_areEchoesRight_185 : decode cL_areEchoesRight 185 = .ok (.iconst 1, 1) := by decide +kernel
theorem dL_areEchoesRight_186 : decode cL_areEchoesRight 186 = .ok (.goto 4, 3) := by decide +kernel
theorem dL_areEchoesRight_189 : decode cL_areEchoesRight 189 = .ok (.iconst 0, 1) := by decide +kernel
theorem dL_areEchoesRight_190 : decode cL_areEchoesRight 190 = .ok (.istore 5, 2) := by decide +kernel
theorem dL_areEchoesRight_192 : decode cL_areEchoesRight 192 = .ok (.iinc 6 1, 3) := by decide +kernel
theorem dL_areEchoesRight_195 : decode cL_areEchoesRight 195 = .ok (.goto (-145), 3) := by decide +kernel
theorem dL_areEchoesRight_198 : decode cL_areEchoesRight 198 = .ok (.iconst 0, 1) := by decide +kernel
theorem dL_areEchoesRight_199 : decode cL_areEchoesRight 199 = .ok (.istore 6, 2) := by decide +kernel
theorem dL_areEchoesRight_201 : decode cL_areEchoesRight 201 = .ok (.iload 6, 2) := by decide +kernel
theorem dL_areEchoesRight_203 : decode cL_areEchoesRight 203 = .ok (.iconst 1, 1) := by decide +kernel
theorem dL_areEchoesRight_204 : decode cL_areEchoesRight 204 = .ok (.iadd, 1) := by decide +kernel
theorem dL_areEchoesRight_205 : decode cL_areEchoesRight 205 = .ok (.iload_n 1, 1) := by decide +kernel
theorem dL_areEchoesRight_206 : decode cL_areEchoesRight 206 = .ok (.if_icmp .ge 124, 3) := by decide +kernel
theorem dL_areEchoesRight_209 : decode cL_areEchoesRight 209 = .ok (.aload_n 0, 1) := by decide +kernel
theorem dL_areEchoesRight_210 : decode cL_areEchoesRight 210 = .ok (.iload 6, 2) := by decide +kernel
theorem dL_areEchoesRight_212 : decode cL_areEchoesRight 212 = .ok (.invokevirtual 105, 3) := by decide +kernel
theorem dL_areEchoesRight_215 : decode cL_areEchoesRight 215 = .ok (.istore 7, 2) := by decide +kernel
theorem dL_areEchoesRight_217 : decode cL_areEchoesRight 217 = .ok (.aload_n 0, 1) := by decide +kernel
theorem dL_areEchoesRight_218 : decode cL_areEchoesRight 218 = .ok (.iload 6, 2) := by decide +kernel
theorem dL_areEchoesRight_220 : decode cL_areEchoesRight 220 = .ok (.iconst 1, 1) := by decide +kernel
theorem dL_areEchoesRight_221 : decode cL_areEchoesRight 221 = .ok (.iadd, 1) := by decide +kernel
theorem dL_areEchoesRight_222 : decode cL_areEchoesRight 222 = .ok (.invokevirtual 105, 3) := by decide +kernel
theorem dL_areEchoesRight_225 : decode cL_areEchoesRight 225 = .ok (.istore 8, 2) := by decide +kernel
theorem dL_areEchoesRight_227 : decode cL_areEchoesRight 227 = .ok (.aload_n 0, 1) := by decide +kernel
theorem dL_areEchoesRight_228 : decode cL_areEchoesRight 228 = .ok (.iload 7, 2) := by decide +kernel
theorem dL_areEchoesRight_230 : decode cL_areEchoesRight 230 = .ok (.iconst 1, 1) := by decide +kernel
theorem dL_areEchoesRight_231 : decode cL_areEchoesRight 231 = .ok (.invokevirtual 78, 3) := by decide +kernel
theorem dL_areEchoesRight_234 : decode cL_areEchoesRight 234 = .ok (.aload_n 0, 1) := by decide +kernel
theorem dL_areEchoesRight_235 : decode cL_areEchoesRight 235 = .ok (.iload 8, 2) := by decide +kernel
theorem dL_areEchoesRight_237 : decode cL_areEchoesRight 237 = .ok (.iconst 1, 1) := by decide +kernel
theorem dL_areEchoesRight_238 : decode cL_areEchoesRight 238 = .ok (.invokevirtual 78, 3) := by decide +kernel
theorem dL_areEchoesRight_241 : decode cL_areEchoesRight 241 = .ok (.isub, 1) := by decide +kernel
theorem dL_areEchoesRight_242 : decode cL_areEchoesRight 242 = .ok (.istore 9, 2) := by decide +kernel
theorem dL_areEchoesRight_244 : decode cL_areEchoesRight 244 = .ok (.aload_n 0, 1) := by decide +kernel
theorem dL_areEchoesRight_245 : decode cL_areEchoesRight 245 = .ok (.iload 7, 2) := by decide +kernel
theorem dL_areEchoesRight_247 : decode cL_areEchoesRight 247 = .ok (.iconst 2, 1) := by decide +kernel
theorem dL_areEchoesRight_248 : decode cL_areEchoesRight 248 = .ok (.invokevirtual 78, 3) := by decide +kernel
theorem dL_areEchoesRight_251 : decode cL_areEchoesRight 251 = .ok (.ifCond .ge 7, 3) := by decide +kernel
theorem dL_areEchoesRight_254 : decode cL_areEchoesRight 254 = .ok (.iconst 1, 1) := by decide +kernel
theorem dL_areEchoesRight_255 : decode cL_areEchoesRight 255 = .ok (.goto 4, 3) := by decide +kernel
theorem dL_areEchoesRight_258 : decode cL_areEchoesRight 258 = .ok (.iconst 0, 1) := by decide +kernel
theorem dL_areEchoesRight_259 : decode cL_areEchoesRight 259 = .ok (.istore 10, 2) := by decide +kernel
theorem dL_areEchoesRight_261 : decode cL_areEchoesRight 261 = .ok (.aload_n 0, 1) := by decide +kernel
theorem dL_areEchoesRight_262 : decode cL_areEchoesRight 262 = .ok (.iload 8, 2) := by decide +kernel
theorem dL_areEchoesRight_264 : decode cL_areEchoesRight 264 = .ok (.iconst 2, 1) := by decide +kernel
theorem dL_areEchoesRight_265 : decode cL_areEchoesRight 265 = .ok (.invokevirtual 78, 3) := by decide +kernel
theorem dL_areEchoesRight_268 : decode cL_areEchoesRight 268 = .ok (.ifCond .ge 7, 3) := by decide +kernel
theorem dL_areEchoesRight_271 : decode cL_areEchoesRight 271 = .ok (.iconst 1, 1) := by decide +kernel
theorem dL_areEchoesRight_272 : decode cL_areEchoesRight 272 = .ok (.goto 4, 3) := by decide +kernel
theorem dL_areEchoesRight_275 : decode cL_areEchoesRight 275 = .ok (.iconst 0, 1) := by decide +kernel
theorem dL_areEchoesRight_276 : decode cL_areEchoesRight 276 = .ok (.istore 11, 2) := by decide +kernel
theorem dL_areEchoesRight_278 : decode cL_areEchoesRight 278 = .ok (.iload 5, 2) := by decide +kernel
theorem dL_areEchoesRight_280 : decode cL_areEchoesRight 280 = .ok (.ifCond .eq 41, 3) := by decide +kernel
theorem dL_areEchoesRight_283 : decode cL_areEchoesRight 283 = .ok (.iload 9, 2) := by decide +kernel
theorem dL_areEchoesRight_285 : decode cL_areEchoesRight 285 = .ok (.ifCond .gt 32, 3) := by decide +kernel
theorem dL_areEchoesRight_288 : decode cL_areEchoesRight 288 = .ok (.iload 9, 2) := by decide +kernel
theorem dL_areEchoesRight_290 : decode cL_areEchoesRight 290 = .ok (.ifCond .ne 31, 3) := by decide +kernel
theorem dL_areEchoesRight_293 : decode cL_areEchoesRight 293 = .ok (.iload 10, 2) := by decide +kernel
theorem dL_areEchoesRight_295 : decode cL_areEchoesRight 295 = .ok (.ifCond .eq 8, 3) := by decide +kernel
theorem dL_areEchoesRight_298 : decode cL_areEchoesRight 298 = .ok (.iload 11, 2) := by decide +kernel
theorem dL_areEchoesRight_300 : decode cL_areEchoesRight 300 = .ok (.ifCond .eq 17, 3) := by decide +kernel
theorem dL_areEchoesRight_303 : decode cL_areEchoesRight 303 = .ok (.iload 10, 2) := by decide +kernel
theorem dL_areEchoesRight_305 : decode cL_areEchoesRight 305 = .ok (.iload 11, 2) := by decide +kernel
theorem dL_areEchoesRight_307 : decode cL_areEchoesRight 307 = .ok (.if_icmp .ne 14, 3) := by decide +kernel
theorem dL_areEchoesRight_310 : decode cL_areEchoesRight 310 = .ok (.iload 7, 2) := by decide +kernel
theorem dL_areEchoesRight_312 : decode cL_areEchoesRight 312 = .ok (.iload 8, 2) := by decide +kernel
theorem dL_areEchoesRight_314 : decode cL_areEchoesRight 314 = .ok (.if_icmp .ge 7, 3) := by decide +kernel
theorem dL_areEchoesRight_317 : decode cL_areEchoesRight 317 = .ok (.iconst 1, 1) := by decide +kernel
theorem dL_areEchoesRight_318 : decode cL_areEchoesRight 318 = .ok (.goto 4, 3) := by decide +kernel
theorem dL_areEchoesRight_321 : decode cL_areEchoesRight 321 = .ok (.iconst 0, 1) := by decide +kernel
theorem dL_areEchoesRight_322 : decode cL_areEchoesRight 322 = .ok (.istore 5, 2) := by decide +kernel
theorem dL_areEchoesRight_324 : decode cL_areEchoesRight 324 = .ok (.iinc 6 1, 3) := by decide +kernel
theorem dL_areEchoesRight_327 : decode cL_areEchoesRight 327 = .ok (.goto (-126), 3) := by decide +kernel
theorem dL_areEchoesRight_330 : decode cL_areEchoesRight 330 = .ok (.iload 5, 2) := by decide +kernel
theorem dL_areEchoesRight_332 : decode cL_areEchoesRight 332 = .ok (.ifCond .eq 68, 3) := by decide +kernel
theorem dL_areEchoesRight_335 : decode cL_areEchoesRight 335 = .ok (.aload_n 0, 1) := by decide +kernel
theorem dL_areEchoesRight_336 : decode cL_areEchoesRight 336 = .ok (.iconst 3, 1) := by decide +kernel
theorem dL_areEchoesRight_337 : decode cL_areEchoesRight 337 = .ok (.invokevirtual 127, 3) := by decide +kernel
theorem dL_areEchoesRight_340 : decode cL_areEchoesRight 340 = .ok (.iload_n 2, 1) := by decide +kernel
theorem dL_areEchoesRight_341 : decode cL_areEchoesRight 341 = .ok (.if_icmp .ne 59, 3) := by decide +kernel
theorem dL_areEchoesRight_344 : decode cL_areEchoesRight 344 = .ok (.aload_n 0, 1) := by decide +kernel
theorem dL_areEchoesRight_345 : decode cL_areEchoesRight 345 = .ok (.bipush 11, 2) := by decide +kernel
theorem dL_areEchoesRight_347 : decode cL_areEchoesRight 347 = .ok (.invokevirtual 127, 3) := by decide +kernel
theorem dL_areEchoesRight_350 : decode cL_areEchoesRight 350 = .ok (.iload_n 3, 1) := by decide +kernel
theorem dL_areEchoesRight_351 : decode cL_areEchoesRight 351 = .ok (.if_icmp .ne 49, 3) := by decide +kernel
theorem dL_areEchoesRight_354 : decode cL_areEchoesRight 354 = .ok (.aload_n 0, 1) := by decide +kernel
theorem dL_areEchoesRight_355 : decode cL_areEchoesRight 355 = .ok (.bipush 8, 2) := by decide +kernel
theorem dL_areEchoesRight_357 : decode cL_areEchoesRight 357 = .ok (.invokevirtual 127, 3) := by decide +kernel
theorem dL_areEchoesRight_360 : decode cL_areEchoesRight 360 = .ok (.aload_n 0, 1) := by decide +kernel
theorem dL_areEchoesRight_361 : decode cL_areEchoesRight 361 = .ok (.bipush 9, 2) := by decide +kernel
theorem dL_areEchoesRight_363 : decode cL_areEchoesRight 363 = .ok (.invokevirtual 127, 3) := by decide +kernel
theorem dL_areEchoesRight_366 : decode cL_areEchoesRight 366 = .ok (.aload_n 0, 1) := by decide +kernel
theorem dL_areEchoesRight_367 : decode cL_areEchoesRight 367 = .ok (.bipush 10, 2) := by decide +kernel
theorem dL_areEchoesRight_369 : decode cL_areEchoesRight 369 = .ok (.invokevirtual 127, 3) := by decide +kernel
theorem dL_areEchoesRight_372 : decode cL_areEchoesRight 372 = .ok (.iadd, 1) := by decide +kernel
theorem dL_areEchoesRight_373 : decode cL_areEchoesRight 373 = .ok (.iload_n 3, 1) := by decide +kernel
theorem dL_areEchoesRight_374 : decode cL_areEchoesRight 374 = .ok (.iadd, 1) := by decide +kernel
theorem dL_areEchoesRight_375 : decode cL_areEchoesRight 375 = .ok (.if_icmp .ne 25, 3) := by decide +kernel
theorem dL_areEchoesRight_378 : decode cL_areEchoesRight 378 = .ok (.aload_n 0, 1) := by decide +kernel
theorem dL_areEchoesRight_379 : decode cL_areEchoesRight 379 = .ok (.bipush 7, 2) := by decide +kernel
theorem dL_areEchoesRight_381 : decode cL_areEchoesRight 381 = .ok (.invokevirtual 127, 3) := by decide +kernel
theorem dL_areEchoesRight_384 : decode cL_areEchoesRight 384 = .ok (.iload 4, 2) := by decide +kernel
theorem dL_areEchoesRight_386 : decode cL_areEchoesRight 386 = .ok (.if_icmp .ne 14, 3) := by decide +kernel
theorem dL_areEchoesRight_389 : decode cL_areEchoesRight 389 = .ok (.aload_n 0, 1) := by decide +kernel
theorem dL_areEchoesRight_390 : decode cL_areEchoesRight 390 = .ok (.invokevirtual 181, 3) := by decide +kernel
theorem dL_areEchoesRight_393 : decode cL_areEchoesRight 393 = .ok (.ifCond .eq 7, 3) := by decide +kernel
theorem dL_areEchoesRight_396 : decode cL_areEchoesRight 396 = .ok (.iconst 1, 1) := by decide +kernel
theorem dL_areEchoesRight_397 : decode cL_areEchoesRight 397 = .ok (.goto 4, 3) := by decide +kernel
theorem dL_areEchoesRight_400 : decode cL_areEchoesRight 400 = .ok (.iconst 0, 1) := by decide +kernel
theorem dL_areEchoesRight_401 : decode cL_areEchoesRight 401 = .ok (.istore 5, 2) := by decide +kernel
theorem dL_areEchoesRight_403 : decode cL_areEchoesRight 403 = .ok (.iload 5, 2) := by decide +kernel
theorem dL_areEchoesRight_405 : decode cL_areEchoesRight 405 = .ok (.ifCond .eq 24, 3) := by decide +kernel
theorem dL_areEchoesRight_408 : decode cL_areEchoesRight 408 = .ok (.iload_n 1, 1) := by decide +kernel
theorem dL_areEchoesRight_409 : decode cL_areEchoesRight 409 = .ok (.ifCond .eq 16, 3) := by decide +kernel
theorem dL_areEchoesRight_412 : decode cL_areEchoesRight 412 = .ok (.aload_n 0, 1) := by decide +kernel
theorem dL_areEchoesRight_413 : decode cL_areEchoesRight 413 = .ok (.invokevirtual 185, 3) := by decide +kernel
theorem dL_areEchoesRight_416 : decode cL_areEchoesRight 416 = .ok (.iload_n 2, 1) := by decide +kernel
theorem dL_areEchoesRight_417 : decode cL_areEchoesRight 417 = .ok (.i2f, 1) := by decide +kernel
theorem dL_areEchoesRight_418 : decode cL_areEchoesRight 418 = .ok (.iload_n 1, 1) := by decide +kernel
theorem dL_areEchoesRight_419 : decode cL_areEchoesRight 419 = .ok (.i2f, 1) := by decide +kernel
theorem dL_areEchoesRight_420 : decode cL_areEchoesRight 420 = .ok (.fdiv, 1) := by decide +kernel
theorem dL_areEchoesRight_421 : decode cL_areEchoesRight 421 = .ok (.fcmp .l, 1) := by decide +kernel
theorem dL_areEchoesRight_422 : decode cL_areEchoesRight 422 = .ok (.ifCond .ne 7, 3) := by decide +kernel
theorem dL_areEchoesRight_425 : decode cL_areEchoesRight 425 = .ok (.iconst 1, 1) := by decide +kernel
theorem dL_areEchoesRight_426 : decode cL_areEchoesRight 426 = .ok (.goto 4, 3) := by decide +kernel
theorem dL_areEchoesRight_429 : decode cL_areEchoesRight 429 = .ok (.iconst 0, 1) := by decide +kernel
theorem dL_areEchoesRight_430 : decode cL_areEchoesRight 430 = .ok (.ireturn, 1) := by decide +kernel
theorem sm_L_areEchoesRight : aSm yL_areEchoesRight cL_areEchoesRight 12 (some .boolean) 1 := ⟨tw_1078, tw_1077, tw_0, by decide +kernel, by decide +kernel, by decide +kernel⟩
theorem dL_areRanksRight_0 : decode cL_areRanksRight 0 = .ok (.aload_n 0, 1) := by decide +kernel
theorem dL_areRanksRight_1 : decode cL_areRanksRight 1 = .ok (.iconst 2, 1) := by decide +kernel
theorem dL_areRanksRight_2 : decode cL_areRanksRight 2 = .ok (.invokevirtual 127, 3) := by decide +kernel
theorem dL_areRanksRight_5 : decode cL_areRanksRight 5 = .ok (.istore_n 1, 1) := by decide +kernel
theorem dL_areRanksRight_6 : decode cL_areRanksRight 6 = .ok (.aload_n 0, 1) := by decide +kernel
theorem dL_areRanksRight_7 : decode cL_areRanksRight 7 = .ok (.bipush 9, 2) := by decide +kernel
theorem dL_areRanksRight_9 : decode cL_areRanksRight 9 = .ok (.iconst 4, 1) := by decide +kernel
theorem dL_areRanksRight_10 : decode cL_areRanksRight 10 = .ok (.iconst 0, 1) := by decide +kernel
theorem dL_areRanksRight_11 : decode cL_areRanksRight 11 = .ok (.invokestatic 138, 3) := by decide +kernel
theorem dL_areRanksRight_14 : decode cL_areRanksRight 14 = .ok (.sipush (-2003), 3) := by decide +kernel
theorem dL_areRanksRight_17 : decode cL_areRanksRight 17 = .ok (.if_icmp .ne 35, 3) := by decide +kernel
theorem dL_areRanksRight_20 : decode cL_areRanksRight 20 = .ok (.aload_n 0, 1) := by decide +kernel
theorem dL_areRanksRight_21 : decode cL_areRanksRight 21 = .ok (.bipush 9, 2) := by decide +kernel
theorem dL_areRanksRight_23 : decode cL_areRanksRight 23 = .ok (.iconst (-1), 1) := by decide +kernel
theorem dL_areRanksRight_24 : decode cL_areRanksRight 24 = .ok (.iconst 0, 1) := by decide +kernel
theorem dL_areRanksRight_25 : decode cL_areRanksRight 25 = .ok (.invokestatic 138, 3) := by decide +kernel
theorem dL_areRanksRight_28 : decode cL_areRanksRight 28 = .ok (.sipush (-2003), 3) := by decide +kernel
theorem dL_areRanksRight_31 : decode cL_areRanksRight 31 = .ok (.if_icmp .ne 21, 3) := by decide +kernel
theorem dL_areRanksRight_34 : decode cL_areRanksRight 34 = .ok (.aload_n 0, 1) := by decide +kernel
theorem dL_areRanksRight_35 : decode cL_areRanksRight 35 = .ok (.bipush 9, 2) := by decide +kernel
theorem dL_areRanksRight_37 : decode cL_areRanksRight 37 = .ok (.iconst 0, 1) := by decide +kernel
theorem dL_areRanksRight_38 : decode cL_areRanksRight 38 = .ok (.iload_n 1, 1) := by decide +kernel
theorem dL_areRanksRight_39 : decode cL_areRanksRight 39 = .ok (.invokestatic 138, 3) := by decide +kernel
theorem dL_areRanksRight_42 : decode cL_areRanksRight 42 = .ok (.sipush (-2004), 3) := by decide +kernel
theorem dL_areRanksRight_45 : decode cL_areRanksRight 45 = .ok (.if_icmp .ne 7, 3) := by decide +kernel
theorem dL_areRanksRight_48 : decode cL_areRanksRight 48 = .ok (.iconst 1, 1) := by decide +kernel
theorem dL_areRanksRight_49 : decode cL_areRanksRight 49 = .ok (.goto 4, 3) := by decide +kernel
theorem dL_areRanksRight_52 : decode cL_areRanksRight 52 = .ok (.iconst 0, 1) := by decide +kernel
theorem dL_areRanksRight_53 : decode cL_areRanksRight 53 = .ok (.istore_n 2, 1) := by decide +kernel
theorem dL_areRanksRight_54 : decode cL_areRanksRight 54 = .ok (.iconst 0, 1) := by decide +kernel
theorem dL_areRanksRight_55 : decode cL_areRanksRight 55 = .ok (.istore_n 3, 1) := by decide +kernel
theorem dL_areRanksRight_56 : decode cL_areRanksRight 56 = .ok (.iload_n 3, 1) := by decide +kernel
theorem dL_areRanksRight_57 : decode cL_areRanksRight 57 = .ok (.iconst 4, 1) := by decide +kernel
theorem dL_areRanksRight_58 : decode cL_areRanksRight 58 = .ok (.iload_n 1, 1) := by decide +kernel
theorem dL_areRanksRight_59 : decode cL_areRanksRight 59 = .ok (.iconst 1, 1) := by decide +kernel
theorem dL_areRanksRight_60 : decode cL_areRanksRight 60 = .ok (.isub, 1) := by decide +kernel
theorem dL_areRanksRight_61 : decode cL_areRanksRight 61 = .ok (.imul, 1) := by decide +kernel
theorem dL_areRanksRight_62 : decode cL_areRanksRight 62 = .ok (.if_icmp .ge 83, 3) := by decide +kernel
theorem dL_areRanksRight_65 : decode cL_areRanksRight 65 = .ok (.aload_n 0, 1) := by decide +kernel
theorem dL_areRanksRight_66 : decode cL_areRanksRight 66 = .ok (.iload_n 3, 1) := by decide +kernel
theorem dL_areRanksRight_67 : decode cL_areRanksRight 67 = .ok (.iconst 4, 1) := by decide +kernel
theorem dL_areRanksRight_68 : decode cL_areRanksRight 68 = .ok (.irem, 1) := by decide +kernel
theorem dL_areRanksRight_69 : decode cL_areRanksRight 69 = .ok (.iload_n 3, 1) := by decide +kernel
theorem dL_areRanksRight_70 : decode cL_areRanksRight 70 = .ok (.iconst 4, 1) := by decide +kernel
theorem dL_areRanksRight_71 : decode cL_areRanksRight 71 = .ok (.idiv, 1) := by decide +kernel
theorem dL_areRanksRight_72 : decode cL_areRanksRight 72 = .ok (.invokevirtual 102, 3) := by decide +kernel
theorem dL_areRanksRight_75 : decode cL_areRanksRight 75 = .ok (.istore 4, 2) := by decide +kernel
theorem dL_areRanksRight_77 : decode cL_areRanksRight 77 = .ok (.aload_n 0, 1) := by decide +kernel
theorem dL_areRanksRight_78 : decode cL_areRanksRight 78 = .ok (.iload_n 3, 1) := by decide +kernel
theorem dL_areRanksRight_79 : decode cL_areRanksRight 79 = .ok (.iconst 4, 1) := by decide +kernel
theorem dL_areRanksRight_80 : decode cL_areRanksRight 80 = .ok (.irem, 1) := by decide +kernel
theorem dL_areRanksRight_81 : decode cL_areRanksRight 81 = .ok (.iload_n 3, 1) := by decide +kernel
theorem dL_areRanksRight_82 : decode cL_areRanksRight 82 = .ok (.iconst 4, 1) := by decide +kernel
theorem dL_areRanksRight_83 : decode cL_areRanksRight 83 = .ok (.idiv, 1) := by decide +kernel
theorem dL_areRanksRight_84 : decode cL_areRanksRight 84 = .ok (.iconst 1, 1) := by decide +kernel
theorem dL_areRanksRight_85 : decode cL_areRanksRight 85 = .ok (.iadd, 1) := by decide +kernel
theorem dL_areRanksRight_86 : decode cL_areRanksRight 86 = .ok (.invokevirtual 102, 3) := by decide +kernel
theorem dL_areRanksRight_89 : decode cL_areRanksRight 89 = .ok (.istore 5, 2) := by decide +kernel
theorem dL_areRanksRight_91 : decode cL_areRanksRight 91 = .ok (.aload_n 0, 1) := by decide +kernel
theorem dL_areRanksRight_92 : decode cL_areRanksRight 92 = .ok (.iload 4, 2) := by decide +kernel
theorem dL_areRanksRight_94 : decode cL_areRanksRight 94 = .ok (.iload_n 3, 1) := by decide +kernel
theorem dL_areRanksRight_95 : decode cL_areRanksRight 95 = .ok (.iconst 4, 1) := by decide +kernel
theorem dL_areRanksRight_96 : decode cL_areRanksRight 96 = .ok (.irem, 1) := by decide +kernel
theorem dL_areRanksRight_97 : decode cL_areRanksRight 97 = .ok (.invokestatic 189, 3) := by decide +kernel
theorem dL_areRanksRight_100 : decode cL_areRanksRight 100 = .ok (.aload_n 0, 1) := by decide +kernel
theorem dL_areRanksRight_101 : decode cL_areRanksRight 101 = .ok (.iload 5, 2) := by decide +kernel
theorem dL_areRanksRight_103 : decode cL_areRanksRight 103 = .ok (.iload_n 3, 1) := by decide +kernel
theorem dL_areRanksRight_104 : decode cL_areRanksRight 104 = .ok (.iconst 4, 1) := by decide +kernel
theorem dL_areRanksRight_105 : decode cL_areRanksRight 105 = .ok (.irem, 1) := by decide +kernel
theorem dL_areRanksRight_106 : decode cL_areRanksRight 106 = .ok (.invokestatic 189, 3) := by decide +kernel
theorem dL_areRanksRight_109 : decode cL_areRanksRight 109 = .ok (.isub, 1) := by decide +kernel
theorem dL_areRanksRight_110 : decode cL_areRanksRight 110 = .ok (.istore 6, 2) := by decide +kernel
theorem dL_areRanksRight_112 : decode cL_areRanksRight 112 = .ok (.iload_n 2, 1) := by decide +kernel
theorem dL_areRanksRight_113 : decode cL_areRanksRight 113 = .ok (.ifCond .eq 24, 3) := by decide +kernel
theorem dL_areRanksRight_116 : decode cL_areRanksRight 116 = .ok (.iload 6, 2) := by decide +kernel
theorem dL_areRanksRight_118 : decode cL_areRanksRight 118 = .ok (.ifCond .gt 15, 3) := by decide +kernel
theorem dL_areRanksRight_121 : decode cL_areRanksRight 121 = .ok (.iload 6, 2) := by decide +kernel
theorem dL_areRanksRight_123 : decode cL_areRanksRight 123 = .ok (.ifCond .ne 14, 3) := by decide +kernel
theorem dL_areRanksRight_126 : decode cL_areRanksRight 126 = .ok (.iload 4, 2) := by decide +kernel
theorem dL_areRanksRight_128 : decode cL_areRanksRight 128 = .ok (.iload 5, 2) := by decide +kernel
theorem dL_areRanksRight_130 : decode cL_areRanksRight 130 = .ok (.if_icmp .ge 7, 3) := by decide +kernel
theorem dL_areRanksRight_133 : decode cL_areRanksRight 133 = .ok (.iconst 1, 1) := by decide +kernel
theorem dL_areRanksRight_134 : decode cL_areRanksRight 134 = .ok (.goto 4, 3) := by decide +kernel
theorem dL_areRanksRight_137 : decode cL_areRanksRight 137 = .ok (.iconst 0, 1) := by decide +kernel
theorem dL_areRanksRight_138 : decode cL_areRanksRight 138 = .ok (.istore_n 2, 1) := by decide +kernel
theorem dL_areRanksRight_139 : decode cL_areRanksRight 139 = .ok (.iinc 3 1, 3) := by decide +kernel
theorem dL_areRanksRight_142 : decode cL_areRanksRight 142 = .ok (.goto (-86), 3) := by decide +kernel
theorem dL_areRanksRight_145 : decode cL_areRanksRight 145 = .ok (.iload_n 2, 1) := by decide +kernel
theorem dL_areRanksRight_146 : decode cL_areRanksRight 146 = .ok (.ireturn, 1) := by decide +kernel
theorem sm_L_areRanksRight : aSm yL_areRanksRight cL_areRanksRight 7 (some .boolean) 1 := ⟨tw_1097, tw_1096, tw_0, by decide +kernel, by decide +kernel, by decide +kernel⟩
def LL_singersIn_4 (c1 : Int32) (P : Int32 → aS → Prop) (K : Int32 → aS → Prop) : Nat → Int32 → Int32 → aS → Prop
  | 0, _, _, _ => False
  | N + 1, v2, v3, q => w_X9_account0 2 q (fun r2 q3 => ((r2 ≤ v3 → K v2 q3) ∧ (¬ r2 ≤ v3 → w_X9_singerOf0 v3 2 q3 (fun r4 q5 => ((¬ r4 = c1 → ∀ x6 : Int32, x6 = (v2 ||| 0) → ∀ x7 : Int32, x7 = v3 + 1 → (LL_singersIn_4 c1 P K N) x6 x7 q5) ∧ (r4 = c1 → ∀ x8 : Int32, x8 = (v2 ||| (1 <<< (v3 &&& 31))) → ∀ x9 : Int32, x9 = v3 + 1 → (LL_singersIn_4 c1 P K N) x8 x9 q5))))))
def w_L_singersIn (x1 : Int32) (q : aS) (P : Int32 → aS → Prop) : Prop := ∃ M12, LL_singersIn_4 x1 P (fun y10 q11 => P y10 q11) M12 0 0 q
def w_L_backOf (x1 : Int32) (q : aS) (P : Int32 → aS → Prop) : Prop := w_X9_echoOf0 x1 1 q (fun r2 q3 => w_X9_echoOf0 x1 0 q3 (fun r4 q5 => w_X9_roomOf0 r4 1 q5 (fun r6 q7 => P (if 0 < (r2 - r6) then (r2 - r6) else 0) q7)))
def JL_tones_54 (c1 : Int32) (c2 : Int32) (c3 : Int32) (j4 : Int32) (j5 : Int32) (s0 : Int32) (P : Int32 → aS → Prop) (B : Int32 → Int32 → aS → Prop) (K : Int32 → aS → Prop) (q : aS) : Prop := ((s0 = 0 → ∀ x8 : Int32, x8 = (j4 + 0) → ∀ x9 : Int32, x9 = j5 + 1 → B x8 x9 q) ∧ (¬ s0 = 0 → w_X9_echoOf0 j5 1 q (fun r10 q11 => w_X9_roomOf0 c2 1 q11 (fun r12 q13 => ∀ x14 : Int32, x14 = (j4 + (if 0 < (r10 - (if (r12 + c3) < 9 then (r12 + c3) else 9)) then (r10 - (if (r12 + c3) < 9 then (r12 + c3) else 9)) else 0)) → ∀ x15 : Int32, x15 = j5 + 1 → B x14 x15 q13))))
def JL_tones_53 (c1 : Int32) (c2 : Int32) (c3 : Int32) (j4 : Int32) (j5 : Int32) (P : Int32 → aS → Prop) (B : Int32 → Int32 → aS → Prop) (K : Int32 → aS → Prop) (q : aS) : Prop := JL_tones_54 c1 c2 c3 j4 j5 0 P B K q
def LL_tones_6 (c1 : Int32) (c2 : Int32) (c3 : Int32) (P : Int32 → aS → Prop) (K : Int32 → aS → Prop) : Nat → Int32 → Int32 → aS → Prop
  | 0, _, _, _ => False
  | N + 1, v4, v5, q => w_X9_account0 1 q (fun r4 q5 => ((r4 ≤ v5 → K v4 q5) ∧ (¬ r4 ≤ v5 → w_X9_echoOf0 v5 0 q5 (fun r6 q7 => ((¬ r6 = c2 → JL_tones_53 c1 c2 c3 v4 v5 P (LL_tones_6 c1 c2 c3 P K N) K q7) ∧ (r6 = c2 → w_X9_echoOf0 v5 2 q7 (fun r16 q17 => ((¬ r16 = c1 → JL_tones_53 c1 c2 c3 v4 v5 P (LL_tones_6 c1 c2 c3 P K N) K q17) ∧ (r16 = c1 → w_X9_echoOf0 v5 3 q17 (fun r18 q19 => ((r18 ≤ c3 → JL_tones_53 c1 c2 c3 v4 v5 P (LL_tones_6 c1 c2 c3 P K N) K q19) ∧ (¬ r18 ≤ c3 → JL_tones_54 c1 c2 c3 v4 v5 1 P (LL_tones_6 c1 c2 c3 P K N) K q19))))))))))))
def w_L_tones (x1 : Int32) (x2 : Int32) (x3 : Int32) (q : aS) (P : Int32 → aS → Prop) : Prop := ∃ M22, LL_tones_6 x1 x2 x3 P (fun y20 q21 => P y20 q21) M22 0 0 q
def w_L_rank (x1 : Int32) (x2 : Int32) (q : aS) (P : Int32 → aS → Prop) : Prop := ((¬ x2 = 0 → ((¬ x2 = 1 → ((¬ x2 = 2 → w_X9_singerOf0 x1 0 q (fun r3 q4 => P r3 q4)) ∧ (x2 = 2 → w_X9_singerOf0 x1 4 q (fun r5 q6 => P r5 q6)))) ∧ (x2 = 1 → w_X9_singerOf0 x1 5 q (fun r7 q8 => P r7 q8)))) ∧ (x2 = 0 → w_X9_singerOf0 x1 1 q (fun r9 q10 => P r9 q10)))
def JL_isSingerRight_152 (c1 : Int32) (c2 : Int32) (c3 : Int32) (c6 : Int32) (j4 : Int32) (j5 : Int32) (j7 : Int32) (j8 : Int32) (s0 : Int32) (P : Int32 → aS → Prop) (B : Int32 → Int32 → Int32 → Int32 → aS → Prop) (K : Int32 → Int32 → Int32 → aS → Prop) (q : aS) : Prop := ((j7 = 0 → ∀ x16 : Int32, x16 = j8 + 1 → B j4 j5 0 x16 q) ∧ (¬ j7 = 0 → w_X9_canRent0 c1 j8 q (fun r17 q18 => ((¬ r17 = s0 → ∀ x19 : Int32, x19 = j8 + 1 → B j4 j5 0 x19 q18) ∧ (r17 = s0 → ∀ x20 : Int32, x20 = j8 + 1 → B j4 j5 1 x20 q18)))))
def JL_isSingerRight_151 (c1 : Int32) (c2 : Int32) (c3 : Int32) (c6 : Int32) (j4 : Int32) (j5 : Int32) (j7 : Int32) (j8 : Int32) (P : Int32 → aS → Prop) (B : Int32 → Int32 → Int32 → Int32 → aS → Prop) (K : Int32 → Int32 → Int32 → aS → Prop) (q : aS) : Prop := JL_isSingerRight_152 c1 c2 c3 c6 j4 j5 j7 j8 0 P B K q
def JL_isSingerRight_107 (c1 : Int32) (c2 : Int32) (c3 : Int32) (c6 : Int32) (j4 : Int32) (j7 : Int32) (j8 : Int32) (s0 : Int32) (s1 : Int32) (P : Int32 → aS → Prop) (B : Int32 → Int32 → Int32 → Int32 → aS → Prop) (K : Int32 → Int32 → Int32 → aS → Prop) (q : aS) : Prop := ∀ x13 : Int32, x13 = (s1 + s0) → w_X9_echoOf0 j8 2 q (fun r14 q15 => ((0 ≤ r14 → JL_isSingerRight_151 c1 c2 c3 c6 j4 x13 j7 j8 P B K q15) ∧ (¬ 0 ≤ r14 → w_X9_echoOf0 j8 0 q15 (fun r21 q22 => ((¬ r21 = c3 → JL_isSingerRight_151 c1 c2 c3 c6 j4 x13 j7 j8 P B K q22) ∧ (r21 = c3 → w_X9_singerOf0 c1 1 q22 (fun r23 q24 => w_X9_echoOf0 j8 1 q24 (fun r25 q26 => ((r23 < r25 → JL_isSingerRight_151 c1 c2 c3 c6 j4 x13 j7 j8 P B K q26) ∧ (¬ r23 < r25 → JL_isSingerRight_152 c1 c2 c3 c6 j4 x13 j7 j8 1 P B K q26))))))))))
def JL_isSingerRight_86 (c1 : Int32) (c2 : Int32) (c3 : Int32) (c6 : Int32) (j5 : Int32) (j7 : Int32) (j8 : Int32) (j9 : Int32) (s0 : Int32) (s1 : Int32) (P : Int32 → aS → Prop) (B : Int32 → Int32 → Int32 → Int32 → aS → Prop) (K : Int32 → Int32 → Int32 → aS → Prop) (q : aS) : Prop := ∀ x12 : Int32, x12 = (s1 + s0) → ((j9 = 0 → JL_isSingerRight_107 c1 c2 c3 c6 x12 j7 j8 0 j5 P B K q) ∧ (¬ j9 = 0 → w_X9_echoOf0 j8 1 q (fun r27 q28 => JL_isSingerRight_107 c1 c2 c3 c6 x12 j7 j8 r27 j5 P B K q28)))
def JL_isSingerRight_72 (c1 : Int32) (c2 : Int32) (c3 : Int32) (c6 : Int32) (j4 : Int32) (j5 : Int32) (j7 : Int32) (j8 : Int32) (s0 : Int32) (P : Int32 → aS → Prop) (B : Int32 → Int32 → Int32 → Int32 → aS → Prop) (K : Int32 → Int32 → Int32 → aS → Prop) (q : aS) : Prop := ((s0 = 0 → JL_isSingerRight_86 c1 c2 c3 c6 j5 j7 j8 s0 0 j4 P B K q) ∧ (¬ s0 = 0 → JL_isSingerRight_86 c1 c2 c3 c6 j5 j7 j8 s0 1 j4 P B K q))
def LL_isSingerRight_46 (c1 : Int32) (c2 : Int32) (c3 : Int32) (c6 : Int32) (P : Int32 → aS → Prop) (K : Int32 → Int32 → Int32 → aS → Prop) : Nat → Int32 → Int32 → Int32 → Int32 → aS → Prop
  | 0, _, _, _, _, _ => False
  | N + 1, v4, v5, v7, v8, q => w_X9_account0 1 q (fun r8 q9 => ((r8 ≤ v8 → K v4 v5 v7 q9) ∧ (¬ r8 ≤ v8 → w_X9_echoOf0 v8 2 q9 (fun r10 q11 => ((¬ r10 = c1 → JL_isSingerRight_72 c1 c2 c3 c6 v4 v5 v7 v8 0 P (LL_isSingerRight_46 c1 c2 c3 c6 P K N) K q11) ∧ (r10 = c1 → JL_isSingerRight_72 c1 c2 c3 c6 v4 v5 v7 v8 1 P (LL_isSingerRight_46 c1 c2 c3 c6 P K N) K q11))))))
def JL_isSingerRight_285 (c1 : Int32) (c2 : Int32) (c3 : Int32) (c4 : Int32) (c5 : Int32) (j6 : Int32) (j8 : Int32) (s0 : Int32) (P : Int32 → aS → Prop) (B : Int32 → Int32 → Int32 → aS → Prop) (K : Int32 → Int32 → aS → Prop) (q : aS) : Prop := w_L_tones c1 j8 0 q (fun r37 q38 => w_L_tones c1 j6 0 q38 (fun r39 q40 => ((r37 ≤ r39 → ∀ x41 : Int32, x41 = j8 + 1 → B j6 s0 x41 q40) ∧ (¬ r37 ≤ r39 → ∀ x42 : Int32, x42 = j8 + 1 → B j8 s0 x42 q40))))
def JL_isSingerRight_284 (c1 : Int32) (c2 : Int32) (c3 : Int32) (c4 : Int32) (c5 : Int32) (j6 : Int32) (j8 : Int32) (P : Int32 → aS → Prop) (B : Int32 → Int32 → Int32 → aS → Prop) (K : Int32 → Int32 → aS → Prop) (q : aS) : Prop := JL_isSingerRight_285 c1 c2 c3 c4 c5 j6 j8 0 P B K q
def JL_isSingerRight_243 (c1 : Int32) (c2 : Int32) (c3 : Int32) (c4 : Int32) (c5 : Int32) (j6 : Int32) (j7 : Int32) (j8 : Int32) (s0 : Int32) (P : Int32 → aS → Prop) (B : Int32 → Int32 → Int32 → aS → Prop) (K : Int32 → Int32 → aS → Prop) (q : aS) : Prop := ((j7 = 0 → JL_isSingerRight_284 c1 c2 c3 c4 c5 j6 j8 P B K q) ∧ (¬ j7 = 0 → w_X9_canEnter0 c1 j8 q (fun r43 q44 => ((¬ r43 = s0 → JL_isSingerRight_284 c1 c2 c3 c4 c5 j6 j8 P B K q44) ∧ (r43 = s0 → w_X9_would0 c1 j8 q44 (fun r45 q46 => w_L_tones c1 j8 0 q46 (fun r47 q48 => ((¬ r45 = r47 → JL_isSingerRight_284 c1 c2 c3 c4 c5 j6 j8 P B K q48) ∧ (r45 = r47 → JL_isSingerRight_285 c1 c2 c3 c4 c5 j6 j8 1 P B K q48)))))))))
def JL_isSingerRight_242 (c1 : Int32) (c2 : Int32) (c3 : Int32) (c4 : Int32) (c5 : Int32) (j6 : Int32) (j7 : Int32) (j8 : Int32) (P : Int32 → aS → Prop) (B : Int32 → Int32 → Int32 → aS → Prop) (K : Int32 → Int32 → aS → Prop) (q : aS) : Prop := JL_isSingerRight_243 c1 c2 c3 c4 c5 j6 j7 j8 0 P B K q
def LL_isSingerRight_187 (c1 : Int32) (c2 : Int32) (c3 : Int32) (c4 : Int32) (c5 : Int32) (P : Int32 → aS → Prop) (K : Int32 → Int32 → aS → Prop) : Nat → Int32 → Int32 → Int32 → aS → Prop
  | 0, _, _, _, _ => False
  | N + 1, v6, v7, v8, q => ((c2 ≤ v8 → K v6 v7 q) ∧ (¬ c2 ≤ v8 → w_L_singersIn v8 q (fun r33 q34 => w_J6_bitCount_0f7a4 r33 q34 (fun r35 q36 => ((c3 = v8 → JL_isSingerRight_242 c1 c2 c3 c4 c5 v6 v7 v8 P (LL_isSingerRight_187 c1 c2 c3 c4 c5 P K N) K q36) ∧ (¬ c3 = v8 → w_X9_roomOf0 v8 0 q36 (fun r49 q50 => ((r49 ≤ r35 → JL_isSingerRight_242 c1 c2 c3 c4 c5 v6 v7 v8 P (LL_isSingerRight_187 c1 c2 c3 c4 c5 P K N) K q50) ∧ (¬ r49 ≤ r35 → w_X9_singerOf0 c1 0 q50 (fun r51 q52 => (((9 - r51) < (3 * r35) → JL_isSingerRight_242 c1 c2 c3 c4 c5 v6 v7 v8 P (LL_isSingerRight_187 c1 c2 c3 c4 c5 P K N) K q52) ∧ (¬ (9 - r51) < (3 * r35) → JL_isSingerRight_243 c1 c2 c3 c4 c5 v6 v7 v8 1 P (LL_isSingerRight_187 c1 c2 c3 c4 c5 P K N) K q52))))))))))))
def LL_isSingerRight_436 (c1 : Int32) (c3 : Int32) (c7 : Int32) (P : Int32 → aS → Prop) (K : Int32 → aS → Prop) : Nat → Int32 → aS → Prop
  | 0, _, _ => False
  | N + 1, v8, q => w_L_tones c1 c3 v8 q (fun r56 q57 => ((r56 ≤ 0 → K v8 q57) ∧ (¬ r56 ≤ 0 → ∀ x58 : Int32, x58 = v8 + 1 → (LL_isSingerRight_436 c1 c3 c7 P K N) x58 q57)))
def JL_isSingerRight_390 (j1 : Int32) (j3 : Int32) (s0 : Int32) (P : Int32 → aS → Prop) (q : aS) : Prop := ((0 ≤ j3 → ∃ M73, LL_isSingerRight_436 j1 j3 s0 P (fun y59 q60 => ((s0 = 0 → P 0 q60) ∧ (¬ s0 = 0 → w_X9_tones0 j1 q60 (fun r61 q62 => w_L_tones j1 j3 0 q62 (fun r63 q64 => ((¬ r61 = r63 → P 0 q64) ∧ (r61 = r63 → w_X9_tonesAgain0 j1 q64 (fun r65 q66 => w_L_tones j1 j3 0 q66 (fun r67 q68 => ((¬ r65 = r67 → P 0 q68) ∧ (r65 = r67 → w_X9_verses0 j1 q68 (fun r69 q70 => ((¬ r69 = y59 → P 0 q70) ∧ (r69 = y59 → w_X9_versesAgain0 j1 q70 (fun r71 q72 => ((¬ r71 = y59 → P 0 q72) ∧ (r71 = y59 → P 1 q72))))))))))))))))) M73 0 q) ∧ (¬ 0 ≤ j3 → ((s0 = 0 → P 0 q) ∧ (¬ s0 = 0 → w_L_ask 3 j1 0 q (fun r74 q75 => ((¬ r74 = (-2004) → P 0 q75) ∧ (r74 = (-2004) → w_L_ask 4 j1 0 q75 (fun r76 q77 => ((¬ r76 = (-2004) → P 0 q77) ∧ (r76 = (-2004) → P 1 q77))))))))))
def JL_isSingerRight_389 (j1 : Int32) (j3 : Int32) (P : Int32 → aS → Prop) (q : aS) : Prop := JL_isSingerRight_390 j1 j3 0 P q
def JL_isSingerRight_369 (j1 : Int32) (j2 : Int32) (j3 : Int32) (s0 : Int32) (s1 : Int32) (P : Int32 → aS → Prop) (q : aS) : Prop := ((¬ s1 = s0 → JL_isSingerRight_389 j1 j3 P q) ∧ (s1 = s0 → w_L_ask 5 j1 j2 q (fun r84 q85 => ((¬ r84 = (-2002) → JL_isSingerRight_389 j1 j3 P q85) ∧ (r84 = (-2002) → JL_isSingerRight_390 j1 j3 1 P q85)))))
def w_L_isSingerRight (x1 : Int32) (q : aS) (P : Int32 → aS → Prop) : Prop := w_X9_account0 0 q (fun r2 q3 => w_X9_singerOf0 x1 2 q3 (fun r4 q5 => w_L_ask 2 x1 7 q5 (fun r6 q7 => ((¬ r6 = (-2003) → ∃ M87, LL_isSingerRight_46 x1 r2 r4 0 P (fun y29 y30 y31 q32 => ∃ M86, LL_isSingerRight_187 x1 r2 r4 y29 y30 P (fun y53 y54 q55 => ((y54 = 0 → JL_isSingerRight_389 x1 r4 P q55) ∧ (¬ y54 = 0 → w_X9_singerOf0 x1 3 q55 (fun r78 q79 => ((¬ r78 = y29 → JL_isSingerRight_389 x1 r4 P q79) ∧ (r78 = y29 → w_X9_singerOf0 x1 6 q79 (fun r80 q81 => ((¬ r80 = y30 → JL_isSingerRight_389 x1 r4 P q81) ∧ (r80 = y30 → w_L_ask 6 x1 0 q81 (fun r82 q83 => ((¬ r2 = 0 → JL_isSingerRight_369 x1 r2 r4 y53 r82 P q83) ∧ (r2 = 0 → JL_isSingerRight_369 x1 r2 r4 (-2004) r82 P q83)))))))))))) M86 0 y31 0 q32) M87 0 0 0 0 q7) ∧ (r6 = (-2003) → ∃ M102, LL_isSingerRight_46 x1 r2 r4 0 P (fun y88 y89 y90 q91 => ∃ M101, LL_isSingerRight_187 x1 r2 r4 y88 y89 P (fun y92 y93 q94 => ((y93 = 0 → JL_isSingerRight_389 x1 r4 P q94) ∧ (¬ y93 = 0 → w_X9_singerOf0 x1 3 q94 (fun r95 q96 => ((¬ r95 = y88 → JL_isSingerRight_389 x1 r4 P q96) ∧ (r95 = y88 → w_X9_singerOf0 x1 6 q96 (fun r97 q98 => ((¬ r97 = y89 → JL_isSingerRight_389 x1 r4 P q98) ∧ (r97 = y89 → w_L_ask 6 x1 0 q98 (fun r99 q100 => ((¬ r2 = 0 → JL_isSingerRight_369 x1 r2 r4 y92 r99 P q100) ∧ (r2 = 0 → JL_isSingerRight_369 x1 r2 r4 (-2004) r99 P q100)))))))))))) M101 0 y90 0 q91) M102 0 0 1 0 q7)))))
def JL_areRoomsRight_117 (c1 : Int32) (c2 : Int32) (c3 : Int32) (c4 : Int32) (c5 : Int32) (j7 : Int32) (j8 : Int32) (j9 : Int32) (s0 : Int32) (s1 : Int32) (P : Int32 → aS → Prop) (B : Int32 → Int32 → Int32 → aS → Prop) (K : Int32 → Int32 → aS → Prop) (q : aS) : Prop := ∀ x9 : Int32, x9 = (s1 + s0) → ((j9 = 0 → ∀ x10 : Int32, x10 = (j7 ||| 0) → ∀ x11 : Int32, x11 = j8 + 1 → B x9 x10 x11 q) ∧ (¬ j9 = 0 → w_X9_echoOf0 j8 2 q (fun r12 q13 => ((0 ≤ r12 → ∀ x14 : Int32, x14 = (j7 ||| 0) → ∀ x15 : Int32, x15 = j8 + 1 → B x9 x14 x15 q13) ∧ (¬ 0 ≤ r12 → ∀ x16 : Int32, x16 = (j7 ||| (1 <<< (j8 &&& 31))) → ∀ x17 : Int32, x17 = j8 + 1 → B x9 x16 x17 q13)))))
def JL_areRoomsRight_103 (c1 : Int32) (c2 : Int32) (c3 : Int32) (c4 : Int32) (c5 : Int32) (j6 : Int32) (j7 : Int32) (j8 : Int32) (s0 : Int32) (P : Int32 → aS → Prop) (B : Int32 → Int32 → Int32 → aS → Prop) (K : Int32 → Int32 → aS → Prop) (q : aS) : Prop := ((s0 = 0 → JL_areRoomsRight_117 c1 c2 c3 c4 c5 j7 j8 s0 0 j6 P B K q) ∧ (¬ s0 = 0 → JL_areRoomsRight_117 c1 c2 c3 c4 c5 j7 j8 s0 1 j6 P B K q))
def LL_areRoomsRight_76 (c1 : Int32) (c2 : Int32) (c3 : Int32) (c4 : Int32) (c5 : Int32) (P : Int32 → aS → Prop) (K : Int32 → Int32 → aS → Prop) : Nat → Int32 → Int32 → Int32 → aS → Prop
  | 0, _, _, _, _ => False
  | N + 1, v6, v7, v8, q => w_X9_account0 1 q (fun r5 q6 => ((r5 ≤ v8 → K v6 v7 q6) ∧ (¬ r5 ≤ v8 → w_X9_echoOf0 v8 0 q6 (fun r7 q8 => ((¬ r7 = c5 → JL_areRoomsRight_103 c1 c2 c3 c4 c5 v6 v7 v8 0 P (LL_areRoomsRight_76 c1 c2 c3 c4 c5 P K N) K q8) ∧ (r7 = c5 → JL_areRoomsRight_103 c1 c2 c3 c4 c5 v6 v7 v8 1 P (LL_areRoomsRight_76 c1 c2 c3 c4 c5 P K N) K q8))))))
def LL_areRoomsRight_61 (c1 : Int32) (P : Int32 → aS → Prop) (K : Int32 → Int32 → Int32 → aS → Prop) : Nat → Int32 → Int32 → Int32 → Int32 → aS → Prop
  | 0, _, _, _, _, _ => False
  | N + 1, v2, v3, v4, v5, q => ((c1 ≤ v5 → K v2 v3 v4 q) ∧ (¬ c1 ≤ v5 → ∃ M65, LL_areRoomsRight_76 c1 v2 v3 v4 v5 P (fun y18 y19 q20 => w_X9_roomOf0 v5 1 q20 (fun r21 q22 => ∀ x23 : Int32, x23 = (v2 + r21) → w_X9_roomOf0 v5 5 q22 (fun r24 q25 => ∀ x26 : Int32, x26 = (v3 + r24) → ((v4 = 0 → ∀ x27 : Int32, x27 = v5 + 1 → (LL_areRoomsRight_61 c1 P K N) x23 x26 0 x27 q25) ∧ (¬ v4 = 0 → w_X9_others0 v5 q25 (fun r28 q29 => w_L_singersIn v5 q29 (fun r30 q31 => ((¬ r28 = r30 → ∀ x32 : Int32, x32 = v5 + 1 → (LL_areRoomsRight_61 c1 P K N) x23 x26 0 x32 q31) ∧ (r28 = r30 → w_X9_roomOf0 v5 2 q31 (fun r33 q34 => w_L_singersIn v5 q34 (fun r35 q36 => w_J6_bitCount_0f7a4 r35 q36 (fun r37 q38 => ((¬ r33 = r37 → ∀ x39 : Int32, x39 = v5 + 1 → (LL_areRoomsRight_61 c1 P K N) x23 x26 0 x39 q38) ∧ (r33 = r37 → w_X9_roomOf0 v5 3 q38 (fun r40 q41 => ((¬ r40 = y18 → ∀ x42 : Int32, x42 = v5 + 1 → (LL_areRoomsRight_61 c1 P K N) x23 x26 0 x42 q41) ∧ (r40 = y18 → w_X9_free0 v5 q41 (fun r43 q44 => ((¬ r43 = y19 → ∀ x45 : Int32, x45 = v5 + 1 → (LL_areRoomsRight_61 c1 P K N) x23 x26 0 x45 q44) ∧ (r43 = y19 → w_X9_roomOf0 v5 4 q44 (fun r46 q47 => w_J6_bitCount_0f7a4 y19 q47 (fun r48 q49 => ((¬ r46 = (y18 - r48) → ∀ x50 : Int32, x50 = v5 + 1 → (LL_areRoomsRight_61 c1 P K N) x23 x26 0 x50 q49) ∧ (r46 = (y18 - r48) → w_X9_dryIn0 v5 q49 (fun r51 q52 => w_X9_roomOf0 v5 1 q52 (fun r53 q54 => (((2 * r51) < r53 → ∀ x55 : Int32, x55 = v5 + 1 → (LL_areRoomsRight_61 c1 P K N) x23 x26 0 x55 q54) ∧ (¬ (2 * r51) < r53 → w_X9_dryIn0 v5 q54 (fun r56 q57 => w_X9_roomOf0 v5 1 q57 (fun r58 q59 => (((r58 + 1) < (2 * r56) → ∀ x60 : Int32, x60 = v5 + 1 → (LL_areRoomsRight_61 c1 P K N) x23 x26 0 x60 q59) ∧ (¬ (r58 + 1) < (2 * r56) → w_L_ask 0 v5 6 q59 (fun r61 q62 => ((¬ r61 = (-2003) → ∀ x63 : Int32, x63 = v5 + 1 → (LL_areRoomsRight_61 c1 P K N) x23 x26 0 x63 q62) ∧ (r61 = (-2003) → ∀ x64 : Int32, x64 = v5 + 1 → (LL_areRoomsRight_61 c1 P K N) x23 x26 1 x64 q62))))))))))))))))))))))))))))))))))) M65 0 0 0 q))
def LL_areRoomsRight_323 (c1 : Int32) (c2 : Int32) (c3 : Int32) (P : Int32 → aS → Prop) (K : Int32 → aS → Prop) : Nat → Int32 → Int32 → aS → Prop
  | 0, _, _, _ => False
  | N + 1, v4, v5, q => ((c1 ≤ (v5 + 1) → K v4 q) ∧ (¬ c1 ≤ (v5 + 1) → w_X9_dampest0 v5 q (fun r70 q71 => w_X9_dampest0 (v5 + 1) q71 (fun r72 q73 => w_X9_roomOf0 r70 1 q73 (fun r74 q75 => w_X9_roomOf0 r72 1 q75 (fun r76 q77 => ∀ x78 : Int32, x78 = (r74 - r76) → w_X9_roomOf0 r70 2 q77 (fun r79 q80 => w_X9_roomOf0 r72 2 q80 (fun r81 q82 => ∀ x83 : Int32, x83 = (r79 - r81) → ((v4 = 0 → ∀ x84 : Int32, x84 = v5 + 1 → (LL_areRoomsRight_323 c1 c2 c3 P K N) 0 x84 q82) ∧ (¬ v4 = 0 → ((0 < x78 → ∀ x85 : Int32, x85 = v5 + 1 → (LL_areRoomsRight_323 c1 c2 c3 P K N) 1 x85 q82) ∧ (¬ 0 < x78 → ((¬ x78 = 0 → ∀ x86 : Int32, x86 = v5 + 1 → (LL_areRoomsRight_323 c1 c2 c3 P K N) 0 x86 q82) ∧ (x78 = 0 → ((0 < x83 → ∀ x87 : Int32, x87 = v5 + 1 → (LL_areRoomsRight_323 c1 c2 c3 P K N) 1 x87 q82) ∧ (¬ 0 < x83 → ((¬ x83 = 0 → ∀ x88 : Int32, x88 = v5 + 1 → (LL_areRoomsRight_323 c1 c2 c3 P K N) 0 x88 q82) ∧ (x83 = 0 → ((r72 ≤ r70 → ∀ x89 : Int32, x89 = v5 + 1 → (LL_areRoomsRight_323 c1 c2 c3 P K N) 0 x89 q82) ∧ (¬ r72 ≤ r70 → ∀ x90 : Int32, x90 = v5 + 1 → (LL_areRoomsRight_323 c1 c2 c3 P K N) 1 x90 q82))))))))))))))))))))
def w_L_areRoomsRight (q : aS) (P : Int32 → aS → Prop) : Prop := w_X9_account0 0 q (fun r1 q2 => w_L_ask 8 r1 0 q2 (fun r3 q4 => ((¬ r3 = (-2004) → ∃ M100, M100 ≤ 7 ∧ LL_areRoomsRight_61 r1 P (fun y66 y67 y68 q69 => ∃ M99, LL_areRoomsRight_323 r1 y66 y67 P (fun y91 q92 => ((y91 = 0 → P 0 q92) ∧ (¬ y91 = 0 → w_X9_account0 5 q92 (fun r93 q94 => ((¬ r93 = y66 → P 0 q94) ∧ (r93 = y66 → w_X9_account0 6 q94 (fun r95 q96 => ((¬ r95 = y67 → P 0 q96) ∧ (r95 = y67 → ((r1 = 0 → P 1 q96) ∧ (¬ r1 = 0 → w_X9_meanDamp0 q96 (fun r97 q98 => (vf_n64 (FP.ddiv (FP.i2d y66) (FP.i2d r1)) ∧ ((¬ (Op.cmpValue (FP.dcmp r97 (FP.ddiv (FP.i2d y66) (FP.i2d r1))) .l) = 0 → P 0 q98) ∧ ((Op.cmpValue (FP.dcmp r97 (FP.ddiv (FP.i2d y66) (FP.i2d r1))) .l) = 0 → P 1 q98))))))))))))))) M99 y68 0 q69) M100 0 0 0 0 q4) ∧ (r3 = (-2004) → w_L_ask 8 (-1) 0 q4 (fun r101 q102 => ((¬ r101 = (-2004) → ∃ M116, M116 ≤ 7 ∧ LL_areRoomsRight_61 r1 P (fun y103 y104 y105 q106 => ∃ M115, LL_areRoomsRight_323 r1 y103 y104 P (fun y107 q108 => ((y107 = 0 → P 0 q108) ∧ (¬ y107 = 0 → w_X9_account0 5 q108 (fun r109 q110 => ((¬ r109 = y103 → P 0 q110) ∧ (r109 = y103 → w_X9_account0 6 q110 (fun r111 q112 => ((¬ r111 = y104 → P 0 q112) ∧ (r111 = y104 → ((r1 = 0 → P 1 q112) ∧ (¬ r1 = 0 → w_X9_meanDamp0 q112 (fun r113 q114 => (vf_n64 (FP.ddiv (FP.i2d y103) (FP.i2d r1)) ∧ ((¬ (Op.cmpValue (FP.dcmp r113 (FP.ddiv (FP.i2d y103) (FP.i2d r1))) .l) = 0 → P 0 q114) ∧ ((Op.cmpValue (FP.dcmp r113 (FP.ddiv (FP.i2d y103) (FP.i2d r1))) .l) = 0 → P 1 q114))))))))))))))) M115 y105 0 q106) M116 0 0 0 0 q102) ∧ (r101 = (-2004) → w_L_ask 0 r1 0 q102 (fun r117 q118 => ((¬ r117 = (-2002) → ∃ M132, M132 ≤ 7 ∧ LL_areRoomsRight_61 r1 P (fun y119 y120 y121 q122 => ∃ M131, LL_areRoomsRight_323 r1 y119 y120 P (fun y123 q124 => ((y123 = 0 → P 0 q124) ∧ (¬ y123 = 0 → w_X9_account0 5 q124 (fun r125 q126 => ((¬ r125 = y119 → P 0 q126) ∧ (r125 = y119 → w_X9_account0 6 q126 (fun r127 q128 => ((¬ r127 = y120 → P 0 q128) ∧ (r127 = y120 → ((r1 = 0 → P 1 q128) ∧ (¬ r1 = 0 → w_X9_meanDamp0 q128 (fun r129 q130 => (vf_n64 (FP.ddiv (FP.i2d y119) (FP.i2d r1)) ∧ ((¬ (Op.cmpValue (FP.dcmp r129 (FP.ddiv (FP.i2d y119) (FP.i2d r1))) .l) = 0 → P 0 q130) ∧ ((Op.cmpValue (FP.dcmp r129 (FP.ddiv (FP.i2d y119) (FP.i2d r1))) .l) = 0 → P 1 q130))))))))))))))) M131 y121 0 q122) M132 0 0 0 0 q118) ∧ (r117 = (-2002) → ∃ M146, M146 ≤ 7 ∧ LL_areRoomsRight_61 r1 P (fun y133 y134 y135 q136 => ∃ M145, LL_areRoomsRight_323 r1 y133 y134 P (fun y137 q138 => ((y137 = 0 → P 0 q138) ∧ (¬ y137 = 0 → w_X9_account0 5 q138 (fun r139 q140 => ((¬ r139 = y133 → P 0 q140) ∧ (r139 = y133 → w_X9_account0 6 q140 (fun r141 q142 => ((¬ r141 = y134 → P 0 q142) ∧ (r141 = y134 → ((r1 = 0 → P 1 q142) ∧ (¬ r1 = 0 → w_X9_meanDamp0 q142 (fun r143 q144 => (vf_n64 (FP.ddiv (FP.i2d y133) (FP.i2d r1)) ∧ ((¬ (Op.cmpValue (FP.dcmp r143 (FP.ddiv (FP.i2d y133) (FP.i2d r1))) .l) = 0 → P 0 q144) ∧ ((Op.cmpValue (FP.dcmp r143 (FP.ddiv (FP.i2d y133) (FP.i2d r1))) .l) = 0 → P 1 q144))))))))))))))) M145 y135 0 q136) M146 0 0 1 0 q118))))))))))
def JL_areEchoesRight_168 (c1 : Int32) (j2 : Int32) (j3 : Int32) (j4 : Int32) (j6 : Int32) (s0 : Int32) (s1 : Int32) (P : Int32 → aS → Prop) (B : Int32 → Int32 → Int32 → Int32 → Int32 → aS → Prop) (K : Int32 → Int32 → Int32 → Int32 → aS → Prop) (q : aS) : Prop := ((¬ s1 = s0 → ∀ x18 : Int32, x18 = j6 + 1 → B j2 j3 j4 0 x18 q) ∧ (s1 = s0 → w_L_ask 1 j6 5 q (fun r19 q20 => ((¬ r19 = (-2003) → ∀ x21 : Int32, x21 = j6 + 1 → B j2 j3 j4 0 x21 q20) ∧ (r19 = (-2003) → ∀ x22 : Int32, x22 = j6 + 1 → B j2 j3 j4 1 x22 q20)))))
def JL_areEchoesRight_139 (c1 : Int32) (j2 : Int32) (j3 : Int32) (j4 : Int32) (j6 : Int32) (j7 : Int32) (s0 : Int32) (s1 : Int32) (P : Int32 → aS → Prop) (B : Int32 → Int32 → Int32 → Int32 → Int32 → aS → Prop) (K : Int32 → Int32 → Int32 → Int32 → aS → Prop) (q : aS) : Prop := ((¬ s1 = s0 → ∀ x15 : Int32, x15 = j6 + 1 → B j2 j3 j4 0 x15 q) ∧ (s1 = s0 → w_L_ask 7 j6 0 q (fun r16 q17 => ((j7 = 0 → JL_areEchoesRight_168 c1 j2 j3 j4 j6 (-2004) r16 P B K q17) ∧ (¬ j7 = 0 → w_L_backOf j6 q17 (fun r23 q24 => JL_areEchoesRight_168 c1 j2 j3 j4 j6 r23 r16 P B K q24))))))
def JL_areEchoesRight_103 (c1 : Int32) (j2 : Int32) (j4 : Int32) (j5 : Int32) (j6 : Int32) (j7 : Int32) (s0 : Int32) (s1 : Int32) (P : Int32 → aS → Prop) (B : Int32 → Int32 → Int32 → Int32 → Int32 → aS → Prop) (K : Int32 → Int32 → Int32 → Int32 → aS → Prop) (q : aS) : Prop := ∀ x8 : Int32, x8 = (s1 + s0) → w_X9_echoOf0 j6 4 q (fun r9 q10 => ∀ x11 : Int32, x11 = (j4 + r9) → ((j5 = 0 → ∀ x12 : Int32, x12 = j6 + 1 → B j2 x8 x11 0 x12 q10) ∧ (¬ j5 = 0 → w_X9_echoOf0 j6 3 q10 (fun r13 q14 => ((r13 ≤ 0 → JL_areEchoesRight_139 c1 j2 x8 x11 j6 j7 0 j7 P B K q14) ∧ (¬ r13 ≤ 0 → JL_areEchoesRight_139 c1 j2 x8 x11 j6 j7 1 j7 P B K q14))))))
def JL_areEchoesRight_84 (c1 : Int32) (j3 : Int32) (j4 : Int32) (j5 : Int32) (j6 : Int32) (j7 : Int32) (s0 : Int32) (s1 : Int32) (P : Int32 → aS → Prop) (B : Int32 → Int32 → Int32 → Int32 → Int32 → aS → Prop) (K : Int32 → Int32 → Int32 → Int32 → aS → Prop) (q : aS) : Prop := ∀ x7 : Int32, x7 = (s1 + s0) → ((j7 = 0 → JL_areEchoesRight_103 c1 x7 j4 j5 j6 j7 0 j3 P B K q) ∧ (¬ j7 = 0 → w_X9_echoOf0 j6 1 q (fun r25 q26 => JL_areEchoesRight_103 c1 x7 j4 j5 j6 j7 r25 j3 P B K q26)))
def JL_areEchoesRight_71 (c1 : Int32) (j2 : Int32) (j3 : Int32) (j4 : Int32) (j5 : Int32) (j6 : Int32) (s0 : Int32) (P : Int32 → aS → Prop) (B : Int32 → Int32 → Int32 → Int32 → Int32 → aS → Prop) (K : Int32 → Int32 → Int32 → Int32 → aS → Prop) (q : aS) : Prop := ((s0 = 0 → JL_areEchoesRight_84 c1 j3 j4 j5 j6 s0 0 j2 P B K q) ∧ (¬ s0 = 0 → JL_areEchoesRight_84 c1 j3 j4 j5 j6 s0 1 j2 P B K q))
def LL_areEchoesRight_50 (c1 : Int32) (P : Int32 → aS → Prop) (K : Int32 → Int32 → Int32 → Int32 → aS → Prop) : Nat → Int32 → Int32 → Int32 → Int32 → Int32 → aS → Prop
  | 0, _, _, _, _, _, _ => False
  | N + 1, v2, v3, v4, v5, v6, q => ((c1 ≤ v6 → K v2 v3 v4 v5 q) ∧ (¬ c1 ≤ v6 → w_X9_echoOf0 v6 2 q (fun r5 q6 => ((r5 < 0 → JL_areEchoesRight_71 c1 v2 v3 v4 v5 v6 0 P (LL_areEchoesRight_50 c1 P K N) K q6) ∧ (¬ r5 < 0 → JL_areEchoesRight_71 c1 v2 v3 v4 v5 v6 1 P (LL_areEchoesRight_50 c1 P K N) K q6)))))
def JL_areEchoesRight_303 (c1 : Int32) (c2 : Int32) (c3 : Int32) (c4 : Int32) (j6 : Int32) (j7 : Int32) (j8 : Int32) (j10 : Int32) (j11 : Int32) (P : Int32 → aS → Prop) (B : Int32 → Int32 → aS → Prop) (K : Int32 → aS → Prop) (q : aS) : Prop := ((¬ j10 = j11 → ∀ x48 : Int32, x48 = j6 + 1 → B 0 x48 q) ∧ (j10 = j11 → ((j8 ≤ j7 → ∀ x49 : Int32, x49 = j6 + 1 → B 0 x49 q) ∧ (¬ j8 ≤ j7 → ∀ x50 : Int32, x50 = j6 + 1 → B 1 x50 q))))
def JL_areEchoesRight_276 (c1 : Int32) (c2 : Int32) (c3 : Int32) (c4 : Int32) (j5 : Int32) (j6 : Int32) (j7 : Int32) (j8 : Int32) (j9 : Int32) (j10 : Int32) (s0 : Int32) (P : Int32 → aS → Prop) (B : Int32 → Int32 → aS → Prop) (K : Int32 → aS → Prop) (q : aS) : Prop := ((j5 = 0 → ∀ x45 : Int32, x45 = j6 + 1 → B 0 x45 q) ∧ (¬ j5 = 0 → ((0 < j9 → ∀ x46 : Int32, x46 = j6 + 1 → B 1 x46 q) ∧ (¬ 0 < j9 → ((¬ j9 = 0 → ∀ x47 : Int32, x47 = j6 + 1 → B 0 x47 q) ∧ (j9 = 0 → ((j10 = 0 → JL_areEchoesRight_303 c1 c2 c3 c4 j6 j7 j8 j10 s0 P B K q) ∧ (¬ j10 = 0 → ((s0 = 0 → ∀ x51 : Int32, x51 = j6 + 1 → B 1 x51 q) ∧ (¬ s0 = 0 → JL_areEchoesRight_303 c1 c2 c3 c4 j6 j7 j8 j10 s0 P B K q))))))))))
def JL_areEchoesRight_259 (c1 : Int32) (c2 : Int32) (c3 : Int32) (c4 : Int32) (j5 : Int32) (j6 : Int32) (j7 : Int32) (j8 : Int32) (j9 : Int32) (s0 : Int32) (P : Int32 → aS → Prop) (B : Int32 → Int32 → aS → Prop) (K : Int32 → aS → Prop) (q : aS) : Prop := w_X9_echoOf0 j8 2 q (fun r43 q44 => ((0 ≤ r43 → JL_areEchoesRight_276 c1 c2 c3 c4 j5 j6 j7 j8 j9 s0 0 P B K q44) ∧ (¬ 0 ≤ r43 → JL_areEchoesRight_276 c1 c2 c3 c4 j5 j6 j7 j8 j9 s0 1 P B K q44)))
def LL_areEchoesRight_201 (c1 : Int32) (c2 : Int32) (c3 : Int32) (c4 : Int32) (P : Int32 → aS → Prop) (K : Int32 → aS → Prop) : Nat → Int32 → Int32 → aS → Prop
  | 0, _, _, _ => False
  | N + 1, v5, v6, q => ((c1 ≤ (v6 + 1) → K v5 q) ∧ (¬ c1 ≤ (v6 + 1) → w_X9_strongest0 v6 q (fun r32 q33 => w_X9_strongest0 (v6 + 1) q33 (fun r34 q35 => w_X9_echoOf0 r32 1 q35 (fun r36 q37 => w_X9_echoOf0 r34 1 q37 (fun r38 q39 => ∀ x40 : Int32, x40 = (r36 - r38) → w_X9_echoOf0 r32 2 q39 (fun r41 q42 => ((0 ≤ r41 → JL_areEchoesRight_259 c1 c2 c3 c4 v5 v6 r32 r34 x40 0 P (LL_areEchoesRight_201 c1 c2 c3 c4 P K N) K q42) ∧ (¬ 0 ≤ r41 → JL_areEchoesRight_259 c1 c2 c3 c4 v5 v6 r32 r34 x40 1 P (LL_areEchoesRight_201 c1 c2 c3 c4 P K N) K q42)))))))))
def JL_areEchoesRight_401 (j1 : Int32) (j2 : Int32) (s0 : Int32) (P : Int32 → aS → Prop) (q : aS) : Prop := ((s0 = 0 → P 0 q) ∧ (¬ s0 = 0 → ((j1 = 0 → P 1 q) ∧ (¬ j1 = 0 → w_X9_letShare0 q (fun r54 q55 => (vf_n32 (FP.fdiv (FP.i2f j2) (FP.i2f j1)) ∧ ((¬ (Op.cmpValue (FP.fcmp r54 (FP.fdiv (FP.i2f j2) (FP.i2f j1))) .l) = 0 → P 0 q55) ∧ ((Op.cmpValue (FP.fcmp r54 (FP.fdiv (FP.i2f j2) (FP.i2f j1))) .l) = 0 → P 1 q55))))))))
def JL_areEchoesRight_400 (j1 : Int32) (j2 : Int32) (P : Int32 → aS → Prop) (q : aS) : Prop := JL_areEchoesRight_401 j1 j2 0 P q
def w_L_areEchoesRight (q : aS) (P : Int32 → aS → Prop) : Prop := w_X9_account0 1 q (fun r1 q2 => w_L_ask 10 r1 0 q2 (fun r3 q4 => ((¬ r3 = (-2004) → ∃ M71, M71 ≤ 9 ∧ LL_areEchoesRight_50 r1 P (fun y27 y28 y29 y30 q31 => ∃ M70, LL_areEchoesRight_201 r1 y27 y28 y29 P (fun y52 q53 => ((y52 = 0 → JL_areEchoesRight_400 r1 y27 P q53) ∧ (¬ y52 = 0 → w_X9_account0 3 q53 (fun r56 q57 => ((¬ r56 = y27 → JL_areEchoesRight_400 r1 y27 P q57) ∧ (r56 = y27 → w_X9_account0 11 q57 (fun r58 q59 => ((¬ r58 = y28 → JL_areEchoesRight_400 r1 y27 P q59) ∧ (r58 = y28 → w_X9_account0 8 q59 (fun r60 q61 => w_X9_account0 9 q61 (fun r62 q63 => w_X9_account0 10 q63 (fun r64 q65 => ((¬ r60 = ((r62 + r64) + y28) → JL_areEchoesRight_400 r1 y27 P q65) ∧ (r60 = ((r62 + r64) + y28) → w_X9_account0 7 q65 (fun r66 q67 => ((¬ r66 = y29 → JL_areEchoesRight_400 r1 y27 P q67) ∧ (r66 = y29 → w_X9_isTold q67 (fun r68 q69 => ((r68 = 0 → JL_areEchoesRight_400 r1 y27 P q69) ∧ (¬ r68 = 0 → JL_areEchoesRight_401 r1 y27 1 P q69)))))))))))))))))))) M70 y30 0 q31) M71 0 0 0 0 0 q4) ∧ (r3 = (-2004) → w_L_ask 1 r1 0 q4 (fun r72 q73 => ((¬ r72 = (-2002) → ∃ M96, M96 ≤ 9 ∧ LL_areEchoesRight_50 r1 P (fun y74 y75 y76 y77 q78 => ∃ M95, LL_areEchoesRight_201 r1 y74 y75 y76 P (fun y79 q80 => ((y79 = 0 → JL_areEchoesRight_400 r1 y74 P q80) ∧ (¬ y79 = 0 → w_X9_account0 3 q80 (fun r81 q82 => ((¬ r81 = y74 → JL_areEchoesRight_400 r1 y74 P q82) ∧ (r81 = y74 → w_X9_account0 11 q82 (fun r83 q84 => ((¬ r83 = y75 → JL_areEchoesRight_400 r1 y74 P q84) ∧ (r83 = y75 → w_X9_account0 8 q84 (fun r85 q86 => w_X9_account0 9 q86 (fun r87 q88 => w_X9_account0 10 q88 (fun r89 q90 => ((¬ r85 = ((r87 + r89) + y75) → JL_areEchoesRight_400 r1 y74 P q90) ∧ (r85 = ((r87 + r89) + y75) → w_X9_account0 7 q90 (fun r91 q92 => ((¬ r91 = y76 → JL_areEchoesRight_400 r1 y74 P q92) ∧ (r91 = y76 → w_X9_isTold q92 (fun r93 q94 => ((r93 = 0 → JL_areEchoesRight_400 r1 y74 P q94) ∧ (¬ r93 = 0 → JL_areEchoesRight_401 r1 y74 1 P q94)))))))))))))))))))) M95 y77 0 q78) M96 0 0 0 0 0 q73) ∧ (r72 = (-2002) → ∃ M119, M119 ≤ 9 ∧ LL_areEchoesRight_50 r1 P (fun y97 y98 y99 y100 q101 => ∃ M118, LL_areEchoesRight_201 r1 y97 y98 y99 P (fun y102 q103 => ((y102 = 0 → JL_areEchoesRight_400 r1 y97 P q103) ∧ (¬ y102 = 0 → w_X9_account0 3 q103 (fun r104 q105 => ((¬ r104 = y97 → JL_areEchoesRight_400 r1 y97 P q105) ∧ (r104 = y97 → w_X9_account0 11 q105 (fun r106 q107 => ((¬ r106 = y98 → JL_areEchoesRight_400 r1 y97 P q107) ∧ (r106 = y98 → w_X9_account0 8 q107 (fun r108 q109 => w_X9_account0 9 q109 (fun r110 q111 => w_X9_account0 10 q111 (fun r112 q113 => ((¬ r108 = ((r110 + r112) + y98) → JL_areEchoesRight_400 r1 y97 P q113) ∧ (r108 = ((r110 + r112) + y98) → w_X9_account0 7 q113 (fun r114 q115 => ((¬ r114 = y99 → JL_areEchoesRight_400 r1 y97 P q115) ∧ (r114 = y99 → w_X9_isTold q115 (fun r116 q117 => ((r116 = 0 → JL_areEchoesRight_400 r1 y97 P q117) ∧ (¬ r116 = 0 → JL_areEchoesRight_401 r1 y97 1 P q117)))))))))))))))))))) M118 y100 0 q101) M119 0 0 0 1 0 q73)))))))
def LL_areRanksRight_56 (c1 : Int32) (P : Int32 → aS → Prop) (K : Int32 → aS → Prop) : Nat → Int32 → Int32 → aS → Prop
  | 0, _, _, _ => False
  | N + 1, v2, v3, q => (((4 * (c1 - 1)) ≤ v3 → K v2 q) ∧ (¬ (4 * (c1 - 1)) ≤ v3 → w_X9_ranked0 (v3 - v3 / 4 * 4) (v3 / 4) q (fun r5 q6 => w_X9_ranked0 (v3 - v3 / 4 * 4) ((v3 / 4) + 1) q6 (fun r7 q8 => w_L_rank r5 (v3 - v3 / 4 * 4) q8 (fun r9 q10 => w_L_rank r7 (v3 - v3 / 4 * 4) q10 (fun r11 q12 => ∀ x13 : Int32, x13 = (r9 - r11) → ((v2 = 0 → ∀ x14 : Int32, x14 = v3 + 1 → (LL_areRanksRight_56 c1 P K N) 0 x14 q12) ∧ (¬ v2 = 0 → ((0 < x13 → ∀ x15 : Int32, x15 = v3 + 1 → (LL_areRanksRight_56 c1 P K N) 1 x15 q12) ∧ (¬ 0 < x13 → ((¬ x13 = 0 → ∀ x16 : Int32, x16 = v3 + 1 → (LL_areRanksRight_56 c1 P K N) 0 x16 q12) ∧ (x13 = 0 → ((r7 ≤ r5 → ∀ x17 : Int32, x17 = v3 + 1 → (LL_areRanksRight_56 c1 P K N) 0 x17 q12) ∧ (¬ r7 ≤ r5 → ∀ x18 : Int32, x18 = v3 + 1 → (LL_areRanksRight_56 c1 P K N) 1 x18 q12))))))))))))))
def w_L_areRanksRight (q : aS) (P : Int32 → aS → Prop) : Prop := w_X9_account0 2 q (fun r1 q2 => w_L_ask 9 4 0 q2 (fun r3 q4 => ((¬ r3 = (-2003) → ∃ M21, LL_areRanksRight_56 r1 P (fun y19 q20 => ((y19 = 0 ∨ y19 = 1) ∧ P y19 q20)) M21 0 0 q4) ∧ (r3 = (-2003) → w_L_ask 9 (-1) 0 q4 (fun r22 q23 => ((¬ r22 = (-2003) → ∃ M26, LL_areRanksRight_56 r1 P (fun y24 q25 => ((y24 = 0 ∨ y24 = 1) ∧ P y24 q25)) M26 0 0 q23) ∧ (r22 = (-2003) → w_L_ask 9 0 r1 q23 (fun r27 q28 => ((¬ r27 = (-2004) → ∃ M31, LL_areRanksRight_56 r1 P (fun y29 q30 => ((y29 = 0 ∨ y29 = 1) ∧ P y29 q30)) M31 0 0 q28) ∧ (r27 = (-2004) → ∃ M34, LL_areRanksRight_56 r1 P (fun y32 q33 => ((y32 = 0 ∨ y32 = 1) ∧ P y32 q33)) M34 1 0 q28))))))))))
set_option maxRecDepth 20000 in
theorem tLL_singersIn_4 {f : aF} {g : aG} (hX : isX g) (P : Int32 → aS → Prop) (hR : f_R f = aR 3 0 0) (hC : aOK f g cL_singersIn 4 RL) (hE : aEi f g .int P (fun _ _ => False) 0 0) (c1 : Int32) {K : Int32 → aS → Prop} (hK : ∀ (w2 : Int32) (q : aS), K w2 q → AW f g 39 [none, none, some (.int w2), none] [] q 0 0) : ∀ (N : Nat) (v2 : Int32) (v3 : Int32) (q : aS), LL_singersIn_4 c1 P K N v2 v3 q → AW f g 4 [some (.ref (gAd g 0)), some (.int c1), some (.int v2), some (.int v3)] [] q 0 0 := by
  intro N
  induction N with
  | zero =>
    intro v2 v3 q h
    exact h.elim
  | succ N ih =>
    intro v2 v3 q h
    unfold LL_singersIn_4 at h
    refine a_iload_n (pc := 4) hC dL_singersIn_4 rfl ?_
    refine a_aload_n (pc := 5) hC dL_singersIn_5 rfl ?_
    refine a_iconst (pc := 6) hC dL_singersIn_6 (v := 2) rfl ?_
    refine a_callV (pc := 7) hC hR vm_X9_account tw_327 cl_X9 (oX_0 hX) ⟨(Nat.le_of_ble_eq_true rfl), (Nat.le_of_ble_eq_true rfl), (Nat.le_of_ble_eq_true rfl), (Nat.le_of_ble_eq_true rfl)⟩ dL_singersIn_7 (t_X9_account0 hX hC.tr _ _ _ h) rfl rfl rfl (Nat.le_of_ble_eq_true rfl) (fun r2 q3 h => ?_)
    refine a_icmp_ge (pc := 10) (tgt := 39) hC dL_singersIn_10 (by decide) (fun c => ?_) (fun c => ?_)
    · replace h := h.1 c
      exact ((hK _ _ h).forget ⟨rfl, trivial⟩)
    · replace h := h.2 c
      refine a_iload_n (pc := 13) hC dL_singersIn_13 rfl ?_
      refine a_aload_n (pc := 14) hC dL_singersIn_14 rfl ?_
      refine a_iload_n (pc := 15) hC dL_singersIn_15 rfl ?_
      refine a_iconst (pc := 16) hC dL_singersIn_16 (v := 2) rfl ?_
      refine a_callV (pc := 17) hC hR vm_X9_singerOf tw_524 cl_X9 (oX_0 hX) ⟨(Nat.le_of_ble_eq_true rfl), (Nat.le_of_ble_eq_true rfl), (Nat.le_of_ble_eq_true rfl), (Nat.le_of_ble_eq_true rfl)⟩ dL_singersIn_17 (t_X9_singerOf0 hX hC.tr _ _ _ _ h) rfl rfl rfl (Nat.le_of_ble_eq_true rfl) (fun r4 q5 h => ?_)
      refine a_iload_n (pc := 20) hC dL_singersIn_20 rfl ?_
      refine a_icmp_ne (pc := 21) (tgt := 30) hC dL_singersIn_21 (by decide) (fun c => ?_) (fun c => ?_)
      · replace h := h.1 c
        refine a_iconst (pc := 30) hC dL_singersIn_30 (v := 0) rfl ?_
        refine a_ior (pc := 31) hC dL_singersIn_31 ?_
        refine a_istore_n (pc := 32) hC dL_singersIn_32 (Nat.le_of_ble_eq_true rfl) ?_
        replace h := h _ rfl
        refine a_iinc (pc := 33) hC dL_singersIn_33 rfl (c := 1) rfl ?_
        replace h := h _ rfl
        refine a_goto (pc := 36) (tgt := 4) hC dL_singersIn_36 (by decide) ?_
        exact ((ih _ _ _ h).forget ⟨rfl, rfl, rfl, rfl, trivial⟩)
      · replace h := h.2 c
        refine a_iconst (pc := 24) hC dL_singersIn_24 (v := 1) rfl ?_
        refine a_iload_n (pc := 25) hC dL_singersIn_25 rfl ?_
        refine a_ishl (pc := 26) hC dL_singersIn_26 ?_
        refine a_goto (pc := 27) (tgt := 31) hC dL_singersIn_27 (by decide) ?_
        refine a_ior (pc := 31) hC dL_singersIn_31 ?_
        refine a_istore_n (pc := 32) hC dL_singersIn_32 (Nat.le_of_ble_eq_true rfl) ?_
        replace h := h _ rfl
        refine a_iinc (pc := 33) hC dL_singersIn_33 rfl (c := 1) rfl ?_
        replace h := h _ rfl
        refine a_goto (pc := 36) (tgt := 4) hC dL_singersIn_36 (by decide) ?_
        exact ((ih _ _ _ h).forget ⟨rfl, rfl, rfl, rfl, trivial⟩)
set_option maxRecDepth 20000 in
theorem t_L_singersIn {l : Launch} {g : aG} (hX : isX g) (hl : l.stackTraces = false) (x1 : Int32) (q : aS) (P : Int32 → aS → Prop) (h : w_L_singersIn x1 q P) : aMi l g yL_singersIn (aWs yL_singersIn cL_singersIn 4 (some .int)) 3 0 0 [.ref (gAd g 0), .int x1] q P (fun _ _ => False) := by
  refine aMi_of RL ⟨by decide +kernel, rfl⟩ (cat_all rfl) (Nat.le_of_ble_eq_true rfl) hl hX.cl (fun f hR hC hE => ?_)
  show AW f g 0 [some (.ref (gAd g 0)), some (.int x1), none, none] [] q 0 0
  unfold w_L_singersIn at h
  refine a_iconst (pc := 0) hC dL_singersIn_0 (v := 0) rfl ?_
  refine a_istore_n (pc := 1) hC dL_singersIn_1 (Nat.le_of_ble_eq_true rfl) ?_
  refine a_iconst (pc := 2) hC dL_singersIn_2 (v := 0) rfl ?_
  refine a_istore_n (pc := 3) hC dL_singersIn_3 (Nat.le_of_ble_eq_true rfl) ?_
  obtain ⟨N, h⟩ := h
  refine (tLL_singersIn_4 hX P hR hC hE _ (fun y10 q11 h => ?_) N _ _ _ h).forget ⟨rfl, rfl, rfl, rfl, trivial⟩
  refine a_iload_n (pc := 39) hC dL_singersIn_39 rfl ?_
  exact a_iret (pc := 40) hC hE h (Nat.le_of_ble_eq_true rfl) (Nat.le_of_ble_eq_true rfl) dL_singersIn_40
set_option maxRecDepth 20000 in
theorem t_L_backOf {l : Launch} {g : aG} (hX : isX g) (hl : l.stackTraces = false) (x1 : Int32) (q : aS) (P : Int32 → aS → Prop) (h : w_L_backOf x1 q P) : aMi l g yL_backOf (aWs yL_backOf cL_backOf 2 (some .int)) 3 0 0 [.ref (gAd g 0), .int x1] q P (fun _ _ => False) := by
  refine aMi_of RL ⟨by decide +kernel, rfl⟩ (cat_all rfl) (Nat.le_of_ble_eq_true rfl) hl hX.cl (fun f hR hC hE => ?_)
  show AW f g 0 [some (.ref (gAd g 0)), some (.int x1)] [] q 0 0
  unfold w_L_backOf at h
  refine a_iconst (pc := 0) hC dL_backOf_0 (v := 0) rfl ?_
  refine a_aload_n (pc := 1) hC dL_backOf_1 rfl ?_
  refine a_iload_n (pc := 2) hC dL_backOf_2 rfl ?_
  refine a_iconst (pc := 3) hC dL_backOf_3 (v := 1) rfl ?_
  refine a_callV (pc := 4) hC hR vm_X9_echoOf tw_510 cl_X9 (oX_0 hX) ⟨(Nat.le_of_ble_eq_true rfl), (Nat.le_of_ble_eq_true rfl), (Nat.le_of_ble_eq_true rfl), (Nat.le_of_ble_eq_true rfl)⟩ dL_backOf_4 (t_X9_echoOf0 hX hC.tr _ _ _ _ h) rfl rfl rfl (Nat.le_of_ble_eq_true rfl) (fun r2 q3 h => ?_)
  refine a_aload_n (pc := 7) hC dL_backOf_7 rfl ?_
  refine a_aload_n (pc := 8) hC dL_backOf_8 rfl ?_
  refine a_iload_n (pc := 9) hC dL_backOf_9 rfl ?_
  refine a_iconst (pc := 10) hC dL_backOf_10 (v := 0) rfl ?_
  refine a_callV (pc := 11) hC hR vm_X9_echoOf tw_510 cl_X9 (oX_0 hX) ⟨(Nat.le_of_ble_eq_true rfl), (Nat.le_of_ble_eq_true rfl), (Nat.le_of_ble_eq_true rfl), (Nat.le_of_ble_eq_true rfl)⟩ dL_backOf_11 (t_X9_echoOf0 hX hC.tr _ _ _ _ h) rfl rfl rfl (Nat.le_of_ble_eq_true rfl) (fun r4 q5 h => ?_)
  refine a_iconst (pc := 14) hC dL_backOf_14 (v := 1) rfl ?_
  refine a_callV (pc := 15) hC hR vm_X9_roomOf tw_462 cl_X9 (oX_0 hX) ⟨(Nat.le_of_ble_eq_true rfl), (Nat.le_of_ble_eq_true rfl), (Nat.le_of_ble_eq_true rfl), (Nat.le_of_ble_eq_true rfl)⟩ dL_backOf_15 (t_X9_roomOf0 hX hC.tr _ _ _ _ h) rfl rfl rfl (Nat.le_of_ble_eq_true rfl) (fun r6 q7 h => ?_)
  refine a_isub (pc := 18) hC dL_backOf_18 ?_
  refine a_mmax (pc := 19) hC hR ⟨(Nat.le_of_ble_eq_true rfl), (Nat.le_of_ble_eq_true rfl), (Nat.le_of_ble_eq_true rfl)⟩ rfl tw_1002 tw_581 tw_23 tw_582 (Nat.le_of_ble_eq_true rfl) dL_backOf_19 ?_
  exact a_iret (pc := 22) hC hE h (Nat.le_of_ble_eq_true rfl) (Nat.le_of_ble_eq_true rfl) dL_backOf_22
set_option maxRecDepth 20000 in
theorem tJL_tones_54 {f : aF} {g : aG} (hX : isX g) (P : Int32 → aS → Prop) (hR : f_R f = aR 3 0 0) (hC : aOK f g cL_tones 7 RL) (hE : aEi f g .int P (fun _ _ => False) 0 0) (c1 : Int32) (c2 : Int32) (c3 : Int32) (j4 : Int32) (j5 : Int32) (s0 : Int32) (B : Int32 → Int32 → aS → Prop) (K : Int32 → aS → Prop) (hB : ∀ (w4 : Int32) (w5 : Int32) (q : aS), B w4 w5 q → AW f g 6 [some (.ref (gAd g 0)), some (.int c1), some (.int c2), some (.int c3), some (.int w4), some (.int w5), none] [] q 0 0) (hK : ∀ (w4 : Int32) (q : aS), K w4 q → AW f g 101 [none, none, none, none, some (.int w4), none, none] [] q 0 0) (q : aS) (h : JL_tones_54 c1 c2 c3 j4 j5 s0 P B K q) : AW f g 54 [some (.ref (gAd g 0)), some (.int c1), some (.int c2), some (.int c3), some (.int j4), some (.int j5), none] [.int s0] q 0 0 := by
  unfold JL_tones_54 at h
  refine a_istore (pc := 54) hC dL_tones_54 (Nat.le_of_ble_eq_true rfl) ?_
  refine a_iload (pc := 56) hC dL_tones_56 rfl ?_
  refine a_iload (pc := 58) hC dL_tones_58 rfl ?_
  refine a_if_eq (pc := 60) (tgt := 91) hC dL_tones_60 (by decide) (fun c => ?_) (fun c => ?_)
  · replace h := h.1 c
    refine a_iconst (pc := 91) hC dL_tones_91 (v := 0) rfl ?_
    refine a_iadd (pc := 92) hC dL_tones_92 ?_
    refine a_istore (pc := 93) hC dL_tones_93 (Nat.le_of_ble_eq_true rfl) ?_
    replace h := h _ rfl
    refine a_iinc (pc := 95) hC dL_tones_95 rfl (c := 1) rfl ?_
    replace h := h _ rfl
    refine a_goto (pc := 98) (tgt := 6) hC dL_tones_98 (by decide) ?_
    exact ((hB _ _ _ h).forget ⟨rfl, rfl, rfl, rfl, rfl, rfl, trivial⟩)
  · replace h := h.2 c
    refine a_iconst (pc := 63) hC dL_tones_63 (v := 0) rfl ?_
    refine a_aload_n (pc := 64) hC dL_tones_64 rfl ?_
    refine a_iload (pc := 65) hC dL_tones_65 rfl ?_
    refine a_iconst (pc := 67) hC dL_tones_67 (v := 1) rfl ?_
    refine a_callV (pc := 68) hC hR vm_X9_echoOf tw_510 cl_X9 (oX_0 hX) ⟨(Nat.le_of_ble_eq_true rfl), (Nat.le_of_ble_eq_true rfl), (Nat.le_of_ble_eq_true rfl), (Nat.le_of_ble_eq_true rfl)⟩ dL_tones_68 (t_X9_echoOf0 hX hC.tr _ _ _ _ h) rfl rfl rfl (Nat.le_of_ble_eq_true rfl) (fun r10 q11 h => ?_)
    refine a_bipush (pc := 71) hC dL_tones_71 (v := 9) rfl ?_
    refine a_aload_n (pc := 73) hC dL_tones_73 rfl ?_
    refine a_iload_n (pc := 74) hC dL_tones_74 rfl ?_
    refine a_iconst (pc := 75) hC dL_tones_75 (v := 1) rfl ?_
    refine a_callV (pc := 76) hC hR vm_X9_roomOf tw_462 cl_X9 (oX_0 hX) ⟨(Nat.le_of_ble_eq_true rfl), (Nat.le_of_ble_eq_true rfl), (Nat.le_of_ble_eq_true rfl), (Nat.le_of_ble_eq_true rfl)⟩ dL_tones_76 (t_X9_roomOf0 hX hC.tr _ _ _ _ h) rfl rfl rfl (Nat.le_of_ble_eq_true rfl) (fun r12 q13 h => ?_)
    refine a_iload_n (pc := 79) hC dL_tones_79 rfl ?_
    refine a_iadd (pc := 80) hC dL_tones_80 ?_
    refine a_mmin (pc := 81) hC hR ⟨(Nat.le_of_ble_eq_true rfl), (Nat.le_of_ble_eq_true rfl), (Nat.le_of_ble_eq_true rfl)⟩ rfl tw_1021 tw_596 tw_23 tw_597 (Nat.le_of_ble_eq_true rfl) dL_tones_81 ?_
    refine a_isub (pc := 84) hC dL_tones_84 ?_
    refine a_mmax (pc := 85) hC hR ⟨(Nat.le_of_ble_eq_true rfl), (Nat.le_of_ble_eq_true rfl), (Nat.le_of_ble_eq_true rfl)⟩ rfl tw_1002 tw_581 tw_23 tw_582 (Nat.le_of_ble_eq_true rfl) dL_tones_85 ?_
    refine a_goto (pc := 88) (tgt := 92) hC dL_tones_88 (by decide) ?_
    refine a_iadd (pc := 92) hC dL_tones_92 ?_
    refine a_istore (pc := 93) hC dL_tones_93 (Nat.le_of_ble_eq_true rfl) ?_
    replace h := h _ rfl
    refine a_iinc (pc := 95) hC dL_tones_95 rfl (c := 1) rfl ?_
    replace h := h _ rfl
    refine a_goto (pc := 98) (tgt := 6) hC dL_tones_98 (by decide) ?_
    exact ((hB _ _ _ h).forget ⟨rfl, rfl, rfl, rfl, rfl, rfl, trivial⟩)
set_option maxRecDepth 20000 in
theorem tJL_tones_53 {f : aF} {g : aG} (hX : isX g) (P : Int32 → aS → Prop) (hR : f_R f = aR 3 0 0) (hC : aOK f g cL_tones 7 RL) (hE : aEi f g .int P (fun _ _ => False) 0 0) (c1 : Int32) (c2 : Int32) (c3 : Int32) (j4 : Int32) (j5 : Int32) (B : Int32 → Int32 → aS → Prop) (K : Int32 → aS → Prop) (hB : ∀ (w4 : Int32) (w5 : Int32) (q : aS), B w4 w5 q → AW f g 6 [some (.ref (gAd g 0)), some (.int c1), some (.int c2), some (.int c3), some (.int w4), some (.int w5), none] [] q 0 0) (hK : ∀ (w4 : Int32) (q : aS), K w4 q → AW f g 101 [none, none, none, none, some (.int w4), none, none] [] q 0 0) (q : aS) (h : JL_tones_53 c1 c2 c3 j4 j5 P B K q) : AW f g 53 [some (.ref (gAd g 0)), some (.int c1), some (.int c2), some (.int c3), some (.int j4), some (.int j5), none] [] q 0 0 := by
  unfold JL_tones_53 at h
  refine a_iconst (pc := 53) hC dL_tones_53 (v := 0) rfl ?_
  exact (tJL_tones_54 hX P hR hC hE _ _ _ _ _ _ _ _ hB hK _ h).forget ⟨rfl, rfl, rfl, rfl, rfl, rfl, trivial⟩
set_option maxRecDepth 20000 in
theorem tLL_tones_6 {f : aF} {g : aG} (hX : isX g) (P : Int32 → aS → Prop) (hR : f_R f = aR 3 0 0) (hC : aOK f g cL_tones 7 RL) (hE : aEi f g .int P (fun _ _ => False) 0 0) (c1 : Int32) (c2 : Int32) (c3 : Int32) {K : Int32 → aS → Prop} (hK : ∀ (w4 : Int32) (q : aS), K w4 q → AW f g 101 [none, none, none, none, some (.int w4), none, none] [] q 0 0) : ∀ (N : Nat) (v4 : Int32) (v5 : Int32) (q : aS), LL_tones_6 c1 c2 c3 P K N v4 v5 q → AW f g 6 [some (.ref (gAd g 0)), some (.int c1), some (.int c2), some (.int c3), some (.int v4), some (.int v5), none] [] q 0 0 := by
  intro N
  induction N with
  | zero =>
    intro v4 v5 q h
    exact h.elim
  | succ N ih =>
    intro v4 v5 q h
    unfold LL_tones_6 at h
    refine a_iload (pc := 6) hC dL_tones_6 rfl ?_
    refine a_aload_n (pc := 8) hC dL_tones_8 rfl ?_
    refine a_iconst (pc := 9) hC dL_tones_9 (v := 1) rfl ?_
    refine a_callV (pc := 10) hC hR vm_X9_account tw_327 cl_X9 (oX_0 hX) ⟨(Nat.le_of_ble_eq_true rfl), (Nat.le_of_ble_eq_true rfl), (Nat.le_of_ble_eq_true rfl), (Nat.le_of_ble_eq_true rfl)⟩ dL_tones_10 (t_X9_account0 hX hC.tr _ _ _ h) rfl rfl rfl (Nat.le_of_ble_eq_true rfl) (fun r4 q5 h => ?_)
    refine a_icmp_ge (pc := 13) (tgt := 101) hC dL_tones_13 (by decide) (fun c => ?_) (fun c => ?_)
    · replace h := h.1 c
      exact ((hK _ _ h).forget ⟨rfl, trivial⟩)
    · replace h := h.2 c
      refine a_aload_n (pc := 16) hC dL_tones_16 rfl ?_
      refine a_iload (pc := 17) hC dL_tones_17 rfl ?_
      refine a_iconst (pc := 19) hC dL_tones_19 (v := 0) rfl ?_
      refine a_callV (pc := 20) hC hR vm_X9_echoOf tw_510 cl_X9 (oX_0 hX) ⟨(Nat.le_of_ble_eq_true rfl), (Nat.le_of_ble_eq_true rfl), (Nat.le_of_ble_eq_true rfl), (Nat.le_of_ble_eq_true rfl)⟩ dL_tones_20 (t_X9_echoOf0 hX hC.tr _ _ _ _ h) rfl rfl rfl (Nat.le_of_ble_eq_true rfl) (fun r6 q7 h => ?_)
      refine a_iload_n (pc := 23) hC dL_tones_23 rfl ?_
      refine a_icmp_ne (pc := 24) (tgt := 53) hC dL_tones_24 (by decide) (fun c => ?_) (fun c => ?_)
      · replace h := h.1 c
        exact (tJL_tones_53 hX P hR hC hE _ _ _ _ _ _ _ ih hK _ h).forget ⟨rfl, rfl, rfl, rfl, rfl, rfl, trivial⟩
      · replace h := h.2 c
        refine a_aload_n (pc := 27) hC dL_tones_27 rfl ?_
        refine a_iload (pc := 28) hC dL_tones_28 rfl ?_
        refine a_iconst (pc := 30) hC dL_tones_30 (v := 2) rfl ?_
        refine a_callV (pc := 31) hC hR vm_X9_echoOf tw_510 cl_X9 (oX_0 hX) ⟨(Nat.le_of_ble_eq_true rfl), (Nat.le_of_ble_eq_true rfl), (Nat.le_of_ble_eq_true rfl), (Nat.le_of_ble_eq_true rfl)⟩ dL_tones_31 (t_X9_echoOf0 hX hC.tr _ _ _ _ h) rfl rfl rfl (Nat.le_of_ble_eq_true rfl) (fun r16 q17 h => ?_)
        refine a_iload_n (pc := 34) hC dL_tones_34 rfl ?_
        refine a_icmp_ne (pc := 35) (tgt := 53) hC dL_tones_35 (by decide) (fun c => ?_) (fun c => ?_)
        · replace h := h.1 c
          exact (tJL_tones_53 hX P hR hC hE _ _ _ _ _ _ _ ih hK _ h).forget ⟨rfl, rfl, rfl, rfl, rfl, rfl, trivial⟩
        · replace h := h.2 c
          refine a_aload_n (pc := 38) hC dL_tones_38 rfl ?_
          refine a_iload (pc := 39) hC dL_tones_39 rfl ?_
          refine a_iconst (pc := 41) hC dL_tones_41 (v := 3) rfl ?_
          refine a_callV (pc := 42) hC hR vm_X9_echoOf tw_510 cl_X9 (oX_0 hX) ⟨(Nat.le_of_ble_eq_true rfl), (Nat.le_of_ble_eq_true rfl), (Nat.le_of_ble_eq_true rfl), (Nat.le_of_ble_eq_true rfl)⟩ dL_tones_42 (t_X9_echoOf0 hX hC.tr _ _ _ _ h) rfl rfl rfl (Nat.le_of_ble_eq_true rfl) (fun r18 q19 h => ?_)
          refine a_iload_n (pc := 45) hC dL_tones_45 rfl ?_
          refine a_icmp_le (pc := 46) (tgt := 53) hC dL_tones_46 (by decide) (fun c => ?_) (fun c => ?_)
          · replace h := h.1 c
            exact (tJL_tones_53 hX P hR hC hE _ _ _ _ _ _ _ ih hK _ h).forget ⟨rfl, rfl, rfl, rfl, rfl, rfl, trivial⟩
          · replace h := h.2 c
            refine a_iconst (pc := 49) hC dL_tones_49 (v := 1) rfl ?_
            refine a_goto (pc := 50) (tgt := 54) hC dL_tones_50 (by decide) ?_
            exact (tJL_tones_54 hX P hR hC hE _ _ _ _ _ _ _ _ ih hK _ h).forget ⟨rfl, rfl, rfl, rfl, rfl, rfl, trivial⟩
set_option maxRecDepth 20000 in
theorem t_L_tones {l : Launch} {g : aG} (hX : isX g) (hl : l.stackTraces = false) (x1 : Int32) (x2 : Int32) (x3 : Int32) (q : aS) (P : Int32 → aS → Prop) (h : w_L_tones x1 x2 x3 q P) : aMi l g yL_tones (aWs yL_tones cL_tones 7 (some .int)) 3 0 0 [.ref (gAd g 0), .int x1, .int x2, .int x3] q P (fun _ _ => False) := by
  refine aMi_of RL ⟨by decide +kernel, rfl⟩ (cat_all rfl) (Nat.le_of_ble_eq_true rfl) hl hX.cl (fun f hR hC hE => ?_)
  show AW f g 0 [some (.ref (gAd g 0)), some (.int x1), some (.int x2), some (.int x3), none, none, none] [] q 0 0
  unfold w_L_tones at h
  refine a_iconst (pc := 0) hC dL_tones_0 (v := 0) rfl ?_
  refine a_istore (pc := 1) hC dL_tones_1 (Nat.le_of_ble_eq_true rfl) ?_
  refine a_iconst (pc := 3) hC dL_tones_3 (v := 0) rfl ?_
  refine a_istore (pc := 4) hC dL_tones_4 (Nat.le_of_ble_eq_true rfl) ?_
  obtain ⟨N, h⟩ := h
  refine (tLL_tones_6 hX P hR hC hE _ _ _ (fun y20 q21 h => ?_) N _ _ _ h).forget ⟨rfl, rfl, rfl, rfl, rfl, rfl, trivial⟩
  refine a_iload (pc := 101) hC dL_tones_101 rfl ?_
  exact a_iret (pc := 103) hC hE h (Nat.le_of_ble_eq_true rfl) (Nat.le_of_ble_eq_true rfl) dL_tones_103
set_option maxRecDepth 20000 in
theorem t_L_rank {l : Launch} {g : aG} (hX : isX g) (hl : l.stackTraces = false) (x1 : Int32) (x2 : Int32) (q : aS) (P : Int32 → aS → Prop) (h : w_L_rank x1 x2 q P) : aMi l g yL_rank (aWs yL_rank cL_rank 3 (some .int)) 3 0 0 [.ref (gAd g 0), .int x1, .int x2] q P (fun _ _ => False) := by
  refine aMi_of RL ⟨by decide +kernel, rfl⟩ (cat_all rfl) (Nat.le_of_ble_eq_true rfl) hl hX.cl (fun f hR hC hE => ?_)
  show AW f g 0 [some (.ref (gAd g 0)), some (.int x1), some (.int x2)] [] q 0 0
  unfold w_L_rank at h
  refine a_aload_n (pc := 0) hC dL_rank_0 rfl ?_
  refine a_iload_n (pc := 1) hC dL_rank_1 rfl ?_
  refine a_iload_n (pc := 2) hC dL_rank_2 rfl ?_
  refine a_if_ne (pc := 3) (tgt := 10) hC dL_rank_3 (by decide) (fun c => ?_) (fun c => ?_)
  · replace h := h.1 c
    refine a_iload_n (pc := 10) hC dL_rank_10 rfl ?_
    refine a_iconst (pc := 11) hC dL_rank_11 (v := 1) rfl ?_
    refine a_icmp_ne (pc := 12) (tgt := 19) hC dL_rank_12 (by decide) (fun c => ?_) (fun c => ?_)
    · replace h := h.1 c
      refine a_iload_n (pc := 19) hC dL_rank_19 rfl ?_
      refine a_iconst (pc := 20) hC dL_rank_20 (v := 2) rfl ?_
      refine a_icmp_ne (pc := 21) (tgt := 28) hC dL_rank_21 (by decide) (fun c => ?_) (fun c => ?_)
      · replace h := h.1 c
        refine a_iconst (pc := 28) hC dL_rank_28 (v := 0) rfl ?_
        refine a_callV (pc := 29) hC hR vm_X9_singerOf tw_524 cl_X9 (oX_0 hX) ⟨(Nat.le_of_ble_eq_true rfl), (Nat.le_of_ble_eq_true rfl), (Nat.le_of_ble_eq_true rfl), (Nat.le_of_ble_eq_true rfl)⟩ dL_rank_29 (t_X9_singerOf0 hX hC.tr _ _ _ _ h) rfl rfl rfl (Nat.le_of_ble_eq_true rfl) (fun r3 q4 h => ?_)
        exact a_iret (pc := 32) hC hE h (Nat.le_of_ble_eq_true rfl) (Nat.le_of_ble_eq_true rfl) dL_rank_32
      · replace h := h.2 c
        refine a_iconst (pc := 24) hC dL_rank_24 (v := 4) rfl ?_
        refine a_goto (pc := 25) (tgt := 29) hC dL_rank_25 (by decide) ?_
        refine a_callV (pc := 29) hC hR vm_X9_singerOf tw_524 cl_X9 (oX_0 hX) ⟨(Nat.le_of_ble_eq_true rfl), (Nat.le_of_ble_eq_true rfl), (Nat.le_of_ble_eq_true rfl), (Nat.le_of_ble_eq_true rfl)⟩ dL_rank_29 (t_X9_singerOf0 hX hC.tr _ _ _ _ h) rfl rfl rfl (Nat.le_of_ble_eq_true rfl) (fun r5 q6 h => ?_)
        exact a_iret (pc := 32) hC hE h (Nat.le_of_ble_eq_true rfl) (Nat.le_of_ble_eq_true rfl) dL_rank_32
    · replace h := h.2 c
      refine a_iconst (pc := 15) hC dL_rank_15 (v := 5) rfl ?_
      refine a_goto (pc := 16) (tgt := 29) hC dL_rank_16 (by decide) ?_
      refine a_callV (pc := 29) hC hR vm_X9_singerOf tw_524 cl_X9 (oX_0 hX) ⟨(Nat.le_of_ble_eq_true rfl), (Nat.le_of_ble_eq_true rfl), (Nat.le_of_ble_eq_true rfl), (Nat.le_of_ble_eq_true rfl)⟩ dL_rank_29 (t_X9_singerOf0 hX hC.tr _ _ _ _ h) rfl rfl rfl (Nat.le_of_ble_eq_true rfl) (fun r7 q8 h => ?_)
      exact a_iret (pc := 32) hC hE h (Nat.le_of_ble_eq_true rfl) (Nat.le_of_ble_eq_true rfl) dL_rank_32
  · replace h := h.2 c
    refine a_iconst (pc := 6) hC dL_rank_6 (v := 1) rfl ?_
    refine a_goto (pc := 7) (tgt := 29) hC dL_rank_7 (by decide) ?_
    refine a_callV (pc := 29) hC hR vm_X9_singerOf tw_524 cl_X9 (oX_0 hX) ⟨(Nat.le_of_ble_eq_true rfl), (Nat.le_of_ble_eq_true rfl), (Nat.le_of_ble_eq_true rfl), (Nat.le_of_ble_eq_true rfl)⟩ dL_rank_29 (t_X9_singerOf0 hX hC.tr _ _ _ _ h) rfl rfl rfl (Nat.le_of_ble_eq_true rfl) (fun r9 q10 h => ?_)
    exact a_iret (pc := 32) hC hE h (Nat.le_of_ble_eq_true rfl) (Nat.le_of_ble_eq_true rfl) dL_rank_32
set_option maxRecDepth 20000 in
theorem tJL_isSingerRight_152 {f : aF} {g : aG} (hX : isX g) (hN : isNc g) (P : Int32 → aS → Prop) (hR : f_R f = aR 13 10 60) (hC : aOK f g cL_isSingerRight 11 RL) (hE : aEi f g .boolean (fun r u => (r = 0 ∨ r = 1) ∧ P r u) (fun _ _ => False) 10 60) (c1 : Int32) (c2 : Int32) (c3 : Int32) (c6 : Int32) (j4 : Int32) (j5 : Int32) (j7 : Int32) (j8 : Int32) (s0 : Int32) (B : Int32 → Int32 → Int32 → Int32 → aS → Prop) (K : Int32 → Int32 → Int32 → aS → Prop) (hB : ∀ (w4 : Int32) (w5 : Int32) (w7 : Int32) (w8 : Int32) (q : aS), B w4 w5 w7 w8 q → AW f g 46 [some (.ref (gAd g 0)), some (.int c1), some (.int c2), some (.int c3), some (.int w4), some (.int w5), some (.int c6), some (.int w7), some (.int w8), none, none] [] q 2 12) (hK : ∀ (w4 : Int32) (w5 : Int32) (w7 : Int32) (q : aS), K w4 w5 w7 q → AW f g 184 [some (.ref (gAd g 0)), some (.int c1), some (.int c2), some (.int c3), some (.int w4), some (.int w5), some (.int c6), some (.int w7), none, none, none] [] q 2 12) (q : aS) (h : JL_isSingerRight_152 c1 c2 c3 c6 j4 j5 j7 j8 s0 P B K q) : AW f g 152 [some (.ref (gAd g 0)), some (.int c1), some (.int c2), some (.int c3), some (.int j4), some (.int j5), some (.int c6), some (.int j7), some (.int j8), none, none] [.int s0] q 2 12 := by
  unfold JL_isSingerRight_152 at h
  refine a_istore (pc := 152) hC dL_isSingerRight_152 (Nat.le_of_ble_eq_true rfl) ?_
  refine a_iload (pc := 154) hC dL_isSingerRight_154 rfl ?_
  refine a_if_eq (pc := 156) (tgt := 175) hC dL_isSingerRight_156 (by decide) (fun c => ?_) (fun c => ?_)
  · replace h := h.1 c
    refine a_iconst (pc := 175) hC dL_isSingerRight_175 (v := 0) rfl ?_
    refine a_istore (pc := 176) hC dL_isSingerRight_176 (Nat.le_of_ble_eq_true rfl) ?_
    refine a_iinc (pc := 178) hC dL_isSingerRight_178 rfl (c := 1) rfl ?_
    replace h := h _ rfl
    refine a_goto (pc := 181) (tgt := 46) hC dL_isSingerRight_181 (by decide) ?_
    exact ((hB _ _ _ _ _ h).forget ⟨rfl, rfl, rfl, rfl, rfl, rfl, rfl, rfl, rfl, trivial⟩)
  · replace h := h.2 c
    refine a_aload_n (pc := 159) hC dL_isSingerRight_159 rfl ?_
    refine a_iload_n (pc := 160) hC dL_isSingerRight_160 rfl ?_
    refine a_iload (pc := 161) hC dL_isSingerRight_161 rfl ?_
    refine a_callV (pc := 163) hC hR vm_X9_canRent tw_1006 cl_X9 (oX_0 hX) ⟨(Nat.le_of_ble_eq_true rfl), (Nat.le_of_ble_eq_true rfl), (Nat.le_of_ble_eq_true rfl), (Nat.le_of_ble_eq_true rfl)⟩ dL_isSingerRight_163 (t_X9_canRent0 hX hC.tr _ _ _ _ h) rfl rfl rfl (Nat.le_of_ble_eq_true rfl) (fun r17 q18 h => ?_)
    have z_r17 := h.1
    replace h := h.2
    refine a_iload (pc := 166) hC dL_isSingerRight_166 rfl ?_
    refine a_icmp_ne (pc := 168) (tgt := 175) hC dL_isSingerRight_168 (by decide) (fun c => ?_) (fun c => ?_)
    · replace h := h.1 c
      refine a_iconst (pc := 175) hC dL_isSingerRight_175 (v := 0) rfl ?_
      refine a_istore (pc := 176) hC dL_isSingerRight_176 (Nat.le_of_ble_eq_true rfl) ?_
      refine a_iinc (pc := 178) hC dL_isSingerRight_178 rfl (c := 1) rfl ?_
      replace h := h _ rfl
      refine a_goto (pc := 181) (tgt := 46) hC dL_isSingerRight_181 (by decide) ?_
      exact ((hB _ _ _ _ _ h).forget ⟨rfl, rfl, rfl, rfl, rfl, rfl, rfl, rfl, rfl, trivial⟩)
    · replace h := h.2 c
      refine a_iconst (pc := 171) hC dL_isSingerRight_171 (v := 1) rfl ?_
      refine a_goto (pc := 172) (tgt := 176) hC dL_isSingerRight_172 (by decide) ?_
      refine a_istore (pc := 176) hC dL_isSingerRight_176 (Nat.le_of_ble_eq_true rfl) ?_
      refine a_iinc (pc := 178) hC dL_isSingerRight_178 rfl (c := 1) rfl ?_
      replace h := h _ rfl
      refine a_goto (pc := 181) (tgt := 46) hC dL_isSingerRight_181 (by decide) ?_
      exact ((hB _ _ _ _ _ h).forget ⟨rfl, rfl, rfl, rfl, rfl, rfl, rfl, rfl, rfl, trivial⟩)
set_option maxRecDepth 20000 in
theorem tJL_isSingerRight_151 {f : aF} {g : aG} (hX : isX g) (hN : isNc g) (P : Int32 → aS → Prop) (hR : f_R f = aR 13 10 60) (hC : aOK f g cL_isSingerRight 11 RL) (hE : aEi f g .boolean (fun r u => (r = 0 ∨ r = 1) ∧ P r u) (fun _ _ => False) 10 60) (c1 : Int32) (c2 : Int32) (c3 : Int32) (c6 : Int32) (j4 : Int32) (j5 : Int32) (j7 : Int32) (j8 : Int32) (B : Int32 → Int32 → Int32 → Int32 → aS → Prop) (K : Int32 → Int32 → Int32 → aS → Prop) (hB : ∀ (w4 : Int32) (w5 : Int32) (w7 : Int32) (w8 : Int32) (q : aS), B w4 w5 w7 w8 q → AW f g 46 [some (.ref (gAd g 0)), some (.int c1), some (.int c2), some (.int c3), some (.int w4), some (.int w5), some (.int c6), some (.int w7), some (.int w8), none, none] [] q 2 12) (hK : ∀ (w4 : Int32) (w5 : Int32) (w7 : Int32) (q : aS), K w4 w5 w7 q → AW f g 184 [some (.ref (gAd g 0)), some (.int c1), some (.int c2), some (.int c3), some (.int w4), some (.int w5), some (.int c6), some (.int w7), none, none, none] [] q 2 12) (q : aS) (h : JL_isSingerRight_151 c1 c2 c3 c6 j4 j5 j7 j8 P B K q) : AW f g 151 [some (.ref (gAd g 0)), some (.int c1), some (.int c2), some (.int c3), some (.int j4), some (.int j5), some (.int c6), some (.int j7), some (.int j8), none, none] [] q 2 12 := by
  unfold JL_isSingerRight_151 at h
  refine a_iconst (pc := 151) hC dL_isSingerRight_151 (v := 0) rfl ?_
  exact (tJL_isSingerRight_152 hX hN P hR hC hE _ _ _ _ _ _ _ _ _ _ _ hB hK _ h).forget ⟨rfl, rfl, rfl, rfl, rfl, rfl, rfl, rfl, rfl, trivial⟩
set_option maxRecDepth 20000 in
theorem tJL_isSingerRight_107 {f : aF} {g : aG} (hX : isX g) (hN : isNc g) (P : Int32 → aS → Prop) (hR : f_R f = aR 13 10 60) (hC : aOK f g cL_isSingerRight 11 RL) (hE : aEi f g .boolean (fun r u => (r = 0 ∨ r = 1) ∧ P r u) (fun _ _ => False) 10 60) (c1 : Int32) (c2 : Int32) (c3 : Int32) (c6 : Int32) (j4 : Int32) (j7 : Int32) (j8 : Int32) (s0 : Int32) (s1 : Int32) (B : Int32 → Int32 → Int32 → Int32 → aS → Prop) (K : Int32 → Int32 → Int32 → aS → Prop) (hB : ∀ (w4 : Int32) (w5 : Int32) (w7 : Int32) (w8 : Int32) (q : aS), B w4 w5 w7 w8 q → AW f g 46 [some (.ref (gAd g 0)), some (.int c1), some (.int c2), some (.int c3), some (.int w4), some (.int w5), some (.int c6), some (.int w7), some (.int w8), none, none] [] q 2 12) (hK : ∀ (w4 : Int32) (w5 : Int32) (w7 : Int32) (q : aS), K w4 w5 w7 q → AW f g 184 [some (.ref (gAd g 0)), some (.int c1), some (.int c2), some (.int c3), some (.int w4), some (.int w5), some (.int c6), some (.int w7), none, none, none] [] q 2 12) (q : aS) (h : JL_isSingerRight_107 c1 c2 c3 c6 j4 j7 j8 s0 s1 P B K q) : AW f g 107 [some (.ref (gAd g 0)), some (.int c1), some (.int c2), some (.int c3), some (.int j4), none, some (.int c6), some (.int j7), some (.int j8), none, none] [.int s0, .int s1] q 2 12 := by
  unfold JL_isSingerRight_107 at h
  refine a_iadd (pc := 107) hC dL_isSingerRight_107 ?_
  refine a_istore (pc := 108) hC dL_isSingerRight_108 (Nat.le_of_ble_eq_true rfl) ?_
  replace h := h _ rfl
  refine a_aload_n (pc := 110) hC dL_isSingerRight_110 rfl ?_
  refine a_iload (pc := 111) hC dL_isSingerRight_111 rfl ?_
  refine a_iconst (pc := 113) hC dL_isSingerRight_113 (v := 2) rfl ?_
  refine a_callV (pc := 114) hC hR vm_X9_echoOf tw_510 cl_X9 (oX_0 hX) ⟨(Nat.le_of_ble_eq_true rfl), (Nat.le_of_ble_eq_true rfl), (Nat.le_of_ble_eq_true rfl), (Nat.le_of_ble_eq_true rfl)⟩ dL_isSingerRight_114 (t_X9_echoOf0 hX hC.tr _ _ _ _ h) rfl rfl rfl (Nat.le_of_ble_eq_true rfl) (fun r14 q15 h => ?_)
  refine a_if_ge (pc := 117) (tgt := 151) hC dL_isSingerRight_117 (by decide) (fun c => ?_) (fun c => ?_)
  · replace h := h.1 c
    exact (tJL_isSingerRight_151 hX hN P hR hC hE _ _ _ _ _ _ _ _ _ _ hB hK _ h).forget ⟨rfl, rfl, rfl, rfl, rfl, rfl, rfl, rfl, rfl, trivial⟩
  · replace h := h.2 c
    refine a_aload_n (pc := 120) hC dL_isSingerRight_120 rfl ?_
    refine a_iload (pc := 121) hC dL_isSingerRight_121 rfl ?_
    refine a_iconst (pc := 123) hC dL_isSingerRight_123 (v := 0) rfl ?_
    refine a_callV (pc := 124) hC hR vm_X9_echoOf tw_510 cl_X9 (oX_0 hX) ⟨(Nat.le_of_ble_eq_true rfl), (Nat.le_of_ble_eq_true rfl), (Nat.le_of_ble_eq_true rfl), (Nat.le_of_ble_eq_true rfl)⟩ dL_isSingerRight_124 (t_X9_echoOf0 hX hC.tr _ _ _ _ h) rfl rfl rfl (Nat.le_of_ble_eq_true rfl) (fun r21 q22 h => ?_)
    refine a_iload_n (pc := 127) hC dL_isSingerRight_127 rfl ?_
    refine a_icmp_ne (pc := 128) (tgt := 151) hC dL_isSingerRight_128 (by decide) (fun c => ?_) (fun c => ?_)
    · replace h := h.1 c
      exact (tJL_isSingerRight_151 hX hN P hR hC hE _ _ _ _ _ _ _ _ _ _ hB hK _ h).forget ⟨rfl, rfl, rfl, rfl, rfl, rfl, rfl, rfl, rfl, trivial⟩
    · replace h := h.2 c
      refine a_aload_n (pc := 131) hC dL_isSingerRight_131 rfl ?_
      refine a_iload_n (pc := 132) hC dL_isSingerRight_132 rfl ?_
      refine a_iconst (pc := 133) hC dL_isSingerRight_133 (v := 1) rfl ?_
      refine a_callV (pc := 134) hC hR vm_X9_singerOf tw_524 cl_X9 (oX_0 hX) ⟨(Nat.le_of_ble_eq_true rfl), (Nat.le_of_ble_eq_true rfl), (Nat.le_of_ble_eq_true rfl), (Nat.le_of_ble_eq_true rfl)⟩ dL_isSingerRight_134 (t_X9_singerOf0 hX hC.tr _ _ _ _ h) rfl rfl rfl (Nat.le_of_ble_eq_true rfl) (fun r23 q24 h => ?_)
      refine a_aload_n (pc := 137) hC dL_isSingerRight_137 rfl ?_
      refine a_iload (pc := 138) hC dL_isSingerRight_138 rfl ?_
      refine a_iconst (pc := 140) hC dL_isSingerRight_140 (v := 1) rfl ?_
      refine a_callV (pc := 141) hC hR vm_X9_echoOf tw_510 cl_X9 (oX_0 hX) ⟨(Nat.le_of_ble_eq_true rfl), (Nat.le_of_ble_eq_true rfl), (Nat.le_of_ble_eq_true rfl), (Nat.le_of_ble_eq_true rfl)⟩ dL_isSingerRight_141 (t_X9_echoOf0 hX hC.tr _ _ _ _ h) rfl rfl rfl (Nat.le_of_ble_eq_true rfl) (fun r25 q26 h => ?_)
      refine a_icmp_lt (pc := 144) (tgt := 151) hC dL_isSingerRight_144 (by decide) (fun c => ?_) (fun c => ?_)
      · replace h := h.1 c
        exact (tJL_isSingerRight_151 hX hN P hR hC hE _ _ _ _ _ _ _ _ _ _ hB hK _ h).forget ⟨rfl, rfl, rfl, rfl, rfl, rfl, rfl, rfl, rfl, trivial⟩
      · replace h := h.2 c
        refine a_iconst (pc := 147) hC dL_isSingerRight_147 (v := 1) rfl ?_
        refine a_goto (pc := 148) (tgt := 152) hC dL_isSingerRight_148 (by decide) ?_
        exact (tJL_isSingerRight_152 hX hN P hR hC hE _ _ _ _ _ _ _ _ _ _ _ hB hK _ h).forget ⟨rfl, rfl, rfl, rfl, rfl, rfl, rfl, rfl, rfl, trivial⟩
set_option maxRecDepth 20000 in
theorem tJL_isSingerRight_86 {f : aF} {g : aG} (hX : isX g) (hN : isNc g) (P : Int32 → aS → Prop) (hR : f_R f = aR 13 10 60) (hC : aOK f g cL_isSingerRight 11 RL) (hE : aEi f g .boolean (fun r u => (r = 0 ∨ r = 1) ∧ P r u) (fun _ _ => False) 10 60) (c1 : Int32) (c2 : Int32) (c3 : Int32) (c6 : Int32) (j5 : Int32) (j7 : Int32) (j8 : Int32) (j9 : Int32) (s0 : Int32) (s1 : Int32) (B : Int32 → Int32 → Int32 → Int32 → aS → Prop) (K : Int32 → Int32 → Int32 → aS → Prop) (hB : ∀ (w4 : Int32) (w5 : Int32) (w7 : Int32) (w8 : Int32) (q : aS), B w4 w5 w7 w8 q → AW f g 46 [some (.ref (gAd g 0)), some (.int c1), some (.int c2), some (.int c3), some (.int w4), some (.int w5), some (.int c6), some (.int w7), some (.int w8), none, none] [] q 2 12) (hK : ∀ (w4 : Int32) (w5 : Int32) (w7 : Int32) (q : aS), K w4 w5 w7 q → AW f g 184 [some (.ref (gAd g 0)), some (.int c1), some (.int c2), some (.int c3), some (.int w4), some (.int w5), some (.int c6), some (.int w7), none, none, none] [] q 2 12) (q : aS) (h : JL_isSingerRight_86 c1 c2 c3 c6 j5 j7 j8 j9 s0 s1 P B K q) : AW f g 86 [some (.ref (gAd g 0)), some (.int c1), some (.int c2), some (.int c3), none, some (.int j5), some (.int c6), some (.int j7), some (.int j8), some (.int j9), none] [.int s0, .int s1] q 2 12 := by
  unfold JL_isSingerRight_86 at h
  refine a_iadd (pc := 86) hC dL_isSingerRight_86 ?_
  refine a_istore (pc := 87) hC dL_isSingerRight_87 (Nat.le_of_ble_eq_true rfl) ?_
  replace h := h _ rfl
  refine a_iload (pc := 89) hC dL_isSingerRight_89 rfl ?_
  refine a_iload (pc := 91) hC dL_isSingerRight_91 rfl ?_
  refine a_if_eq (pc := 93) (tgt := 106) hC dL_isSingerRight_93 (by decide) (fun c => ?_) (fun c => ?_)
  · replace h := h.1 c
    refine a_iconst (pc := 106) hC dL_isSingerRight_106 (v := 0) rfl ?_
    exact (tJL_isSingerRight_107 hX hN P hR hC hE _ _ _ _ _ _ _ _ _ _ _ hB hK _ h).forget ⟨rfl, rfl, rfl, rfl, rfl, rfl, rfl, rfl, trivial⟩
  · replace h := h.2 c
    refine a_aload_n (pc := 96) hC dL_isSingerRight_96 rfl ?_
    refine a_iload (pc := 97) hC dL_isSingerRight_97 rfl ?_
    refine a_iconst (pc := 99) hC dL_isSingerRight_99 (v := 1) rfl ?_
    refine a_callV (pc := 100) hC hR vm_X9_echoOf tw_510 cl_X9 (oX_0 hX) ⟨(Nat.le_of_ble_eq_true rfl), (Nat.le_of_ble_eq_true rfl), (Nat.le_of_ble_eq_true rfl), (Nat.le_of_ble_eq_true rfl)⟩ dL_isSingerRight_100 (t_X9_echoOf0 hX hC.tr _ _ _ _ h) rfl rfl rfl (Nat.le_of_ble_eq_true rfl) (fun r27 q28 h => ?_)
    refine a_goto (pc := 103) (tgt := 107) hC dL_isSingerRight_103 (by decide) ?_
    exact (tJL_isSingerRight_107 hX hN P hR hC hE _ _ _ _ _ _ _ _ _ _ _ hB hK _ h).forget ⟨rfl, rfl, rfl, rfl, rfl, rfl, rfl, rfl, trivial⟩
set_option maxRecDepth 20000 in
theorem tJL_isSingerRight_72 {f : aF} {g : aG} (hX : isX g) (hN : isNc g) (P : Int32 → aS → Prop) (hR : f_R f = aR 13 10 60) (hC : aOK f g cL_isSingerRight 11 RL) (hE : aEi f g .boolean (fun r u => (r = 0 ∨ r = 1) ∧ P r u) (fun _ _ => False) 10 60) (c1 : Int32) (c2 : Int32) (c3 : Int32) (c6 : Int32) (j4 : Int32) (j5 : Int32) (j7 : Int32) (j8 : Int32) (s0 : Int32) (B : Int32 → Int32 → Int32 → Int32 → aS → Prop) (K : Int32 → Int32 → Int32 → aS → Prop) (hB : ∀ (w4 : Int32) (w5 : Int32) (w7 : Int32) (w8 : Int32) (q : aS), B w4 w5 w7 w8 q → AW f g 46 [some (.ref (gAd g 0)), some (.int c1), some (.int c2), some (.int c3), some (.int w4), some (.int w5), some (.int c6), some (.int w7), some (.int w8), none, none] [] q 2 12) (hK : ∀ (w4 : Int32) (w5 : Int32) (w7 : Int32) (q : aS), K w4 w5 w7 q → AW f g 184 [some (.ref (gAd g 0)), some (.int c1), some (.int c2), some (.int c3), some (.int w4), some (.int w5), some (.int c6), some (.int w7), none, none, none] [] q 2 12) (q : aS) (h : JL_isSingerRight_72 c1 c2 c3 c6 j4 j5 j7 j8 s0 P B K q) : AW f g 72 [some (.ref (gAd g 0)), some (.int c1), some (.int c2), some (.int c3), some (.int j4), some (.int j5), some (.int c6), some (.int j7), some (.int j8), none, none] [.int s0] q 2 12 := by
  unfold JL_isSingerRight_72 at h
  refine a_istore (pc := 72) hC dL_isSingerRight_72 (Nat.le_of_ble_eq_true rfl) ?_
  refine a_iload (pc := 74) hC dL_isSingerRight_74 rfl ?_
  refine a_iload (pc := 76) hC dL_isSingerRight_76 rfl ?_
  refine a_if_eq (pc := 78) (tgt := 85) hC dL_isSingerRight_78 (by decide) (fun c => ?_) (fun c => ?_)
  · replace h := h.1 c
    refine a_iconst (pc := 85) hC dL_isSingerRight_85 (v := 0) rfl ?_
    exact (tJL_isSingerRight_86 hX hN P hR hC hE _ _ _ _ _ _ _ _ _ _ _ _ hB hK _ h).forget ⟨rfl, rfl, rfl, rfl, rfl, rfl, rfl, rfl, rfl, trivial⟩
  · replace h := h.2 c
    refine a_iconst (pc := 81) hC dL_isSingerRight_81 (v := 1) rfl ?_
    refine a_goto (pc := 82) (tgt := 86) hC dL_isSingerRight_82 (by decide) ?_
    exact (tJL_isSingerRight_86 hX hN P hR hC hE _ _ _ _ _ _ _ _ _ _ _ _ hB hK _ h).forget ⟨rfl, rfl, rfl, rfl, rfl, rfl, rfl, rfl, rfl, trivial⟩
set_option maxRecDepth 20000 in
theorem tLL_isSingerRight_46 {f : aF} {g : aG} (hX : isX g) (hN : isNc g) (P : Int32 → aS → Prop) (hR : f_R f = aR 13 10 60) (hC : aOK f g cL_isSingerRight 11 RL) (hE : aEi f g .boolean (fun r u => (r = 0 ∨ r = 1) ∧ P r u) (fun _ _ => False) 10 60) (c1 : Int32) (c2 : Int32) (c3 : Int32) (c6 : Int32) {K : Int32 → Int32 → Int32 → aS → Prop} (hK : ∀ (w4 : Int32) (w5 : Int32) (w7 : Int32) (q : aS), K w4 w5 w7 q → AW f g 184 [some (.ref (gAd g 0)), some (.int c1), some (.int c2), some (.int c3), some (.int w4), some (.int w5), some (.int c6), some (.int w7), none, none, none] [] q 2 12) : ∀ (N : Nat) (v4 : Int32) (v5 : Int32) (v7 : Int32) (v8 : Int32) (q : aS), LL_isSingerRight_46 c1 c2 c3 c6 P K N v4 v5 v7 v8 q → AW f g 46 [some (.ref (gAd g 0)), some (.int c1), some (.int c2), some (.int c3), some (.int v4), some (.int v5), some (.int c6), some (.int v7), some (.int v8), none, none] [] q 2 12 := by
  intro N
  induction N with
  | zero =>
    intro v4 v5 v7 v8 q h
    exact h.elim
  | succ N ih =>
    intro v4 v5 v7 v8 q h
    unfold LL_isSingerRight_46 at h
    refine a_iload (pc := 46) hC dL_isSingerRight_46 rfl ?_
    refine a_aload_n (pc := 48) hC dL_isSingerRight_48 rfl ?_
    refine a_iconst (pc := 49) hC dL_isSingerRight_49 (v := 1) rfl ?_
    refine a_callV (pc := 50) hC hR vm_X9_account tw_327 cl_X9 (oX_0 hX) ⟨(Nat.le_of_ble_eq_true rfl), (Nat.le_of_ble_eq_true rfl), (Nat.le_of_ble_eq_true rfl), (Nat.le_of_ble_eq_true rfl)⟩ dL_isSingerRight_50 (t_X9_account0 hX hC.tr _ _ _ h) rfl rfl rfl (Nat.le_of_ble_eq_true rfl) (fun r8 q9 h => ?_)
    refine a_icmp_ge (pc := 53) (tgt := 184) hC dL_isSingerRight_53 (by decide) (fun c => ?_) (fun c => ?_)
    · replace h := h.1 c
      exact ((hK _ _ _ _ h).forget ⟨rfl, rfl, rfl, rfl, rfl, rfl, rfl, rfl, trivial⟩)
    · replace h := h.2 c
      refine a_aload_n (pc := 56) hC dL_isSingerRight_56 rfl ?_
      refine a_iload (pc := 57) hC dL_isSingerRight_57 rfl ?_
      refine a_iconst (pc := 59) hC dL_isSingerRight_59 (v := 2) rfl ?_
      refine a_callV (pc := 60) hC hR vm_X9_echoOf tw_510 cl_X9 (oX_0 hX) ⟨(Nat.le_of_ble_eq_true rfl), (Nat.le_of_ble_eq_true rfl), (Nat.le_of_ble_eq_true rfl), (Nat.le_of_ble_eq_true rfl)⟩ dL_isSingerRight_60 (t_X9_echoOf0 hX hC.tr _ _ _ _ h) rfl rfl rfl (Nat.le_of_ble_eq_true rfl) (fun r10 q11 h => ?_)
      refine a_iload_n (pc := 63) hC dL_isSingerRight_63 rfl ?_
      refine a_icmp_ne (pc := 64) (tgt := 71) hC dL_isSingerRight_64 (by decide) (fun c => ?_) (fun c => ?_)
      · replace h := h.1 c
        refine a_iconst (pc := 71) hC dL_isSingerRight_71 (v := 0) rfl ?_
        exact (tJL_isSingerRight_72 hX hN P hR hC hE _ _ _ _ _ _ _ _ _ _ _ ih hK _ h).forget ⟨rfl, rfl, rfl, rfl, rfl, rfl, rfl, rfl, rfl, trivial⟩
      · replace h := h.2 c
        refine a_iconst (pc := 67) hC dL_isSingerRight_67 (v := 1) rfl ?_
        refine a_goto (pc := 68) (tgt := 72) hC dL_isSingerRight_68 (by decide) ?_
        exact (tJL_isSingerRight_72 hX hN P hR hC hE _ _ _ _ _ _ _ _ _ _ _ ih hK _ h).forget ⟨rfl, rfl, rfl, rfl, rfl, rfl, rfl, rfl, rfl, trivial⟩
set_option maxRecDepth 20000 in
theorem tJL_isSingerRight_285 {f : aF} {g : aG} (hX : isX g) (hN : isNc g) (P : Int32 → aS → Prop) (hR : f_R f = aR 13 10 60) (hC : aOK f g cL_isSingerRight 11 RL) (hE : aEi f g .boolean (fun r u => (r = 0 ∨ r = 1) ∧ P r u) (fun _ _ => False) 10 60) (c1 : Int32) (c2 : Int32) (c3 : Int32) (c4 : Int32) (c5 : Int32) (j6 : Int32) (j8 : Int32) (s0 : Int32) (B : Int32 → Int32 → Int32 → aS → Prop) (K : Int32 → Int32 → aS → Prop) (hB : ∀ (w6 : Int32) (w7 : Int32) (w8 : Int32) (q : aS), B w6 w7 w8 q → AW f g 187 [some (.ref (gAd g 0)), some (.int c1), some (.int c2), some (.int c3), some (.int c4), some (.int c5), some (.int w6), some (.int w7), some (.int w8), none, none] [] q 2 12) (hK : ∀ (w6 : Int32) (w7 : Int32) (q : aS), K w6 w7 q → AW f g 321 [some (.ref (gAd g 0)), some (.int c1), some (.int c2), some (.int c3), some (.int c4), some (.int c5), some (.int w6), some (.int w7), none, none, none] [] q 2 12) (q : aS) (h : JL_isSingerRight_285 c1 c2 c3 c4 c5 j6 j8 s0 P B K q) : AW f g 285 [some (.ref (gAd g 0)), some (.int c1), some (.int c2), some (.int c3), some (.int c4), some (.int c5), some (.int j6), none, some (.int j8), none, none] [.int s0] q 2 12 := by
  unfold JL_isSingerRight_285 at h
  refine a_istore (pc := 285) hC dL_isSingerRight_285 (Nat.le_of_ble_eq_true rfl) ?_
  refine a_aload_n (pc := 287) hC dL_isSingerRight_287 rfl ?_
  refine a_iload_n (pc := 288) hC dL_isSingerRight_288 rfl ?_
  refine a_iload (pc := 289) hC dL_isSingerRight_289 rfl ?_
  refine a_iconst (pc := 291) hC dL_isSingerRight_291 (v := 0) rfl ?_
  refine a_callS (pc := 292) hC hR sm_L_tones tw_1018 ⟨(Nat.le_of_ble_eq_true rfl), (Nat.le_of_ble_eq_true rfl), (Nat.le_of_ble_eq_true rfl), (Nat.le_of_ble_eq_true rfl)⟩ dL_isSingerRight_292 (t_L_tones hX hC.tr _ _ _ _ _ h) rfl rfl rfl (Nat.le_of_ble_eq_true rfl) (fun r37 q38 h => ?_)
  refine a_aload_n (pc := 295) hC dL_isSingerRight_295 rfl ?_
  refine a_iload_n (pc := 296) hC dL_isSingerRight_296 rfl ?_
  refine a_iload (pc := 297) hC dL_isSingerRight_297 rfl ?_
  refine a_iconst (pc := 299) hC dL_isSingerRight_299 (v := 0) rfl ?_
  refine a_callS (pc := 300) hC hR sm_L_tones tw_1018 ⟨(Nat.le_of_ble_eq_true rfl), (Nat.le_of_ble_eq_true rfl), (Nat.le_of_ble_eq_true rfl), (Nat.le_of_ble_eq_true rfl)⟩ dL_isSingerRight_300 (t_L_tones hX hC.tr _ _ _ _ _ h) rfl rfl rfl (Nat.le_of_ble_eq_true rfl) (fun r39 q40 h => ?_)
  refine a_icmp_le (pc := 303) (tgt := 311) hC dL_isSingerRight_303 (by decide) (fun c => ?_) (fun c => ?_)
  · replace h := h.1 c
    refine a_iload (pc := 311) hC dL_isSingerRight_311 rfl ?_
    refine a_istore (pc := 313) hC dL_isSingerRight_313 (Nat.le_of_ble_eq_true rfl) ?_
    refine a_iinc (pc := 315) hC dL_isSingerRight_315 rfl (c := 1) rfl ?_
    replace h := h _ rfl
    refine a_goto (pc := 318) (tgt := 187) hC dL_isSingerRight_318 (by decide) ?_
    exact ((hB _ _ _ _ h).forget ⟨rfl, rfl, rfl, rfl, rfl, rfl, rfl, rfl, rfl, trivial⟩)
  · replace h := h.2 c
    refine a_iload (pc := 306) hC dL_isSingerRight_306 rfl ?_
    refine a_goto (pc := 308) (tgt := 313) hC dL_isSingerRight_308 (by decide) ?_
    refine a_istore (pc := 313) hC dL_isSingerRight_313 (Nat.le_of_ble_eq_true rfl) ?_
    refine a_iinc (pc := 315) hC dL_isSingerRight_315 rfl (c := 1) rfl ?_
    replace h := h _ rfl
    refine a_goto (pc := 318) (tgt := 187) hC dL_isSingerRight_318 (by decide) ?_
    exact ((hB _ _ _ _ h).forget ⟨rfl, rfl, rfl, rfl, rfl, rfl, rfl, rfl, rfl, trivial⟩)
set_option maxRecDepth 20000 in
theorem tJL_isSingerRight_284 {f : aF} {g : aG} (hX : isX g) (hN : isNc g) (P : Int32 → aS → Prop) (hR : f_R f = aR 13 10 60) (hC : aOK f g cL_isSingerRight 11 RL) (hE : aEi f g .boolean (fun r u => (r = 0 ∨ r = 1) ∧ P r u) (fun _ _ => False) 10 60) (c1 : Int32) (c2 : Int32) (c3 : Int32) (c4 : Int32) (c5 : Int32) (j6 : Int32) (j8 : Int32) (B : Int32 → Int32 → Int32 → aS → Prop) (K : Int32 → Int32 → aS → Prop) (hB : ∀ (w6 : Int32) (w7 : Int32) (w8 : Int32) (q : aS), B w6 w7 w8 q → AW f g 187 [some (.ref (gAd g 0)), some (.int c1), some (.int c2), some (.int c3), some (.int c4), some (.int c5), some (.int w6), some (.int w7), some (.int w8), none, none] [] q 2 12) (hK : ∀ (w6 : Int32) (w7 : Int32) (q : aS), K w6 w7 q → AW f g 321 [some (.ref (gAd g 0)), some (.int c1), some (.int c2), some (.int c3), some (.int c4), some (.int c5), some (.int w6), some (.int w7), none, none, none] [] q 2 12) (q : aS) (h : JL_isSingerRight_284 c1 c2 c3 c4 c5 j6 j8 P B K q) : AW f g 284 [some (.ref (gAd g 0)), some (.int c1), some (.int c2), some (.int c3), some (.int c4), some (.int c5), some (.int j6), none, some (.int j8), none, none] [] q 2 12 := by
  unfold JL_isSingerRight_284 at h
  refine a_iconst (pc := 284) hC dL_isSingerRight_284 (v := 0) rfl ?_
  exact (tJL_isSingerRight_285 hX hN P hR hC hE _ _ _ _ _ _ _ _ _ _ hB hK _ h).forget ⟨rfl, rfl, rfl, rfl, rfl, rfl, rfl, rfl, trivial⟩
set_option maxRecDepth 20000 in
theorem tJL_isSingerRight_243 {f : aF} {g : aG} (hX : isX g) (hN : isNc g) (P : Int32 → aS → Prop) (hR : f_R f = aR 13 10 60) (hC : aOK f g cL_isSingerRight 11 RL) (hE : aEi f g .boolean (fun r u => (r = 0 ∨ r = 1) ∧ P r u) (fun _ _ => False) 10 60) (c1 : Int32) (c2 : Int32) (c3 : Int32) (c4 : Int32) (c5 : Int32) (j6 : Int32) (j7 : Int32) (j8 : Int32) (s0 : Int32) (B : Int32 → Int32 → Int32 → aS → Prop) (K : Int32 → Int32 → aS → Prop) (hB : ∀ (w6 : Int32) (w7 : Int32) (w8 : Int32) (q : aS), B w6 w7 w8 q → AW f g 187 [some (.ref (gAd g 0)), some (.int c1), some (.int c2), some (.int c3), some (.int c4), some (.int c5), some (.int w6), some (.int w7), some (.int w8), none, none] [] q 2 12) (hK : ∀ (w6 : Int32) (w7 : Int32) (q : aS), K w6 w7 q → AW f g 321 [some (.ref (gAd g 0)), some (.int c1), some (.int c2), some (.int c3), some (.int c4), some (.int c5), some (.int w6), some (.int w7), none, none, none] [] q 2 12) (q : aS) (h : JL_isSingerRight_243 c1 c2 c3 c4 c5 j6 j7 j8 s0 P B K q) : AW f g 243 [some (.ref (gAd g 0)), some (.int c1), some (.int c2), some (.int c3), some (.int c4), some (.int c5), some (.int j6), some (.int j7), some (.int j8), none, none] [.int s0] q 2 12 := by
  unfold JL_isSingerRight_243 at h
  refine a_istore (pc := 243) hC dL_isSingerRight_243 (Nat.le_of_ble_eq_true rfl) ?_
  refine a_iload (pc := 245) hC dL_isSingerRight_245 rfl ?_
  refine a_if_eq (pc := 247) (tgt := 284) hC dL_isSingerRight_247 (by decide) (fun c => ?_) (fun c => ?_)
  · replace h := h.1 c
    exact (tJL_isSingerRight_284 hX hN P hR hC hE _ _ _ _ _ _ _ _ _ hB hK _ h).forget ⟨rfl, rfl, rfl, rfl, rfl, rfl, rfl, rfl, trivial⟩
  · replace h := h.2 c
    refine a_aload_n (pc := 250) hC dL_isSingerRight_250 rfl ?_
    refine a_iload_n (pc := 251) hC dL_isSingerRight_251 rfl ?_
    refine a_iload (pc := 252) hC dL_isSingerRight_252 rfl ?_
    refine a_callV (pc := 254) hC hR vm_X9_canEnter tw_1014 cl_X9 (oX_0 hX) ⟨(Nat.le_of_ble_eq_true rfl), (Nat.le_of_ble_eq_true rfl), (Nat.le_of_ble_eq_true rfl), (Nat.le_of_ble_eq_true rfl)⟩ dL_isSingerRight_254 (t_X9_canEnter0 hX hC.tr _ _ _ _ h) rfl rfl rfl (Nat.le_of_ble_eq_true rfl) (fun r43 q44 h => ?_)
    have z_r43 := h.1
    replace h := h.2
    refine a_iload (pc := 257) hC dL_isSingerRight_257 rfl ?_
    refine a_icmp_ne (pc := 259) (tgt := 284) hC dL_isSingerRight_259 (by decide) (fun c => ?_) (fun c => ?_)
    · replace h := h.1 c
      exact (tJL_isSingerRight_284 hX hN P hR hC hE _ _ _ _ _ _ _ _ _ hB hK _ h).forget ⟨rfl, rfl, rfl, rfl, rfl, rfl, rfl, rfl, trivial⟩
    · replace h := h.2 c
      refine a_aload_n (pc := 262) hC dL_isSingerRight_262 rfl ?_
      refine a_iload_n (pc := 263) hC dL_isSingerRight_263 rfl ?_
      refine a_iload (pc := 264) hC dL_isSingerRight_264 rfl ?_
      refine a_callV (pc := 266) hC hR vm_X9_would tw_598 cl_X9 (oX_0 hX) ⟨(Nat.le_of_ble_eq_true rfl), (Nat.le_of_ble_eq_true rfl), (Nat.le_of_ble_eq_true rfl), (Nat.le_of_ble_eq_true rfl)⟩ dL_isSingerRight_266 (t_X9_would0 hX hC.tr _ _ _ _ h) rfl rfl rfl (Nat.le_of_ble_eq_true rfl) (fun r45 q46 h => ?_)
      refine a_aload_n (pc := 269) hC dL_isSingerRight_269 rfl ?_
      refine a_iload_n (pc := 270) hC dL_isSingerRight_270 rfl ?_
      refine a_iload (pc := 271) hC dL_isSingerRight_271 rfl ?_
      refine a_iconst (pc := 273) hC dL_isSingerRight_273 (v := 0) rfl ?_
      refine a_callS (pc := 274) hC hR sm_L_tones tw_1018 ⟨(Nat.le_of_ble_eq_true rfl), (Nat.le_of_ble_eq_true rfl), (Nat.le_of_ble_eq_true rfl), (Nat.le_of_ble_eq_true rfl)⟩ dL_isSingerRight_274 (t_L_tones hX hC.tr _ _ _ _ _ h) rfl rfl rfl (Nat.le_of_ble_eq_true rfl) (fun r47 q48 h => ?_)
      refine a_icmp_ne (pc := 277) (tgt := 284) hC dL_isSingerRight_277 (by decide) (fun c => ?_) (fun c => ?_)
      · replace h := h.1 c
        exact (tJL_isSingerRight_284 hX hN P hR hC hE _ _ _ _ _ _ _ _ _ hB hK _ h).forget ⟨rfl, rfl, rfl, rfl, rfl, rfl, rfl, rfl, trivial⟩
      · replace h := h.2 c
        refine a_iconst (pc := 280) hC dL_isSingerRight_280 (v := 1) rfl ?_
        refine a_goto (pc := 281) (tgt := 285) hC dL_isSingerRight_281 (by decide) ?_
        exact (tJL_isSingerRight_285 hX hN P hR hC hE _ _ _ _ _ _ _ _ _ _ hB hK _ h).forget ⟨rfl, rfl, rfl, rfl, rfl, rfl, rfl, rfl, trivial⟩
set_option maxRecDepth 20000 in
theorem tJL_isSingerRight_242 {f : aF} {g : aG} (hX : isX g) (hN : isNc g) (P : Int32 → aS → Prop) (hR : f_R f = aR 13 10 60) (hC : aOK f g cL_isSingerRight 11 RL) (hE : aEi f g .boolean (fun r u => (r = 0 ∨ r = 1) ∧ P r u) (fun _ _ => False) 10 60) (c1 : Int32) (c2 : Int32) (c3 : Int32) (c4 : Int32) (c5 : Int32) (j6 : Int32) (j7 : Int32) (j8 : Int32) (B : Int32 → Int32 → Int32 → aS → Prop) (K : Int32 → Int32 → aS → Prop) (hB : ∀ (w6 : Int32) (w7 : Int32) (w8 : Int32) (q : aS), B w6 w7 w8 q → AW f g 187 [some (.ref (gAd g 0)), some (.int c1), some (.int c2), some (.int c3), some (.int c4), some (.int c5), some (.int w6), some (.int w7), some (.int w8), none, none] [] q 2 12) (hK : ∀ (w6 : Int32) (w7 : Int32) (q : aS), K w6 w7 q → AW f g 321 [some (.ref (gAd g 0)), some (.int c1), some (.int c2), some (.int c3), some (.int c4), some (.int c5), some (.int w6), some (.int w7), none, none, none] [] q 2 12) (q : aS) (h : JL_isSingerRight_242 c1 c2 c3 c4 c5 j6 j7 j8 P B K q) : AW f g 242 [some (.ref (gAd g 0)), some (.int c1), some (.int c2), some (.int c3), some (.int c4), some (.int c5), some (.int j6), some (.int j7), some (.int j8), none, none] [] q 2 12 := by
  unfold JL_isSingerRight_242 at h
  refine a_iconst (pc := 242) hC dL_isSingerRight_242 (v := 0) rfl ?_
  exact (tJL_isSingerRight_243 hX hN P hR hC hE _ _ _ _ _ _ _ _ _ _ _ hB hK _ h).forget ⟨rfl, rfl, rfl, rfl, rfl, rfl, rfl, rfl, rfl, trivial⟩
set_option maxRecDepth 20000 in
theorem tLL_isSingerRight_187 {f : aF} {g : aG} (hX : isX g) (hN : isNc g) (P : Int32 → aS → Prop) (hR : f_R f = aR 13 10 60) (hC : aOK f g cL_isSingerRight 11 RL) (hE : aEi f g .boolean (fun r u => (r = 0 ∨ r = 1) ∧ P r u) (fun _ _ => False) 10 60) (c1 : Int32) (c2 : Int32) (c3 : Int32) (c4 : Int32) (c5 : Int32) {K : Int32 → Int32 → aS → Prop} (hK : ∀ (w6 : Int32) (w7 : Int32) (q : aS), K w6 w7 q → AW f g 321 [some (.ref (gAd g 0)), some (.int c1), some (.int c2), some (.int c3), some (.int c4), some (.int c5), some (.int w6), some (.int w7), none, none, none] [] q 2 12) : ∀ (N : Nat) (v6 : Int32) (v7 : Int32) (v8 : Int32) (q : aS), LL_isSingerRight_187 c1 c2 c3 c4 c5 P K N v6 v7 v8 q → AW f g 187 [some (.ref (gAd g 0)), some (.int c1), some (.int c2), some (.int c3), some (.int c4), some (.int c5), some (.int v6), some (.int v7), some (.int v8), none, none] [] q 2 12 := by
  intro N
  induction N with
  | zero =>
    intro v6 v7 v8 q h
    exact h.elim
  | succ N ih =>
    intro v6 v7 v8 q h
    unfold LL_isSingerRight_187 at h
    refine a_iload (pc := 187) hC dL_isSingerRight_187 rfl ?_
    refine a_iload_n (pc := 189) hC dL_isSingerRight_189 rfl ?_
    refine a_icmp_ge (pc := 190) (tgt := 321) hC dL_isSingerRight_190 (by decide) (fun c => ?_) (fun c => ?_)
    · replace h := h.1 c
      exact ((hK _ _ _ h).forget ⟨rfl, rfl, rfl, rfl, rfl, rfl, rfl, rfl, trivial⟩)
    · replace h := h.2 c
      refine a_aload_n (pc := 193) hC dL_isSingerRight_193 rfl ?_
      refine a_iload (pc := 194) hC dL_isSingerRight_194 rfl ?_
      refine a_callS (pc := 196) hC hR sm_L_singersIn tw_1010 ⟨(Nat.le_of_ble_eq_true rfl), (Nat.le_of_ble_eq_true rfl), (Nat.le_of_ble_eq_true rfl), (Nat.le_of_ble_eq_true rfl)⟩ dL_isSingerRight_196 (t_L_singersIn hX hC.tr _ _ _ h) rfl rfl rfl (Nat.le_of_ble_eq_true rfl) (fun r33 q34 h => ?_)
      refine a_callS (pc := 199) hC hR sm_J6_bitCount_0f7a4 tw_1013 ⟨(Nat.le_of_ble_eq_true rfl), (Nat.le_of_ble_eq_true rfl), (Nat.le_of_ble_eq_true rfl), (Nat.le_of_ble_eq_true rfl)⟩ dL_isSingerRight_199 (t_J6_bitCount_0f7a4 hX.cl hC.tr _ _ _ h) rfl rfl rfl (Nat.le_of_ble_eq_true rfl) (fun r35 q36 h => ?_)
      refine a_istore (pc := 202) hC dL_isSingerRight_202 (Nat.le_of_ble_eq_true rfl) ?_
      refine a_iload_n (pc := 204) hC dL_isSingerRight_204 rfl ?_
      refine a_iload (pc := 205) hC dL_isSingerRight_205 rfl ?_
      refine a_icmp_eq (pc := 207) (tgt := 242) hC dL_isSingerRight_207 (by decide) (fun c => ?_) (fun c => ?_)
      · replace h := h.1 c
        exact (tJL_isSingerRight_242 hX hN P hR hC hE _ _ _ _ _ _ _ _ _ _ ih hK _ h).forget ⟨rfl, rfl, rfl, rfl, rfl, rfl, rfl, rfl, rfl, trivial⟩
      · replace h := h.2 c
        refine a_iload (pc := 210) hC dL_isSingerRight_210 rfl ?_
        refine a_aload_n (pc := 212) hC dL_isSingerRight_212 rfl ?_
        refine a_iload (pc := 213) hC dL_isSingerRight_213 rfl ?_
        refine a_iconst (pc := 215) hC dL_isSingerRight_215 (v := 0) rfl ?_
        refine a_callV (pc := 216) hC hR vm_X9_roomOf tw_462 cl_X9 (oX_0 hX) ⟨(Nat.le_of_ble_eq_true rfl), (Nat.le_of_ble_eq_true rfl), (Nat.le_of_ble_eq_true rfl), (Nat.le_of_ble_eq_true rfl)⟩ dL_isSingerRight_216 (t_X9_roomOf0 hX hC.tr _ _ _ _ h) rfl rfl rfl (Nat.le_of_ble_eq_true rfl) (fun r49 q50 h => ?_)
        refine a_icmp_ge (pc := 219) (tgt := 242) hC dL_isSingerRight_219 (by decide) (fun c => ?_) (fun c => ?_)
        · replace h := h.1 c
          exact (tJL_isSingerRight_242 hX hN P hR hC hE _ _ _ _ _ _ _ _ _ _ ih hK _ h).forget ⟨rfl, rfl, rfl, rfl, rfl, rfl, rfl, rfl, rfl, trivial⟩
        · replace h := h.2 c
          refine a_iconst (pc := 222) hC dL_isSingerRight_222 (v := 3) rfl ?_
          refine a_iload (pc := 223) hC dL_isSingerRight_223 rfl ?_
          refine a_imul (pc := 225) hC dL_isSingerRight_225 ?_
          refine a_bipush (pc := 226) hC dL_isSingerRight_226 (v := 9) rfl ?_
          refine a_aload_n (pc := 228) hC dL_isSingerRight_228 rfl ?_
          refine a_iload_n (pc := 229) hC dL_isSingerRight_229 rfl ?_
          refine a_iconst (pc := 230) hC dL_isSingerRight_230 (v := 0) rfl ?_
          refine a_callV (pc := 231) hC hR vm_X9_singerOf tw_524 cl_X9 (oX_0 hX) ⟨(Nat.le_of_ble_eq_true rfl), (Nat.le_of_ble_eq_true rfl), (Nat.le_of_ble_eq_true rfl), (Nat.le_of_ble_eq_true rfl)⟩ dL_isSingerRight_231 (t_X9_singerOf0 hX hC.tr _ _ _ _ h) rfl rfl rfl (Nat.le_of_ble_eq_true rfl) (fun r51 q52 h => ?_)
          refine a_isub (pc := 234) hC dL_isSingerRight_234 ?_
          refine a_icmp_gt (pc := 235) (tgt := 242) hC dL_isSingerRight_235 (by decide) (fun c => ?_) (fun c => ?_)
          · replace h := h.1 c
            exact (tJL_isSingerRight_242 hX hN P hR hC hE _ _ _ _ _ _ _ _ _ _ ih hK _ h).forget ⟨rfl, rfl, rfl, rfl, rfl, rfl, rfl, rfl, rfl, trivial⟩
          · replace h := h.2 c
            refine a_iconst (pc := 238) hC dL_isSingerRight_238 (v := 1) rfl ?_
            refine a_goto (pc := 239) (tgt := 243) hC dL_isSingerRight_239 (by decide) ?_
            exact (tJL_isSingerRight_243 hX hN P hR hC hE _ _ _ _ _ _ _ _ _ _ _ ih hK _ h).forget ⟨rfl, rfl, rfl, rfl, rfl, rfl, rfl, rfl, rfl, trivial⟩
set_option maxRecDepth 20000 in
theorem tLL_isSingerRight_436 {f : aF} {g : aG} (hX : isX g) (hN : isNc g) (P : Int32 → aS → Prop) (hR : f_R f = aR 13 10 60) (hC : aOK f g cL_isSingerRight 11 RL) (hE : aEi f g .boolean (fun r u => (r = 0 ∨ r = 1) ∧ P r u) (fun _ _ => False) 10 60) (c1 : Int32) (c3 : Int32) (c7 : Int32) {K : Int32 → aS → Prop} (hK : ∀ (w8 : Int32) (q : aS), K w8 q → AW f g 453 [some (.ref (gAd g 0)), some (.int c1), none, some (.int c3), none, none, none, some (.int c7), some (.int w8), none, none] [] q 6 36) : ∀ (N : Nat) (v8 : Int32) (q : aS), LL_isSingerRight_436 c1 c3 c7 P K N v8 q → AW f g 436 [some (.ref (gAd g 0)), some (.int c1), none, some (.int c3), none, none, none, some (.int c7), some (.int v8), none, none] [] q 6 36 := by
  intro N
  induction N with
  | zero =>
    intro v8 q h
    exact h.elim
  | succ N ih =>
    intro v8 q h
    unfold LL_isSingerRight_436 at h
    refine a_aload_n (pc := 436) hC dL_isSingerRight_436 rfl ?_
    refine a_iload_n (pc := 437) hC dL_isSingerRight_437 rfl ?_
    refine a_iload_n (pc := 438) hC dL_isSingerRight_438 rfl ?_
    refine a_iload (pc := 439) hC dL_isSingerRight_439 rfl ?_
    refine a_callS (pc := 441) hC hR sm_L_tones tw_1018 ⟨(Nat.le_of_ble_eq_true rfl), (Nat.le_of_ble_eq_true rfl), (Nat.le_of_ble_eq_true rfl), (Nat.le_of_ble_eq_true rfl)⟩ dL_isSingerRight_441 (t_L_tones hX hC.tr _ _ _ _ _ h) rfl rfl rfl (Nat.le_of_ble_eq_true rfl) (fun r56 q57 h => ?_)
    refine a_if_le (pc := 444) (tgt := 453) hC dL_isSingerRight_444 (by decide) (fun c => ?_) (fun c => ?_)
    · replace h := h.1 c
      exact ((hK _ _ h).forget ⟨rfl, rfl, rfl, rfl, rfl, trivial⟩)
    · replace h := h.2 c
      refine a_iinc (pc := 447) hC dL_isSingerRight_447 rfl (c := 1) rfl ?_
      replace h := h _ rfl
      refine a_goto (pc := 450) (tgt := 436) hC dL_isSingerRight_450 (by decide) ?_
      exact ((ih _ _ h).forget ⟨rfl, rfl, rfl, rfl, rfl, trivial⟩)
set_option maxRecDepth 20000 in
theorem tJL_isSingerRight_390 {f : aF} {g : aG} (hX : isX g) (hN : isNc g) (P : Int32 → aS → Prop) (hR : f_R f = aR 13 10 60) (hC : aOK f g cL_isSingerRight 11 RL) (hE : aEi f g .boolean (fun r u => (r = 0 ∨ r = 1) ∧ P r u) (fun _ _ => False) 10 60) (j1 : Int32) (j3 : Int32) (s0 : Int32) (q : aS) (h : JL_isSingerRight_390 j1 j3 s0 P q) : AW f g 390 [some (.ref (gAd g 0)), some (.int j1), none, some (.int j3), none, none, none, none, none, none, none] [.int s0] q 6 36 := by
  unfold JL_isSingerRight_390 at h
  refine a_istore (pc := 390) hC dL_isSingerRight_390 (Nat.le_of_ble_eq_true rfl) ?_
  refine a_iload_n (pc := 392) hC dL_isSingerRight_392 rfl ?_
  refine a_if_ge (pc := 393) (tgt := 433) hC dL_isSingerRight_393 (by decide) (fun c => ?_) (fun c => ?_)
  · replace h := h.1 c
    refine a_iconst (pc := 433) hC dL_isSingerRight_433 (v := 0) rfl ?_
    refine a_istore (pc := 434) hC dL_isSingerRight_434 (Nat.le_of_ble_eq_true rfl) ?_
    obtain ⟨N, h⟩ := h
    refine (tLL_isSingerRight_436 hX hN P hR hC hE _ _ _ (fun y59 q60 h => ?_) N _ _ h).forget ⟨rfl, rfl, rfl, rfl, rfl, trivial⟩
    refine a_iload (pc := 453) hC dL_isSingerRight_453 rfl ?_
    refine a_if_eq (pc := 455) (tgt := 512) hC dL_isSingerRight_455 (by decide) (fun c => ?_) (fun c => ?_)
    · replace h := h.1 c
      refine a_iconst (pc := 512) hC dL_isSingerRight_512 (v := 0) rfl ?_
      exact a_bret (pc := 513) hC hE (Or.inl rfl) h (Nat.le_of_ble_eq_true rfl) (Nat.le_of_ble_eq_true rfl) dL_isSingerRight_513
    · replace h := h.2 c
      refine a_aload_n (pc := 458) hC dL_isSingerRight_458 rfl ?_
      refine a_iload_n (pc := 459) hC dL_isSingerRight_459 rfl ?_
      refine a_callV (pc := 460) hC hR vm_X9_tones tw_540 cl_X9 (oX_0 hX) ⟨(Nat.le_of_ble_eq_true rfl), (Nat.le_of_ble_eq_true rfl), (Nat.le_of_ble_eq_true rfl), (Nat.le_of_ble_eq_true rfl)⟩ dL_isSingerRight_460 (t_X9_tones0 hX hC.tr _ _ _ h) rfl rfl rfl (Nat.le_of_ble_eq_true rfl) (fun r61 q62 h => ?_)
      refine a_aload_n (pc := 463) hC dL_isSingerRight_463 rfl ?_
      refine a_iload_n (pc := 464) hC dL_isSingerRight_464 rfl ?_
      refine a_iload_n (pc := 465) hC dL_isSingerRight_465 rfl ?_
      refine a_iconst (pc := 466) hC dL_isSingerRight_466 (v := 0) rfl ?_
      refine a_callS (pc := 467) hC hR sm_L_tones tw_1018 ⟨(Nat.le_of_ble_eq_true rfl), (Nat.le_of_ble_eq_true rfl), (Nat.le_of_ble_eq_true rfl), (Nat.le_of_ble_eq_true rfl)⟩ dL_isSingerRight_467 (t_L_tones hX hC.tr _ _ _ _ _ h) rfl rfl rfl (Nat.le_of_ble_eq_true rfl) (fun r63 q64 h => ?_)
      refine a_icmp_ne (pc := 470) (tgt := 512) hC dL_isSingerRight_470 (by decide) (fun c => ?_) (fun c => ?_)
      · replace h := h.1 c
        refine a_iconst (pc := 512) hC dL_isSingerRight_512 (v := 0) rfl ?_
        exact a_bret (pc := 513) hC hE (Or.inl rfl) h (Nat.le_of_ble_eq_true rfl) (Nat.le_of_ble_eq_true rfl) dL_isSingerRight_513
      · replace h := h.2 c
        refine a_aload_n (pc := 473) hC dL_isSingerRight_473 rfl ?_
        refine a_iload_n (pc := 474) hC dL_isSingerRight_474 rfl ?_
        refine a_callV (pc := 475) hC hR vm_X9_tonesAgain tw_1022 cl_X9 (oX_0 hX) ⟨(Nat.le_of_ble_eq_true rfl), (Nat.le_of_ble_eq_true rfl), (Nat.le_of_ble_eq_true rfl), (Nat.le_of_ble_eq_true rfl)⟩ dL_isSingerRight_475 (t_X9_tonesAgain0 hX hC.tr _ _ _ h) rfl rfl rfl (Nat.le_of_ble_eq_true rfl) (fun r65 q66 h => ?_)
        refine a_aload_n (pc := 478) hC dL_isSingerRight_478 rfl ?_
        refine a_iload_n (pc := 479) hC dL_isSingerRight_479 rfl ?_
        refine a_iload_n (pc := 480) hC dL_isSingerRight_480 rfl ?_
        refine a_iconst (pc := 481) hC dL_isSingerRight_481 (v := 0) rfl ?_
        refine a_callS (pc := 482) hC hR sm_L_tones tw_1018 ⟨(Nat.le_of_ble_eq_true rfl), (Nat.le_of_ble_eq_true rfl), (Nat.le_of_ble_eq_true rfl), (Nat.le_of_ble_eq_true rfl)⟩ dL_isSingerRight_482 (t_L_tones hX hC.tr _ _ _ _ _ h) rfl rfl rfl (Nat.le_of_ble_eq_true rfl) (fun r67 q68 h => ?_)
        refine a_icmp_ne (pc := 485) (tgt := 512) hC dL_isSingerRight_485 (by decide) (fun c => ?_) (fun c => ?_)
        · replace h := h.1 c
          refine a_iconst (pc := 512) hC dL_isSingerRight_512 (v := 0) rfl ?_
          exact a_bret (pc := 513) hC hE (Or.inl rfl) h (Nat.le_of_ble_eq_true rfl) (Nat.le_of_ble_eq_true rfl) dL_isSingerRight_513
        · replace h := h.2 c
          refine a_aload_n (pc := 488) hC dL_isSingerRight_488 rfl ?_
          refine a_iload_n (pc := 489) hC dL_isSingerRight_489 rfl ?_
          refine a_callV (pc := 490) hC hR vm_X9_verses tw_583 cl_X9 (oX_0 hX) ⟨(Nat.le_of_ble_eq_true rfl), (Nat.le_of_ble_eq_true rfl), (Nat.le_of_ble_eq_true rfl), (Nat.le_of_ble_eq_true rfl)⟩ dL_isSingerRight_490 (t_X9_verses0 hX hC.tr _ _ _ h) rfl rfl rfl (Nat.le_of_ble_eq_true rfl) (fun r69 q70 h => ?_)
          refine a_iload (pc := 493) hC dL_isSingerRight_493 rfl ?_
          refine a_icmp_ne (pc := 495) (tgt := 512) hC dL_isSingerRight_495 (by decide) (fun c => ?_) (fun c => ?_)
          · replace h := h.1 c
            refine a_iconst (pc := 512) hC dL_isSingerRight_512 (v := 0) rfl ?_
            exact a_bret (pc := 513) hC hE (Or.inl rfl) h (Nat.le_of_ble_eq_true rfl) (Nat.le_of_ble_eq_true rfl) dL_isSingerRight_513
          · replace h := h.2 c
            refine a_aload_n (pc := 498) hC dL_isSingerRight_498 rfl ?_
            refine a_iload_n (pc := 499) hC dL_isSingerRight_499 rfl ?_
            refine a_callV (pc := 500) hC hR vm_X9_versesAgain tw_1034 cl_X9 (oX_0 hX) ⟨(Nat.le_of_ble_eq_true rfl), (Nat.le_of_ble_eq_true rfl), (Nat.le_of_ble_eq_true rfl), (Nat.le_of_ble_eq_true rfl)⟩ dL_isSingerRight_500 (t_X9_versesAgain0 hX hC.tr _ _ _ h) rfl rfl rfl (Nat.le_of_ble_eq_true rfl) (fun r71 q72 h => ?_)
            refine a_iload (pc := 503) hC dL_isSingerRight_503 rfl ?_
            refine a_icmp_ne (pc := 505) (tgt := 512) hC dL_isSingerRight_505 (by decide) (fun c => ?_) (fun c => ?_)
            · replace h := h.1 c
              refine a_iconst (pc := 512) hC dL_isSingerRight_512 (v := 0) rfl ?_
              exact a_bret (pc := 513) hC hE (Or.inl rfl) h (Nat.le_of_ble_eq_true rfl) (Nat.le_of_ble_eq_true rfl) dL_isSingerRight_513
            · replace h := h.2 c
              refine a_iconst (pc := 508) hC dL_isSingerRight_508 (v := 1) rfl ?_
              refine a_goto (pc := 509) (tgt := 513) hC dL_isSingerRight_509 (by decide) ?_
              exact a_bret (pc := 513) hC hE (Or.inr rfl) h (Nat.le_of_ble_eq_true rfl) (Nat.le_of_ble_eq_true rfl) dL_isSingerRight_513
  · replace h := h.2 c
    refine a_iload (pc := 396) hC dL_isSingerRight_396 rfl ?_
    refine a_if_eq (pc := 398) (tgt := 431) hC dL_isSingerRight_398 (by decide) (fun c => ?_) (fun c => ?_)
    · replace h := h.1 c
      refine a_iconst (pc := 431) hC dL_isSingerRight_431 (v := 0) rfl ?_
      exact a_bret (pc := 432) hC hE (Or.inl rfl) h (Nat.le_of_ble_eq_true rfl) (Nat.le_of_ble_eq_true rfl) dL_isSingerRight_432
    · replace h := h.2 c
      refine a_aload_n (pc := 401) hC dL_isSingerRight_401 rfl ?_
      refine a_iconst (pc := 402) hC dL_isSingerRight_402 (v := 3) rfl ?_
      refine a_iload_n (pc := 403) hC dL_isSingerRight_403 rfl ?_
      refine a_iconst (pc := 404) hC dL_isSingerRight_404 (v := 0) rfl ?_
      refine a_callSh (pc := 405) hC hR sm_L_ask tw_430 ⟨(Nat.le_of_ble_eq_true rfl), (Nat.le_of_ble_eq_true rfl), (Nat.le_of_ble_eq_true rfl), (Nat.le_of_ble_eq_true rfl)⟩ dL_isSingerRight_405 (t_L_ask hX hN hC.tr _ _ _ _ _ h) rfl rfl rfl (Nat.le_of_ble_eq_true rfl) (fun r74 q75 h => ?_)
      refine a_sipush (pc := 408) hC dL_isSingerRight_408 (v := (-2004)) rfl ?_
      refine a_icmp_ne (pc := 411) (tgt := 431) hC dL_isSingerRight_411 (by decide) (fun c => ?_) (fun c => ?_)
      · replace h := h.1 c
        refine a_iconst (pc := 431) hC dL_isSingerRight_431 (v := 0) rfl ?_
        exact a_bret (pc := 432) hC hE (Or.inl rfl) h (Nat.le_of_ble_eq_true rfl) (Nat.le_of_ble_eq_true rfl) dL_isSingerRight_432
      · replace h := h.2 c
        refine a_aload_n (pc := 414) hC dL_isSingerRight_414 rfl ?_
        refine a_iconst (pc := 415) hC dL_isSingerRight_415 (v := 4) rfl ?_
        refine a_iload_n (pc := 416) hC dL_isSingerRight_416 rfl ?_
        refine a_iconst (pc := 417) hC dL_isSingerRight_417 (v := 0) rfl ?_
        refine a_callSh (pc := 418) hC hR sm_L_ask tw_430 ⟨(Nat.le_of_ble_eq_true rfl), (Nat.le_of_ble_eq_true rfl), (Nat.le_of_ble_eq_true rfl), (Nat.le_of_ble_eq_true rfl)⟩ dL_isSingerRight_418 (t_L_ask hX hN hC.tr _ _ _ _ _ h) rfl rfl rfl (Nat.le_of_ble_eq_true rfl) (fun r76 q77 h => ?_)
        refine a_sipush (pc := 421) hC dL_isSingerRight_421 (v := (-2004)) rfl ?_
        refine a_icmp_ne (pc := 424) (tgt := 431) hC dL_isSingerRight_424 (by decide) (fun c => ?_) (fun c => ?_)
        · replace h := h.1 c
          refine a_iconst (pc := 431) hC dL_isSingerRight_431 (v := 0) rfl ?_
          exact a_bret (pc := 432) hC hE (Or.inl rfl) h (Nat.le_of_ble_eq_true rfl) (Nat.le_of_ble_eq_true rfl) dL_isSingerRight_432
        · replace h := h.2 c
          refine a_iconst (pc := 427) hC dL_isSingerRight_427 (v := 1) rfl ?_
          refine a_goto (pc := 428) (tgt := 432) hC dL_isSingerRight_428 (by decide) ?_
          exact a_bret (pc := 432) hC hE (Or.inr rfl) h (Nat.le_of_ble_eq_true rfl) (Nat.le_of_ble_eq_true rfl) dL_isSingerRight_432
set_option maxRecDepth 20000 in
theorem tJL_isSingerRight_389 {f : aF} {g : aG} (hX : isX g) (hN : isNc g) (P : Int32 → aS → Prop) (hR : f_R f = aR 13 10 60) (hC : aOK f g cL_isSingerRight 11 RL) (hE : aEi f g .boolean (fun r u => (r = 0 ∨ r = 1) ∧ P r u) (fun _ _ => False) 10 60) (j1 : Int32) (j3 : Int32) (q : aS) (h : JL_isSingerRight_389 j1 j3 P q) : AW f g 389 [some (.ref (gAd g 0)), some (.int j1), none, some (.int j3), none, none, none, none, none, none, none] [] q 6 36 := by
  unfold JL_isSingerRight_389 at h
  refine a_iconst (pc := 389) hC dL_isSingerRight_389 (v := 0) rfl ?_
  exact (tJL_isSingerRight_390 hX hN P hR hC hE _ _ _ _ h).forget ⟨rfl, rfl, rfl, trivial⟩
set_option maxRecDepth 20000 in
theorem tJL_isSingerRight_369 {f : aF} {g : aG} (hX : isX g) (hN : isNc g) (P : Int32 → aS → Prop) (hR : f_R f = aR 13 10 60) (hC : aOK f g cL_isSingerRight 11 RL) (hE : aEi f g .boolean (fun r u => (r = 0 ∨ r = 1) ∧ P r u) (fun _ _ => False) 10 60) (j1 : Int32) (j2 : Int32) (j3 : Int32) (s0 : Int32) (s1 : Int32) (q : aS) (h : JL_isSingerRight_369 j1 j2 j3 s0 s1 P q) : AW f g 369 [some (.ref (gAd g 0)), some (.int j1), some (.int j2), some (.int j3), none, none, none, none, none, none, none] [.int s0, .int s1] q 4 24 := by
  unfold JL_isSingerRight_369 at h
  refine a_icmp_ne (pc := 369) (tgt := 389) hC dL_isSingerRight_369 (by decide) (fun c => ?_) (fun c => ?_)
  · replace h := h.1 c
    refine AW.widen (k2 := 6) (n2 := 36) (by decide) (by decide) ?_
    exact (tJL_isSingerRight_389 hX hN P hR hC hE _ _ _ h).forget ⟨rfl, rfl, rfl, trivial⟩
  · replace h := h.2 c
    refine a_aload_n (pc := 372) hC dL_isSingerRight_372 rfl ?_
    refine a_iconst (pc := 373) hC dL_isSingerRight_373 (v := 5) rfl ?_
    refine a_iload_n (pc := 374) hC dL_isSingerRight_374 rfl ?_
    refine a_iload_n (pc := 375) hC dL_isSingerRight_375 rfl ?_
    refine a_callSh (pc := 376) hC hR sm_L_ask tw_430 ⟨(Nat.le_of_ble_eq_true rfl), (Nat.le_of_ble_eq_true rfl), (Nat.le_of_ble_eq_true rfl), (Nat.le_of_ble_eq_true rfl)⟩ dL_isSingerRight_376 (t_L_ask hX hN hC.tr _ _ _ _ _ h) rfl rfl rfl (Nat.le_of_ble_eq_true rfl) (fun r84 q85 h => ?_)
    refine a_sipush (pc := 379) hC dL_isSingerRight_379 (v := (-2002)) rfl ?_
    refine a_icmp_ne (pc := 382) (tgt := 389) hC dL_isSingerRight_382 (by decide) (fun c => ?_) (fun c => ?_)
    · replace h := h.1 c
      exact (tJL_isSingerRight_389 hX hN P hR hC hE _ _ _ h).forget ⟨rfl, rfl, rfl, trivial⟩
    · replace h := h.2 c
      refine a_iconst (pc := 385) hC dL_isSingerRight_385 (v := 1) rfl ?_
      refine a_goto (pc := 386) (tgt := 390) hC dL_isSingerRight_386 (by decide) ?_
      exact (tJL_isSingerRight_390 hX hN P hR hC hE _ _ _ _ h).forget ⟨rfl, rfl, rfl, trivial⟩
set_option maxRecDepth 20000 in
theorem t_L_isSingerRight {l : Launch} {g : aG} (hX : isX g) (hN : isNc g) (hl : l.stackTraces = false) (x1 : Int32) (q : aS) (P : Int32 → aS → Prop) (h : w_L_isSingerRight x1 q P) : aMi l g yL_isSingerRight (aWs yL_isSingerRight cL_isSingerRight 11 (some .boolean)) 13 10 60 [.ref (gAd g 0), .int x1] q (fun r u => (r = 0 ∨ r = 1) ∧ P r u) (fun _ _ => False) := by
  refine aMi_of RL ⟨by decide +kernel, rfl⟩ (cat_all rfl) (Nat.le_of_ble_eq_true rfl) hl hX.cl (fun f hR hC hE => ?_)
  show AW f g 0 [some (.ref (gAd g 0)), some (.int x1), none, none, none, none, none, none, none, none, none] [] q 0 0
  unfold w_L_isSingerRight at h
  refine a_aload_n (pc := 0) hC dL_isSingerRight_0 rfl ?_
  refine a_iconst (pc := 1) hC dL_isSingerRight_1 (v := 0) rfl ?_
  refine a_callV (pc := 2) hC hR vm_X9_account tw_327 cl_X9 (oX_0 hX) ⟨(Nat.le_of_ble_eq_true rfl), (Nat.le_of_ble_eq_true rfl), (Nat.le_of_ble_eq_true rfl), (Nat.le_of_ble_eq_true rfl)⟩ dL_isSingerRight_2 (t_X9_account0 hX hC.tr _ _ _ h) rfl rfl rfl (Nat.le_of_ble_eq_true rfl) (fun r2 q3 h => ?_)
  refine a_istore_n (pc := 5) hC dL_isSingerRight_5 (Nat.le_of_ble_eq_true rfl) ?_
  refine a_aload_n (pc := 6) hC dL_isSingerRight_6 rfl ?_
  refine a_iload_n (pc := 7) hC dL_isSingerRight_7 rfl ?_
  refine a_iconst (pc := 8) hC dL_isSingerRight_8 (v := 2) rfl ?_
  refine a_callV (pc := 9) hC hR vm_X9_singerOf tw_524 cl_X9 (oX_0 hX) ⟨(Nat.le_of_ble_eq_true rfl), (Nat.le_of_ble_eq_true rfl), (Nat.le_of_ble_eq_true rfl), (Nat.le_of_ble_eq_true rfl)⟩ dL_isSingerRight_9 (t_X9_singerOf0 hX hC.tr _ _ _ _ h) rfl rfl rfl (Nat.le_of_ble_eq_true rfl) (fun r4 q5 h => ?_)
  refine a_istore_n (pc := 12) hC dL_isSingerRight_12 (Nat.le_of_ble_eq_true rfl) ?_
  refine a_iconst (pc := 13) hC dL_isSingerRight_13 (v := 0) rfl ?_
  refine a_istore (pc := 14) hC dL_isSingerRight_14 (Nat.le_of_ble_eq_true rfl) ?_
  refine a_iconst (pc := 16) hC dL_isSingerRight_16 (v := 0) rfl ?_
  refine a_istore (pc := 17) hC dL_isSingerRight_17 (Nat.le_of_ble_eq_true rfl) ?_
  refine a_iconst (pc := 19) hC dL_isSingerRight_19 (v := 0) rfl ?_
  refine a_istore (pc := 20) hC dL_isSingerRight_20 (Nat.le_of_ble_eq_true rfl) ?_
  refine a_aload_n (pc := 22) hC dL_isSingerRight_22 rfl ?_
  refine a_iconst (pc := 23) hC dL_isSingerRight_23 (v := 2) rfl ?_
  refine a_iload_n (pc := 24) hC dL_isSingerRight_24 rfl ?_
  refine a_bipush (pc := 25) hC dL_isSingerRight_25 (v := 7) rfl ?_
  refine a_callSh (pc := 27) hC hR sm_L_ask tw_430 ⟨(Nat.le_of_ble_eq_true rfl), (Nat.le_of_ble_eq_true rfl), (Nat.le_of_ble_eq_true rfl), (Nat.le_of_ble_eq_true rfl)⟩ dL_isSingerRight_27 (t_L_ask hX hN hC.tr _ _ _ _ _ h) rfl rfl rfl (Nat.le_of_ble_eq_true rfl) (fun r6 q7 h => ?_)
  refine a_sipush (pc := 30) hC dL_isSingerRight_30 (v := (-2003)) rfl ?_
  refine a_icmp_ne (pc := 33) (tgt := 40) hC dL_isSingerRight_33 (by decide) (fun c => ?_) (fun c => ?_)
  · replace h := h.1 c
    refine a_iconst (pc := 40) hC dL_isSingerRight_40 (v := 0) rfl ?_
    refine a_istore (pc := 41) hC dL_isSingerRight_41 (Nat.le_of_ble_eq_true rfl) ?_
    refine a_iconst (pc := 43) hC dL_isSingerRight_43 (v := 0) rfl ?_
    refine a_istore (pc := 44) hC dL_isSingerRight_44 (Nat.le_of_ble_eq_true rfl) ?_
    obtain ⟨N, h⟩ := h
    refine (tLL_isSingerRight_46 hX hN P hR hC hE _ _ _ _ (fun y29 y30 y31 q32 h => ?_) N _ _ _ _ _ h).forget ⟨rfl, rfl, rfl, rfl, rfl, rfl, rfl, rfl, rfl, trivial⟩
    refine a_iconst (pc := 184) hC dL_isSingerRight_184 (v := 0) rfl ?_
    refine a_istore (pc := 185) hC dL_isSingerRight_185 (Nat.le_of_ble_eq_true rfl) ?_
    obtain ⟨N, h⟩ := h
    refine (tLL_isSingerRight_187 hX hN P hR hC hE _ _ _ _ _ (fun y53 y54 q55 h => ?_) N _ _ _ _ h).forget ⟨rfl, rfl, rfl, rfl, rfl, rfl, rfl, rfl, rfl, trivial⟩
    refine a_iload (pc := 321) hC dL_isSingerRight_321 rfl ?_
    refine a_if_eq (pc := 323) (tgt := 389) hC dL_isSingerRight_323 (by decide) (fun c => ?_) (fun c => ?_)
    · replace h := h.1 c
      refine AW.widen (k2 := 6) (n2 := 36) (by decide) (by decide) ?_
      exact (tJL_isSingerRight_389 hX hN P hR hC hE _ _ _ h).forget ⟨rfl, rfl, rfl, trivial⟩
    · replace h := h.2 c
      refine a_aload_n (pc := 326) hC dL_isSingerRight_326 rfl ?_
      refine a_iload_n (pc := 327) hC dL_isSingerRight_327 rfl ?_
      refine a_iconst (pc := 328) hC dL_isSingerRight_328 (v := 3) rfl ?_
      refine a_callV (pc := 329) hC hR vm_X9_singerOf tw_524 cl_X9 (oX_0 hX) ⟨(Nat.le_of_ble_eq_true rfl), (Nat.le_of_ble_eq_true rfl), (Nat.le_of_ble_eq_true rfl), (Nat.le_of_ble_eq_true rfl)⟩ dL_isSingerRight_329 (t_X9_singerOf0 hX hC.tr _ _ _ _ h) rfl rfl rfl (Nat.le_of_ble_eq_true rfl) (fun r78 q79 h => ?_)
      refine a_iload (pc := 332) hC dL_isSingerRight_332 rfl ?_
      refine a_icmp_ne (pc := 334) (tgt := 389) hC dL_isSingerRight_334 (by decide) (fun c => ?_) (fun c => ?_)
      · replace h := h.1 c
        refine AW.widen (k2 := 6) (n2 := 36) (by decide) (by decide) ?_
        exact (tJL_isSingerRight_389 hX hN P hR hC hE _ _ _ h).forget ⟨rfl, rfl, rfl, trivial⟩
      · replace h := h.2 c
        refine a_aload_n (pc := 337) hC dL_isSingerRight_337 rfl ?_
        refine a_iload_n (pc := 338) hC dL_isSingerRight_338 rfl ?_
        refine a_bipush (pc := 339) hC dL_isSingerRight_339 (v := 6) rfl ?_
        refine a_callV (pc := 341) hC hR vm_X9_singerOf tw_524 cl_X9 (oX_0 hX) ⟨(Nat.le_of_ble_eq_true rfl), (Nat.le_of_ble_eq_true rfl), (Nat.le_of_ble_eq_true rfl), (Nat.le_of_ble_eq_true rfl)⟩ dL_isSingerRight_341 (t_X9_singerOf0 hX hC.tr _ _ _ _ h) rfl rfl rfl (Nat.le_of_ble_eq_true rfl) (fun r80 q81 h => ?_)
        refine a_iload (pc := 344) hC dL_isSingerRight_344 rfl ?_
        refine a_icmp_ne (pc := 346) (tgt := 389) hC dL_isSingerRight_346 (by decide) (fun c => ?_) (fun c => ?_)
        · replace h := h.1 c
          refine AW.widen (k2 := 6) (n2 := 36) (by decide) (by decide) ?_
          exact (tJL_isSingerRight_389 hX hN P hR hC hE _ _ _ h).forget ⟨rfl, rfl, rfl, trivial⟩
        · replace h := h.2 c
          refine a_aload_n (pc := 349) hC dL_isSingerRight_349 rfl ?_
          refine a_bipush (pc := 350) hC dL_isSingerRight_350 (v := 6) rfl ?_
          refine a_iload_n (pc := 352) hC dL_isSingerRight_352 rfl ?_
          refine a_iconst (pc := 353) hC dL_isSingerRight_353 (v := 0) rfl ?_
          refine a_callSh (pc := 354) hC hR sm_L_ask tw_430 ⟨(Nat.le_of_ble_eq_true rfl), (Nat.le_of_ble_eq_true rfl), (Nat.le_of_ble_eq_true rfl), (Nat.le_of_ble_eq_true rfl)⟩ dL_isSingerRight_354 (t_L_ask hX hN hC.tr _ _ _ _ _ h) rfl rfl rfl (Nat.le_of_ble_eq_true rfl) (fun r82 q83 h => ?_)
          refine a_iload_n (pc := 357) hC dL_isSingerRight_357 rfl ?_
          refine a_if_ne (pc := 358) (tgt := 367) hC dL_isSingerRight_358 (by decide) (fun c => ?_) (fun c => ?_)
          · replace h := h.1 c
            refine a_iload (pc := 367) hC dL_isSingerRight_367 rfl ?_
            exact (tJL_isSingerRight_369 hX hN P hR hC hE _ _ _ _ _ _ h).forget ⟨rfl, rfl, rfl, rfl, trivial⟩
          · replace h := h.2 c
            refine a_sipush (pc := 361) hC dL_isSingerRight_361 (v := (-2004)) rfl ?_
            refine a_goto (pc := 364) (tgt := 369) hC dL_isSingerRight_364 (by decide) ?_
            exact (tJL_isSingerRight_369 hX hN P hR hC hE _ _ _ _ _ _ h).forget ⟨rfl, rfl, rfl, rfl, trivial⟩
  · replace h := h.2 c
    refine a_iconst (pc := 36) hC dL_isSingerRight_36 (v := 1) rfl ?_
    refine a_goto (pc := 37) (tgt := 41) hC dL_isSingerRight_37 (by decide) ?_
    refine a_istore (pc := 41) hC dL_isSingerRight_41 (Nat.le_of_ble_eq_true rfl) ?_
    refine a_iconst (pc := 43) hC dL_isSingerRight_43 (v := 0) rfl ?_
    refine a_istore (pc := 44) hC dL_isSingerRight_44 (Nat.le_of_ble_eq_true rfl) ?_
    obtain ⟨N, h⟩ := h
    refine (tLL_isSingerRight_46 hX hN P hR hC hE _ _ _ _ (fun y88 y89 y90 q91 h => ?_) N _ _ _ _ _ h).forget ⟨rfl, rfl, rfl, rfl, rfl, rfl, rfl, rfl, rfl, trivial⟩
    refine a_iconst (pc := 184) hC dL_isSingerRight_184 (v := 0) rfl ?_
    refine a_istore (pc := 185) hC dL_isSingerRight_185 (Nat.le_of_ble_eq_true rfl) ?_
    obtain ⟨N, h⟩ := h
    refine (tLL_isSingerRight_187 hX hN P hR hC hE _ _ _ _ _ (fun y92 y93 q94 h => ?_) N _ _ _ _ h).forget ⟨rfl, rfl, rfl, rfl, rfl, rfl, rfl, rfl, rfl, trivial⟩
    refine a_iload (pc := 321) hC dL_isSingerRight_321 rfl ?_
    refine a_if_eq (pc := 323) (tgt := 389) hC dL_isSingerRight_323 (by decide) (fun c => ?_) (fun c => ?_)
    · replace h := h.1 c
      refine AW.widen (k2 := 6) (n2 := 36) (by decide) (by decide) ?_
      exact (tJL_isSingerRight_389 hX hN P hR hC hE _ _ _ h).forget ⟨rfl, rfl, rfl, trivial⟩
    · replace h := h.2 c
      refine a_aload_n (pc := 326) hC dL_isSingerRight_326 rfl ?_
      refine a_iload_n (pc := 327) hC dL_isSingerRight_327 rfl ?_
      refine a_iconst (pc := 328) hC dL_isSingerRight_328 (v := 3) rfl ?_
      refine a_callV (pc := 329) hC hR vm_X9_singerOf tw_524 cl_X9 (oX_0 hX) ⟨(Nat.le_of_ble_eq_true rfl), (Nat.le_of_ble_eq_true rfl), (Nat.le_of_ble_eq_true rfl), (Nat.le_of_ble_eq_true rfl)⟩ dL_isSingerRight_329 (t_X9_singerOf0 hX hC.tr _ _ _ _ h) rfl rfl rfl (Nat.le_of_ble_eq_true rfl) (fun r95 q96 h => ?_)
      refine a_iload (pc := 332) hC dL_isSingerRight_332 rfl ?_
      refine a_icmp_ne (pc := 334) (tgt := 389) hC dL_isSingerRight_334 (by decide) (fun c => ?_) (fun c => ?_)
      · replace h := h.1 c
        refine AW.widen (k2 := 6) (n2 := 36) (by decide) (by decide) ?_
        exact (tJL_isSingerRight_389 hX hN P hR hC hE _ _ _ h).forget ⟨rfl, rfl, rfl, trivial⟩
      · replace h := h.2 c
        refine a_aload_n (pc := 337) hC dL_isSingerRight_337 rfl ?_
        refine a_iload_n (pc := 338) hC dL_isSingerRight_338 rfl ?_
        refine a_bipush (pc := 339) hC dL_isSingerRight_339 (v := 6) rfl ?_
        refine a_callV (pc := 341) hC hR vm_X9_singerOf tw_524 cl_X9 (oX_0 hX) ⟨(Nat.le_of_ble_eq_true rfl), (Nat.le_of_ble_eq_true rfl), (Nat.le_of_ble_eq_true rfl), (Nat.le_of_ble_eq_true rfl)⟩ dL_isSingerRight_341 (t_X9_singerOf0 hX hC.tr _ _ _ _ h) rfl rfl rfl (Nat.le_of_ble_eq_true rfl) (fun r97 q98 h => ?_)
        refine a_iload (pc := 344) hC dL_isSingerRight_344 rfl ?_
        refine a_icmp_ne (pc := 346) (tgt := 389) hC dL_isSingerRight_346 (by decide) (fun c => ?_) (fun c => ?_)
        · replace h := h.1 c
          refine AW.widen (k2 := 6) (n2 := 36) (by decide) (by decide) ?_
          exact (tJL_isSingerRight_389 hX hN P hR hC hE _ _ _ h).forget ⟨rfl, rfl, rfl, trivial⟩
        · replace h := h.2 c
          refine a_aload_n (pc := 349) hC dL_isSingerRight_349 rfl ?_
          refine a_bipush (pc := 350) hC dL_isSingerRight_350 (v := 6) rfl ?_
          refine a_iload_n (pc := 352) hC dL_isSingerRight_352 rfl ?_
          refine a_iconst (pc := 353) hC dL_isSingerRight_353 (v := 0) rfl ?_
          refine a_callSh (pc := 354) hC hR sm_L_ask tw_430 ⟨(Nat.le_of_ble_eq_true rfl), (Nat.le_of_ble_eq_true rfl), (Nat.le_of_ble_eq_true rfl), (Nat.le_of_ble_eq_true rfl)⟩ dL_isSingerRight_354 (t_L_ask hX hN hC.tr _ _ _ _ _ h) rfl rfl rfl (Nat.le_of_ble_eq_true rfl) (fun r99 q100 h => ?_)
          refine a_iload_n (pc := 357) hC dL_isSingerRight_357 rfl ?_
          refine a_if_ne (pc := 358) (tgt := 367) hC dL_isSingerRight_358 (by decide) (fun c => ?_) (fun c => ?_)
          · replace h := h.1 c
            refine a_iload (pc := 367) hC dL_isSingerRight_367 rfl ?_
            exact (tJL_isSingerRight_369 hX hN P hR hC hE _ _ _ _ _ _ h).forget ⟨rfl, rfl, rfl, rfl, trivial⟩
          · replace h := h.2 c
            refine a_sipush (pc := 361) hC dL_isSingerRight_361 (v := (-2004)) rfl ?_
            refine a_goto (pc := 364) (tgt := 369) hC dL_isSingerRight_364 (by decide) ?_
            exact (tJL_isSingerRight_369 hX hN P hR hC hE _ _ _ _ _ _ h).forget ⟨rfl, rfl, rfl, rfl, trivial⟩
set_option maxRecDepth 20000 in
theorem tJL_areRoomsRight_117 {f : aF} {g : aG} (hX : isX g) (hN : isNc g) (P : Int32 → aS → Prop) (hR : f_R f = aR 13 20 120) (hC : aOK f g cL_areRoomsRight 10 RL) (hE : aEi f g .boolean (fun r u => (r = 0 ∨ r = 1) ∧ P r u) (fun _ _ => False) 20 120) (k1 n1 : Nat) (hk1 : k1 + 2 ≤ 20) (hn1 : n1 + 12 ≤ 120) (c1 : Int32) (c2 : Int32) (c3 : Int32) (c4 : Int32) (c5 : Int32) (j7 : Int32) (j8 : Int32) (j9 : Int32) (s0 : Int32) (s1 : Int32) (B : Int32 → Int32 → Int32 → aS → Prop) (K : Int32 → Int32 → aS → Prop) (hB : ∀ (w6 : Int32) (w7 : Int32) (w8 : Int32) (q : aS), B w6 w7 w8 q → AW f g 76 [some (.ref (gAd g 0)), some (.int c1), some (.int c2), some (.int c3), some (.int c4), some (.int c5), some (.int w6), some (.int w7), some (.int w8), none] [] q (k1 + 0) (n1 + 0)) (hK : ∀ (w6 : Int32) (w7 : Int32) (q : aS), K w6 w7 q → AW f g 154 [some (.ref (gAd g 0)), some (.int c1), some (.int c2), some (.int c3), some (.int c4), some (.int c5), some (.int w6), some (.int w7), none, none] [] q (k1 + 0) (n1 + 0)) (q : aS) (h : JL_areRoomsRight_117 c1 c2 c3 c4 c5 j7 j8 j9 s0 s1 P B K q) : AW f g 117 [some (.ref (gAd g 0)), some (.int c1), some (.int c2), some (.int c3), some (.int c4), some (.int c5), none, some (.int j7), some (.int j8), some (.int j9)] [.int s0, .int s1] q (k1 + 0) (n1 + 0) := by
  unfold JL_areRoomsRight_117 at h
  refine a_iadd (pc := 117) hC dL_areRoomsRight_117 ?_
  refine a_istore (pc := 118) hC dL_areRoomsRight_118 (Nat.le_of_ble_eq_true rfl) ?_
  replace h := h _ rfl
  refine a_iload (pc := 120) hC dL_areRoomsRight_120 rfl ?_
  refine a_iload (pc := 122) hC dL_areRoomsRight_122 rfl ?_
  refine a_if_eq (pc := 124) (tgt := 144) hC dL_areRoomsRight_124 (by decide) (fun c => ?_) (fun c => ?_)
  · replace h := h.1 c
    refine a_iconst (pc := 144) hC dL_areRoomsRight_144 (v := 0) rfl ?_
    refine a_ior (pc := 145) hC dL_areRoomsRight_145 ?_
    refine a_istore (pc := 146) hC dL_areRoomsRight_146 (Nat.le_of_ble_eq_true rfl) ?_
    replace h := h _ rfl
    refine a_iinc (pc := 148) hC dL_areRoomsRight_148 rfl (c := 1) rfl ?_
    replace h := h _ rfl
    refine a_goto (pc := 151) (tgt := 76) hC dL_areRoomsRight_151 (by decide) ?_
    exact AW.widen (by omega) (by omega) ((hB _ _ _ _ h).forget ⟨rfl, rfl, rfl, rfl, rfl, rfl, rfl, rfl, rfl, trivial⟩)
  · replace h := h.2 c
    refine a_aload_n (pc := 127) hC dL_areRoomsRight_127 rfl ?_
    refine a_iload (pc := 128) hC dL_areRoomsRight_128 rfl ?_
    refine a_iconst (pc := 130) hC dL_areRoomsRight_130 (v := 2) rfl ?_
    refine a_callV (pc := 131) hC hR vm_X9_echoOf tw_510 cl_X9 (oX_0 hX) ⟨(Nat.le_of_ble_eq_true rfl), (Nat.le_of_ble_eq_true rfl), (by omega), (by omega)⟩ dL_areRoomsRight_131 (t_X9_echoOf0 hX hC.tr _ _ _ _ h) rfl rfl rfl (Nat.le_of_ble_eq_true rfl) (fun r12 q13 h => ?_)
    refine a_if_ge (pc := 134) (tgt := 144) hC dL_areRoomsRight_134 (by decide) (fun c => ?_) (fun c => ?_)
    · replace h := h.1 c
      refine a_iconst (pc := 144) hC dL_areRoomsRight_144 (v := 0) rfl ?_
      refine a_ior (pc := 145) hC dL_areRoomsRight_145 ?_
      refine a_istore (pc := 146) hC dL_areRoomsRight_146 (Nat.le_of_ble_eq_true rfl) ?_
      replace h := h _ rfl
      refine a_iinc (pc := 148) hC dL_areRoomsRight_148 rfl (c := 1) rfl ?_
      replace h := h _ rfl
      refine a_goto (pc := 151) (tgt := 76) hC dL_areRoomsRight_151 (by decide) ?_
      exact AW.widen (by omega) (by omega) ((hB _ _ _ _ h).forget ⟨rfl, rfl, rfl, rfl, rfl, rfl, rfl, rfl, rfl, trivial⟩)
    · replace h := h.2 c
      refine a_iconst (pc := 137) hC dL_areRoomsRight_137 (v := 1) rfl ?_
      refine a_iload (pc := 138) hC dL_areRoomsRight_138 rfl ?_
      refine a_ishl (pc := 140) hC dL_areRoomsRight_140 ?_
      refine a_goto (pc := 141) (tgt := 145) hC dL_areRoomsRight_141 (by decide) ?_
      refine a_ior (pc := 145) hC dL_areRoomsRight_145 ?_
      refine a_istore (pc := 146) hC dL_areRoomsRight_146 (Nat.le_of_ble_eq_true rfl) ?_
      replace h := h _ rfl
      refine a_iinc (pc := 148) hC dL_areRoomsRight_148 rfl (c := 1) rfl ?_
      replace h := h _ rfl
      refine a_goto (pc := 151) (tgt := 76) hC dL_areRoomsRight_151 (by decide) ?_
      exact AW.widen (by omega) (by omega) ((hB _ _ _ _ h).forget ⟨rfl, rfl, rfl, rfl, rfl, rfl, rfl, rfl, rfl, trivial⟩)
set_option maxRecDepth 20000 in
theorem tJL_areRoomsRight_103 {f : aF} {g : aG} (hX : isX g) (hN : isNc g) (P : Int32 → aS → Prop) (hR : f_R f = aR 13 20 120) (hC : aOK f g cL_areRoomsRight 10 RL) (hE : aEi f g .boolean (fun r u => (r = 0 ∨ r = 1) ∧ P r u) (fun _ _ => False) 20 120) (k1 n1 : Nat) (hk1 : k1 + 2 ≤ 20) (hn1 : n1 + 12 ≤ 120) (c1 : Int32) (c2 : Int32) (c3 : Int32) (c4 : Int32) (c5 : Int32) (j6 : Int32) (j7 : Int32) (j8 : Int32) (s0 : Int32) (B : Int32 → Int32 → Int32 → aS → Prop) (K : Int32 → Int32 → aS → Prop) (hB : ∀ (w6 : Int32) (w7 : Int32) (w8 : Int32) (q : aS), B w6 w7 w8 q → AW f g 76 [some (.ref (gAd g 0)), some (.int c1), some (.int c2), some (.int c3), some (.int c4), some (.int c5), some (.int w6), some (.int w7), some (.int w8), none] [] q (k1 + 0) (n1 + 0)) (hK : ∀ (w6 : Int32) (w7 : Int32) (q : aS), K w6 w7 q → AW f g 154 [some (.ref (gAd g 0)), some (.int c1), some (.int c2), some (.int c3), some (.int c4), some (.int c5), some (.int w6), some (.int w7), none, none] [] q (k1 + 0) (n1 + 0)) (q : aS) (h : JL_areRoomsRight_103 c1 c2 c3 c4 c5 j6 j7 j8 s0 P B K q) : AW f g 103 [some (.ref (gAd g 0)), some (.int c1), some (.int c2), some (.int c3), some (.int c4), some (.int c5), some (.int j6), some (.int j7), some (.int j8), none] [.int s0] q (k1 + 0) (n1 + 0) := by
  unfold JL_areRoomsRight_103 at h
  refine a_istore (pc := 103) hC dL_areRoomsRight_103 (Nat.le_of_ble_eq_true rfl) ?_
  refine a_iload (pc := 105) hC dL_areRoomsRight_105 rfl ?_
  refine a_iload (pc := 107) hC dL_areRoomsRight_107 rfl ?_
  refine a_if_eq (pc := 109) (tgt := 116) hC dL_areRoomsRight_109 (by decide) (fun c => ?_) (fun c => ?_)
  · replace h := h.1 c
    refine a_iconst (pc := 116) hC dL_areRoomsRight_116 (v := 0) rfl ?_
    exact (tJL_areRoomsRight_117 hX hN P hR hC hE k1 n1 hk1 hn1 _ _ _ _ _ _ _ _ _ _ _ _ hB hK _ h).forget ⟨rfl, rfl, rfl, rfl, rfl, rfl, rfl, rfl, rfl, trivial⟩
  · replace h := h.2 c
    refine a_iconst (pc := 112) hC dL_areRoomsRight_112 (v := 1) rfl ?_
    refine a_goto (pc := 113) (tgt := 117) hC dL_areRoomsRight_113 (by decide) ?_
    exact (tJL_areRoomsRight_117 hX hN P hR hC hE k1 n1 hk1 hn1 _ _ _ _ _ _ _ _ _ _ _ _ hB hK _ h).forget ⟨rfl, rfl, rfl, rfl, rfl, rfl, rfl, rfl, rfl, trivial⟩
set_option maxRecDepth 20000 in
theorem tLL_areRoomsRight_76 {f : aF} {g : aG} (hX : isX g) (hN : isNc g) (P : Int32 → aS → Prop) (hR : f_R f = aR 13 20 120) (hC : aOK f g cL_areRoomsRight 10 RL) (hE : aEi f g .boolean (fun r u => (r = 0 ∨ r = 1) ∧ P r u) (fun _ _ => False) 20 120) (k1 n1 : Nat) (hk1 : k1 + 2 ≤ 20) (hn1 : n1 + 12 ≤ 120) (c1 : Int32) (c2 : Int32) (c3 : Int32) (c4 : Int32) (c5 : Int32) {K : Int32 → Int32 → aS → Prop} (hK : ∀ (w6 : Int32) (w7 : Int32) (q : aS), K w6 w7 q → AW f g 154 [some (.ref (gAd g 0)), some (.int c1), some (.int c2), some (.int c3), some (.int c4), some (.int c5), some (.int w6), some (.int w7), none, none] [] q (k1 + 0) (n1 + 0)) : ∀ (N : Nat) (v6 : Int32) (v7 : Int32) (v8 : Int32) (q : aS), LL_areRoomsRight_76 c1 c2 c3 c4 c5 P K N v6 v7 v8 q → AW f g 76 [some (.ref (gAd g 0)), some (.int c1), some (.int c2), some (.int c3), some (.int c4), some (.int c5), some (.int v6), some (.int v7), some (.int v8), none] [] q (k1 + 0) (n1 + 0) := by
  intro N
  induction N with
  | zero =>
    intro v6 v7 v8 q h
    exact h.elim
  | succ N ih =>
    intro v6 v7 v8 q h
    unfold LL_areRoomsRight_76 at h
    refine a_iload (pc := 76) hC dL_areRoomsRight_76 rfl ?_
    refine a_aload_n (pc := 78) hC dL_areRoomsRight_78 rfl ?_
    refine a_iconst (pc := 79) hC dL_areRoomsRight_79 (v := 1) rfl ?_
    refine a_callV (pc := 80) hC hR vm_X9_account tw_327 cl_X9 (oX_0 hX) ⟨(Nat.le_of_ble_eq_true rfl), (Nat.le_of_ble_eq_true rfl), (by omega), (by omega)⟩ dL_areRoomsRight_80 (t_X9_account0 hX hC.tr _ _ _ h) rfl rfl rfl (Nat.le_of_ble_eq_true rfl) (fun r5 q6 h => ?_)
    refine a_icmp_ge (pc := 83) (tgt := 154) hC dL_areRoomsRight_83 (by decide) (fun c => ?_) (fun c => ?_)
    · replace h := h.1 c
      exact AW.widen (by omega) (by omega) ((hK _ _ _ h).forget ⟨rfl, rfl, rfl, rfl, rfl, rfl, rfl, rfl, trivial⟩)
    · replace h := h.2 c
      refine a_aload_n (pc := 86) hC dL_areRoomsRight_86 rfl ?_
      refine a_iload (pc := 87) hC dL_areRoomsRight_87 rfl ?_
      refine a_iconst (pc := 89) hC dL_areRoomsRight_89 (v := 0) rfl ?_
      refine a_callV (pc := 90) hC hR vm_X9_echoOf tw_510 cl_X9 (oX_0 hX) ⟨(Nat.le_of_ble_eq_true rfl), (Nat.le_of_ble_eq_true rfl), (by omega), (by omega)⟩ dL_areRoomsRight_90 (t_X9_echoOf0 hX hC.tr _ _ _ _ h) rfl rfl rfl (Nat.le_of_ble_eq_true rfl) (fun r7 q8 h => ?_)
      refine a_iload (pc := 93) hC dL_areRoomsRight_93 rfl ?_
      refine a_icmp_ne (pc := 95) (tgt := 102) hC dL_areRoomsRight_95 (by decide) (fun c => ?_) (fun c => ?_)
      · replace h := h.1 c
        refine a_iconst (pc := 102) hC dL_areRoomsRight_102 (v := 0) rfl ?_
        exact (tJL_areRoomsRight_103 hX hN P hR hC hE k1 n1 hk1 hn1 _ _ _ _ _ _ _ _ _ _ _ ih hK _ h).forget ⟨rfl, rfl, rfl, rfl, rfl, rfl, rfl, rfl, rfl, trivial⟩
      · replace h := h.2 c
        refine a_iconst (pc := 98) hC dL_areRoomsRight_98 (v := 1) rfl ?_
        refine a_goto (pc := 99) (tgt := 103) hC dL_areRoomsRight_99 (by decide) ?_
        exact (tJL_areRoomsRight_103 hX hN P hR hC hE k1 n1 hk1 hn1 _ _ _ _ _ _ _ _ _ _ _ ih hK _ h).forget ⟨rfl, rfl, rfl, rfl, rfl, rfl, rfl, rfl, rfl, trivial⟩
set_option maxRecDepth 20000 in
theorem tLL_areRoomsRight_61 {f : aF} {g : aG} (hX : isX g) (hN : isNc g) (P : Int32 → aS → Prop) (hR : f_R f = aR 13 20 120) (hC : aOK f g cL_areRoomsRight 10 RL) (hE : aEi f g .boolean (fun r u => (r = 0 ∨ r = 1) ∧ P r u) (fun _ _ => False) 20 120) (c1 : Int32) {K : Int32 → Int32 → Int32 → aS → Prop} (hK : ∀ (w2 : Int32) (w3 : Int32) (w4 : Int32) (q : aS), K w2 w3 w4 q → AW f g 320 [some (.ref (gAd g 0)), some (.int c1), some (.int w2), some (.int w3), some (.int w4), none, none, none, none, none] [] q 20 120) : ∀ (N : Nat) (v2 : Int32) (v3 : Int32) (v4 : Int32) (v5 : Int32) (q : aS), N ≤ 7 → LL_areRoomsRight_61 c1 P K N v2 v3 v4 v5 q → AW f g 61 [some (.ref (gAd g 0)), some (.int c1), some (.int v2), some (.int v3), some (.int v4), some (.int v5), none, none, none, none] [] q (6 + (7 - N) * 2) (36 + (7 - N) * 12) := by
  intro N
  induction N with
  | zero =>
    intro v2 v3 v4 v5 q _ h
    exact h.elim
  | succ N ih =>
    intro v2 v3 v4 v5 q hM9 h
    unfold LL_areRoomsRight_61 at h
    obtain ⟨k1, ek1⟩ : ∃ x, x = 6 + (7 - (N + 1)) * 2 := ⟨_, rfl⟩
    obtain ⟨n1, en1⟩ : ∃ x, x = 36 + (7 - (N + 1)) * 12 := ⟨_, rfl⟩
    rw [← ek1, ← en1]
    have hk1 : k1 + 2 ≤ 20 := by omega
    have hn1 : n1 + 12 ≤ 120 := by omega
    have hB : ∀ (w2 : Int32) (w3 : Int32) (w4 : Int32) (w5 : Int32) (q : aS), LL_areRoomsRight_61 c1 P K N w2 w3 w4 w5 q → AW f g 61 [some (.ref (gAd g 0)), some (.int c1), some (.int w2), some (.int w3), some (.int w4), some (.int w5), none, none, none, none] [] q (k1 + 2) (n1 + 12) := fun w2 w3 w4 w5 q h => (ih w2 w3 w4 w5 q (by omega) h).widen (by omega) (by omega)
    have hK2 : ∀ (w2 : Int32) (w3 : Int32) (w4 : Int32) (q : aS), K w2 w3 w4 q → AW f g 320 [some (.ref (gAd g 0)), some (.int c1), some (.int w2), some (.int w3), some (.int w4), none, none, none, none, none] [] q (k1 + 2) (n1 + 12) := fun w2 w3 w4 q h => (hK w2 w3 w4 q h).widen (by omega) (by omega)
    clear hM9 ek1 en1 ih
    refine a_iload (pc := 61) hC dL_areRoomsRight_61 rfl ?_
    refine a_iload_n (pc := 63) hC dL_areRoomsRight_63 rfl ?_
    refine a_icmp_ge (pc := 64) (tgt := 320) hC dL_areRoomsRight_64 (by decide) (fun c => ?_) (fun c => ?_)
    · replace h := h.1 c
      exact AW.widen (by omega) (by omega) ((hK2 _ _ _ _ h).forget ⟨rfl, rfl, rfl, rfl, rfl, trivial⟩)
    · replace h := h.2 c
      refine a_iconst (pc := 67) hC dL_areRoomsRight_67 (v := 0) rfl ?_
      refine a_istore (pc := 68) hC dL_areRoomsRight_68 (Nat.le_of_ble_eq_true rfl) ?_
      refine a_iconst (pc := 70) hC dL_areRoomsRight_70 (v := 0) rfl ?_
      refine a_istore (pc := 71) hC dL_areRoomsRight_71 (Nat.le_of_ble_eq_true rfl) ?_
      refine a_iconst (pc := 73) hC dL_areRoomsRight_73 (v := 0) rfl ?_
      refine a_istore (pc := 74) hC dL_areRoomsRight_74 (Nat.le_of_ble_eq_true rfl) ?_
      obtain ⟨N, h⟩ := h
      refine (tLL_areRoomsRight_76 hX hN P hR hC hE k1 n1 hk1 hn1 _ _ _ _ _ (fun y18 y19 q20 h => ?_) N _ _ _ _ h).forget ⟨rfl, rfl, rfl, rfl, rfl, rfl, rfl, rfl, rfl, trivial⟩
      refine a_iload_n (pc := 154) hC dL_areRoomsRight_154 rfl ?_
      refine a_aload_n (pc := 155) hC dL_areRoomsRight_155 rfl ?_
      refine a_iload (pc := 156) hC dL_areRoomsRight_156 rfl ?_
      refine a_iconst (pc := 158) hC dL_areRoomsRight_158 (v := 1) rfl ?_
      refine a_callV (pc := 159) hC hR vm_X9_roomOf tw_462 cl_X9 (oX_0 hX) ⟨(Nat.le_of_ble_eq_true rfl), (Nat.le_of_ble_eq_true rfl), (by omega), (by omega)⟩ dL_areRoomsRight_159 (t_X9_roomOf0 hX hC.tr _ _ _ _ h) rfl rfl rfl (Nat.le_of_ble_eq_true rfl) (fun r21 q22 h => ?_)
      refine a_iadd (pc := 162) hC dL_areRoomsRight_162 ?_
      refine a_istore_n (pc := 163) hC dL_areRoomsRight_163 (Nat.le_of_ble_eq_true rfl) ?_
      replace h := h _ rfl
      refine a_iload_n (pc := 164) hC dL_areRoomsRight_164 rfl ?_
      refine a_aload_n (pc := 165) hC dL_areRoomsRight_165 rfl ?_
      refine a_iload (pc := 166) hC dL_areRoomsRight_166 rfl ?_
      refine a_iconst (pc := 168) hC dL_areRoomsRight_168 (v := 5) rfl ?_
      refine a_callV (pc := 169) hC hR vm_X9_roomOf tw_462 cl_X9 (oX_0 hX) ⟨(Nat.le_of_ble_eq_true rfl), (Nat.le_of_ble_eq_true rfl), (by omega), (by omega)⟩ dL_areRoomsRight_169 (t_X9_roomOf0 hX hC.tr _ _ _ _ h) rfl rfl rfl (Nat.le_of_ble_eq_true rfl) (fun r24 q25 h => ?_)
      refine a_iadd (pc := 172) hC dL_areRoomsRight_172 ?_
      refine a_istore_n (pc := 173) hC dL_areRoomsRight_173 (Nat.le_of_ble_eq_true rfl) ?_
      replace h := h _ rfl
      refine a_iload (pc := 174) hC dL_areRoomsRight_174 rfl ?_
      refine a_if_eq (pc := 176) (tgt := 311) hC dL_areRoomsRight_176 (by decide) (fun c => ?_) (fun c => ?_)
      · replace h := h.1 c
        refine a_iconst (pc := 311) hC dL_areRoomsRight_311 (v := 0) rfl ?_
        refine a_istore (pc := 312) hC dL_areRoomsRight_312 (Nat.le_of_ble_eq_true rfl) ?_
        refine a_iinc (pc := 314) hC dL_areRoomsRight_314 rfl (c := 1) rfl ?_
        replace h := h _ rfl
        refine a_goto (pc := 317) (tgt := 61) hC dL_areRoomsRight_317 (by decide) ?_
        exact AW.widen (by omega) (by omega) ((hB _ _ _ _ _ h).forget ⟨rfl, rfl, rfl, rfl, rfl, rfl, trivial⟩)
      · replace h := h.2 c
        refine a_aload_n (pc := 179) hC dL_areRoomsRight_179 rfl ?_
        refine a_iload (pc := 180) hC dL_areRoomsRight_180 rfl ?_
        refine a_callV (pc := 182) hC hR vm_X9_others tw_1045 cl_X9 (oX_0 hX) ⟨(Nat.le_of_ble_eq_true rfl), (Nat.le_of_ble_eq_true rfl), (by omega), (by omega)⟩ dL_areRoomsRight_182 (t_X9_others0 hX hC.tr _ _ _ h) rfl rfl rfl (Nat.le_of_ble_eq_true rfl) (fun r28 q29 h => ?_)
        refine a_aload_n (pc := 185) hC dL_areRoomsRight_185 rfl ?_
        refine a_iload (pc := 186) hC dL_areRoomsRight_186 rfl ?_
        refine a_callS (pc := 188) hC hR sm_L_singersIn tw_1010 ⟨(Nat.le_of_ble_eq_true rfl), (Nat.le_of_ble_eq_true rfl), (by omega), (by omega)⟩ dL_areRoomsRight_188 (t_L_singersIn hX hC.tr _ _ _ h) rfl rfl rfl (Nat.le_of_ble_eq_true rfl) (fun r30 q31 h => ?_)
        refine a_icmp_ne (pc := 191) (tgt := 311) hC dL_areRoomsRight_191 (by decide) (fun c => ?_) (fun c => ?_)
        · replace h := h.1 c
          refine a_iconst (pc := 311) hC dL_areRoomsRight_311 (v := 0) rfl ?_
          refine a_istore (pc := 312) hC dL_areRoomsRight_312 (Nat.le_of_ble_eq_true rfl) ?_
          refine a_iinc (pc := 314) hC dL_areRoomsRight_314 rfl (c := 1) rfl ?_
          replace h := h _ rfl
          refine a_goto (pc := 317) (tgt := 61) hC dL_areRoomsRight_317 (by decide) ?_
          exact AW.widen (by omega) (by omega) ((hB _ _ _ _ _ h).forget ⟨rfl, rfl, rfl, rfl, rfl, rfl, trivial⟩)
        · replace h := h.2 c
          refine a_aload_n (pc := 194) hC dL_areRoomsRight_194 rfl ?_
          refine a_iload (pc := 195) hC dL_areRoomsRight_195 rfl ?_
          refine a_iconst (pc := 197) hC dL_areRoomsRight_197 (v := 2) rfl ?_
          refine a_callV (pc := 198) hC hR vm_X9_roomOf tw_462 cl_X9 (oX_0 hX) ⟨(Nat.le_of_ble_eq_true rfl), (Nat.le_of_ble_eq_true rfl), (by omega), (by omega)⟩ dL_areRoomsRight_198 (t_X9_roomOf0 hX hC.tr _ _ _ _ h) rfl rfl rfl (Nat.le_of_ble_eq_true rfl) (fun r33 q34 h => ?_)
          refine a_aload_n (pc := 201) hC dL_areRoomsRight_201 rfl ?_
          refine a_iload (pc := 202) hC dL_areRoomsRight_202 rfl ?_
          refine a_callS (pc := 204) hC hR sm_L_singersIn tw_1010 ⟨(Nat.le_of_ble_eq_true rfl), (Nat.le_of_ble_eq_true rfl), (by omega), (by omega)⟩ dL_areRoomsRight_204 (t_L_singersIn hX hC.tr _ _ _ h) rfl rfl rfl (Nat.le_of_ble_eq_true rfl) (fun r35 q36 h => ?_)
          refine a_callS (pc := 207) hC hR sm_J6_bitCount_0f7a4 tw_1013 ⟨(Nat.le_of_ble_eq_true rfl), (Nat.le_of_ble_eq_true rfl), (by omega), (by omega)⟩ dL_areRoomsRight_207 (t_J6_bitCount_0f7a4 hX.cl hC.tr _ _ _ h) rfl rfl rfl (Nat.le_of_ble_eq_true rfl) (fun r37 q38 h => ?_)
          refine a_icmp_ne (pc := 210) (tgt := 311) hC dL_areRoomsRight_210 (by decide) (fun c => ?_) (fun c => ?_)
          · replace h := h.1 c
            refine a_iconst (pc := 311) hC dL_areRoomsRight_311 (v := 0) rfl ?_
            refine a_istore (pc := 312) hC dL_areRoomsRight_312 (Nat.le_of_ble_eq_true rfl) ?_
            refine a_iinc (pc := 314) hC dL_areRoomsRight_314 rfl (c := 1) rfl ?_
            replace h := h _ rfl
            refine a_goto (pc := 317) (tgt := 61) hC dL_areRoomsRight_317 (by decide) ?_
            exact AW.widen (by omega) (by omega) ((hB _ _ _ _ _ h).forget ⟨rfl, rfl, rfl, rfl, rfl, rfl, trivial⟩)
          · replace h := h.2 c
            refine a_aload_n (pc := 213) hC dL_areRoomsRight_213 rfl ?_
            refine a_iload (pc := 214) hC dL_areRoomsRight_214 rfl ?_
            refine a_iconst (pc := 216) hC dL_areRoomsRight_216 (v := 3) rfl ?_
            refine a_callV (pc := 217) hC hR vm_X9_roomOf tw_462 cl_X9 (oX_0 hX) ⟨(Nat.le_of_ble_eq_true rfl), (Nat.le_of_ble_eq_true rfl), (by omega), (by omega)⟩ dL_areRoomsRight_217 (t_X9_roomOf0 hX hC.tr _ _ _ _ h) rfl rfl rfl (Nat.le_of_ble_eq_true rfl) (fun r40 q41 h => ?_)
            refine a_iload (pc := 220) hC dL_areRoomsRight_220 rfl ?_
            refine a_icmp_ne (pc := 222) (tgt := 311) hC dL_areRoomsRight_222 (by decide) (fun c => ?_) (fun c => ?_)
            · replace h := h.1 c
              refine a_iconst (pc := 311) hC dL_areRoomsRight_311 (v := 0) rfl ?_
              refine a_istore (pc := 312) hC dL_areRoomsRight_312 (Nat.le_of_ble_eq_true rfl) ?_
              refine a_iinc (pc := 314) hC dL_areRoomsRight_314 rfl (c := 1) rfl ?_
              replace h := h _ rfl
              refine a_goto (pc := 317) (tgt := 61) hC dL_areRoomsRight_317 (by decide) ?_
              exact AW.widen (by omega) (by omega) ((hB _ _ _ _ _ h).forget ⟨rfl, rfl, rfl, rfl, rfl, rfl, trivial⟩)
            · replace h := h.2 c
              refine a_aload_n (pc := 225) hC dL_areRoomsRight_225 rfl ?_
              refine a_iload (pc := 226) hC dL_areRoomsRight_226 rfl ?_
              refine a_callV (pc := 228) hC hR vm_X9_free tw_1049 cl_X9 (oX_0 hX) ⟨(Nat.le_of_ble_eq_true rfl), (Nat.le_of_ble_eq_true rfl), (by omega), (by omega)⟩ dL_areRoomsRight_228 (t_X9_free0 hX hC.tr _ _ _ h) rfl rfl rfl (Nat.le_of_ble_eq_true rfl) (fun r43 q44 h => ?_)
              refine a_iload (pc := 231) hC dL_areRoomsRight_231 rfl ?_
              refine a_icmp_ne (pc := 233) (tgt := 311) hC dL_areRoomsRight_233 (by decide) (fun c => ?_) (fun c => ?_)
              · replace h := h.1 c
                refine a_iconst (pc := 311) hC dL_areRoomsRight_311 (v := 0) rfl ?_
                refine a_istore (pc := 312) hC dL_areRoomsRight_312 (Nat.le_of_ble_eq_true rfl) ?_
                refine a_iinc (pc := 314) hC dL_areRoomsRight_314 rfl (c := 1) rfl ?_
                replace h := h _ rfl
                refine a_goto (pc := 317) (tgt := 61) hC dL_areRoomsRight_317 (by decide) ?_
                exact AW.widen (by omega) (by omega) ((hB _ _ _ _ _ h).forget ⟨rfl, rfl, rfl, rfl, rfl, rfl, trivial⟩)
              · replace h := h.2 c
                refine a_aload_n (pc := 236) hC dL_areRoomsRight_236 rfl ?_
                refine a_iload (pc := 237) hC dL_areRoomsRight_237 rfl ?_
                refine a_iconst (pc := 239) hC dL_areRoomsRight_239 (v := 4) rfl ?_
                refine a_callV (pc := 240) hC hR vm_X9_roomOf tw_462 cl_X9 (oX_0 hX) ⟨(Nat.le_of_ble_eq_true rfl), (Nat.le_of_ble_eq_true rfl), (by omega), (by omega)⟩ dL_areRoomsRight_240 (t_X9_roomOf0 hX hC.tr _ _ _ _ h) rfl rfl rfl (Nat.le_of_ble_eq_true rfl) (fun r46 q47 h => ?_)
                refine a_iload (pc := 243) hC dL_areRoomsRight_243 rfl ?_
                refine a_iload (pc := 245) hC dL_areRoomsRight_245 rfl ?_
                refine a_callS (pc := 247) hC hR sm_J6_bitCount_0f7a4 tw_1013 ⟨(Nat.le_of_ble_eq_true rfl), (Nat.le_of_ble_eq_true rfl), (by omega), (by omega)⟩ dL_areRoomsRight_247 (t_J6_bitCount_0f7a4 hX.cl hC.tr _ _ _ h) rfl rfl rfl (Nat.le_of_ble_eq_true rfl) (fun r48 q49 h => ?_)
                refine a_isub (pc := 250) hC dL_areRoomsRight_250 ?_
                refine a_icmp_ne (pc := 251) (tgt := 311) hC dL_areRoomsRight_251 (by decide) (fun c => ?_) (fun c => ?_)
                · replace h := h.1 c
                  refine a_iconst (pc := 311) hC dL_areRoomsRight_311 (v := 0) rfl ?_
                  refine a_istore (pc := 312) hC dL_areRoomsRight_312 (Nat.le_of_ble_eq_true rfl) ?_
                  refine a_iinc (pc := 314) hC dL_areRoomsRight_314 rfl (c := 1) rfl ?_
                  replace h := h _ rfl
                  refine a_goto (pc := 317) (tgt := 61) hC dL_areRoomsRight_317 (by decide) ?_
                  exact AW.widen (by omega) (by omega) ((hB _ _ _ _ _ h).forget ⟨rfl, rfl, rfl, rfl, rfl, rfl, trivial⟩)
                · replace h := h.2 c
                  refine a_iconst (pc := 254) hC dL_areRoomsRight_254 (v := 2) rfl ?_
                  refine a_aload_n (pc := 255) hC dL_areRoomsRight_255 rfl ?_
                  refine a_iload (pc := 256) hC dL_areRoomsRight_256 rfl ?_
                  refine a_callV (pc := 258) hC hR vm_X9_dryIn tw_1053 cl_X9 (oX_0 hX) ⟨(Nat.le_of_ble_eq_true rfl), (Nat.le_of_ble_eq_true rfl), (by omega), (by omega)⟩ dL_areRoomsRight_258 (t_X9_dryIn0 hX hC.tr _ _ _ h) rfl rfl rfl (Nat.le_of_ble_eq_true rfl) (fun r51 q52 h => ?_)
                  refine a_imul (pc := 261) hC dL_areRoomsRight_261 ?_
                  refine a_aload_n (pc := 262) hC dL_areRoomsRight_262 rfl ?_
                  refine a_iload (pc := 263) hC dL_areRoomsRight_263 rfl ?_
                  refine a_iconst (pc := 265) hC dL_areRoomsRight_265 (v := 1) rfl ?_
                  refine a_callV (pc := 266) hC hR vm_X9_roomOf tw_462 cl_X9 (oX_0 hX) ⟨(Nat.le_of_ble_eq_true rfl), (Nat.le_of_ble_eq_true rfl), (by omega), (by omega)⟩ dL_areRoomsRight_266 (t_X9_roomOf0 hX hC.tr _ _ _ _ h) rfl rfl rfl (Nat.le_of_ble_eq_true rfl) (fun r53 q54 h => ?_)
                  refine a_icmp_lt (pc := 269) (tgt := 311) hC dL_areRoomsRight_269 (by decide) (fun c => ?_) (fun c => ?_)
                  · replace h := h.1 c
                    refine a_iconst (pc := 311) hC dL_areRoomsRight_311 (v := 0) rfl ?_
                    refine a_istore (pc := 312) hC dL_areRoomsRight_312 (Nat.le_of_ble_eq_true rfl) ?_
                    refine a_iinc (pc := 314) hC dL_areRoomsRight_314 rfl (c := 1) rfl ?_
                    replace h := h _ rfl
                    refine a_goto (pc := 317) (tgt := 61) hC dL_areRoomsRight_317 (by decide) ?_
                    exact AW.widen (by omega) (by omega) ((hB _ _ _ _ _ h).forget ⟨rfl, rfl, rfl, rfl, rfl, rfl, trivial⟩)
                  · replace h := h.2 c
                    refine a_iconst (pc := 272) hC dL_areRoomsRight_272 (v := 2) rfl ?_
                    refine a_aload_n (pc := 273) hC dL_areRoomsRight_273 rfl ?_
                    refine a_iload (pc := 274) hC dL_areRoomsRight_274 rfl ?_
                    refine a_callV (pc := 276) hC hR vm_X9_dryIn tw_1053 cl_X9 (oX_0 hX) ⟨(Nat.le_of_ble_eq_true rfl), (Nat.le_of_ble_eq_true rfl), (by omega), (by omega)⟩ dL_areRoomsRight_276 (t_X9_dryIn0 hX hC.tr _ _ _ h) rfl rfl rfl (Nat.le_of_ble_eq_true rfl) (fun r56 q57 h => ?_)
                    refine a_imul (pc := 279) hC dL_areRoomsRight_279 ?_
                    refine a_aload_n (pc := 280) hC dL_areRoomsRight_280 rfl ?_
                    refine a_iload (pc := 281) hC dL_areRoomsRight_281 rfl ?_
                    refine a_iconst (pc := 283) hC dL_areRoomsRight_283 (v := 1) rfl ?_
                    refine a_callV (pc := 284) hC hR vm_X9_roomOf tw_462 cl_X9 (oX_0 hX) ⟨(Nat.le_of_ble_eq_true rfl), (Nat.le_of_ble_eq_true rfl), (by omega), (by omega)⟩ dL_areRoomsRight_284 (t_X9_roomOf0 hX hC.tr _ _ _ _ h) rfl rfl rfl (Nat.le_of_ble_eq_true rfl) (fun r58 q59 h => ?_)
                    refine a_iconst (pc := 287) hC dL_areRoomsRight_287 (v := 1) rfl ?_
                    refine a_iadd (pc := 288) hC dL_areRoomsRight_288 ?_
                    refine a_icmp_gt (pc := 289) (tgt := 311) hC dL_areRoomsRight_289 (by decide) (fun c => ?_) (fun c => ?_)
                    · replace h := h.1 c
                      refine a_iconst (pc := 311) hC dL_areRoomsRight_311 (v := 0) rfl ?_
                      refine a_istore (pc := 312) hC dL_areRoomsRight_312 (Nat.le_of_ble_eq_true rfl) ?_
                      refine a_iinc (pc := 314) hC dL_areRoomsRight_314 rfl (c := 1) rfl ?_
                      replace h := h _ rfl
                      refine a_goto (pc := 317) (tgt := 61) hC dL_areRoomsRight_317 (by decide) ?_
                      exact AW.widen (by omega) (by omega) ((hB _ _ _ _ _ h).forget ⟨rfl, rfl, rfl, rfl, rfl, rfl, trivial⟩)
                    · replace h := h.2 c
                      refine a_aload_n (pc := 292) hC dL_areRoomsRight_292 rfl ?_
                      refine a_iconst (pc := 293) hC dL_areRoomsRight_293 (v := 0) rfl ?_
                      refine a_iload (pc := 294) hC dL_areRoomsRight_294 rfl ?_
                      refine a_bipush (pc := 296) hC dL_areRoomsRight_296 (v := 6) rfl ?_
                      refine a_callSh (pc := 298) hC hR sm_L_ask tw_430 ⟨(Nat.le_of_ble_eq_true rfl), (Nat.le_of_ble_eq_true rfl), (by omega), (by omega)⟩ dL_areRoomsRight_298 (t_L_ask hX hN hC.tr _ _ _ _ _ h) rfl rfl rfl (Nat.le_of_ble_eq_true rfl) (fun r61 q62 h => ?_)
                      refine a_sipush (pc := 301) hC dL_areRoomsRight_301 (v := (-2003)) rfl ?_
                      refine a_icmp_ne (pc := 304) (tgt := 311) hC dL_areRoomsRight_304 (by decide) (fun c => ?_) (fun c => ?_)
                      · replace h := h.1 c
                        refine a_iconst (pc := 311) hC dL_areRoomsRight_311 (v := 0) rfl ?_
                        refine a_istore (pc := 312) hC dL_areRoomsRight_312 (Nat.le_of_ble_eq_true rfl) ?_
                        refine a_iinc (pc := 314) hC dL_areRoomsRight_314 rfl (c := 1) rfl ?_
                        replace h := h _ rfl
                        refine a_goto (pc := 317) (tgt := 61) hC dL_areRoomsRight_317 (by decide) ?_
                        exact AW.widen (by omega) (by omega) ((hB _ _ _ _ _ h).forget ⟨rfl, rfl, rfl, rfl, rfl, rfl, trivial⟩)
                      · replace h := h.2 c
                        refine a_iconst (pc := 307) hC dL_areRoomsRight_307 (v := 1) rfl ?_
                        refine a_goto (pc := 308) (tgt := 312) hC dL_areRoomsRight_308 (by decide) ?_
                        refine a_istore (pc := 312) hC dL_areRoomsRight_312 (Nat.le_of_ble_eq_true rfl) ?_
                        refine a_iinc (pc := 314) hC dL_areRoomsRight_314 rfl (c := 1) rfl ?_
                        replace h := h _ rfl
                        refine a_goto (pc := 317) (tgt := 61) hC dL_areRoomsRight_317 (by decide) ?_
                        exact AW.widen (by omega) (by omega) ((hB _ _ _ _ _ h).forget ⟨rfl, rfl, rfl, rfl, rfl, rfl, trivial⟩)
set_option maxRecDepth 20000 in
theorem tLL_areRoomsRight_323 {f : aF} {g : aG} (hX : isX g) (hN : isNc g) (P : Int32 → aS → Prop) (hR : f_R f = aR 13 20 120) (hC : aOK f g cL_areRoomsRight 10 RL) (hE : aEi f g .boolean (fun r u => (r = 0 ∨ r = 1) ∧ P r u) (fun _ _ => False) 20 120) (c1 : Int32) (c2 : Int32) (c3 : Int32) {K : Int32 → aS → Prop} (hK : ∀ (w4 : Int32) (q : aS), K w4 q → AW f g 428 [some (.ref (gAd g 0)), some (.int c1), some (.int c2), some (.int c3), some (.int w4), none, none, none, none, none] [] q 20 120) : ∀ (N : Nat) (v4 : Int32) (v5 : Int32) (q : aS), LL_areRoomsRight_323 c1 c2 c3 P K N v4 v5 q → AW f g 323 [some (.ref (gAd g 0)), some (.int c1), some (.int c2), some (.int c3), some (.int v4), some (.int v5), none, none, none, none] [] q 20 120 := by
  intro N
  induction N with
  | zero =>
    intro v4 v5 q h
    exact h.elim
  | succ N ih =>
    intro v4 v5 q h
    unfold LL_areRoomsRight_323 at h
    refine a_iload (pc := 323) hC dL_areRoomsRight_323 rfl ?_
    refine a_iconst (pc := 325) hC dL_areRoomsRight_325 (v := 1) rfl ?_
    refine a_iadd (pc := 326) hC dL_areRoomsRight_326 ?_
    refine a_iload_n (pc := 327) hC dL_areRoomsRight_327 rfl ?_
    refine a_icmp_ge (pc := 328) (tgt := 428) hC dL_areRoomsRight_328 (by decide) (fun c => ?_) (fun c => ?_)
    · replace h := h.1 c
      exact ((hK _ _ h).forget ⟨rfl, rfl, rfl, rfl, rfl, trivial⟩)
    · replace h := h.2 c
      refine a_aload_n (pc := 331) hC dL_areRoomsRight_331 rfl ?_
      refine a_iload (pc := 332) hC dL_areRoomsRight_332 rfl ?_
      refine a_callV (pc := 334) hC hR vm_X9_dampest tw_614 cl_X9 (oX_0 hX) ⟨(Nat.le_of_ble_eq_true rfl), (Nat.le_of_ble_eq_true rfl), (Nat.le_of_ble_eq_true rfl), (Nat.le_of_ble_eq_true rfl)⟩ dL_areRoomsRight_334 (t_X9_dampest0 hX hC.tr _ _ _ h) rfl rfl rfl (Nat.le_of_ble_eq_true rfl) (fun r70 q71 h => ?_)
      refine a_istore (pc := 337) hC dL_areRoomsRight_337 (Nat.le_of_ble_eq_true rfl) ?_
      refine a_aload_n (pc := 339) hC dL_areRoomsRight_339 rfl ?_
      refine a_iload (pc := 340) hC dL_areRoomsRight_340 rfl ?_
      refine a_iconst (pc := 342) hC dL_areRoomsRight_342 (v := 1) rfl ?_
      refine a_iadd (pc := 343) hC dL_areRoomsRight_343 ?_
      refine a_callV (pc := 344) hC hR vm_X9_dampest tw_614 cl_X9 (oX_0 hX) ⟨(Nat.le_of_ble_eq_true rfl), (Nat.le_of_ble_eq_true rfl), (Nat.le_of_ble_eq_true rfl), (Nat.le_of_ble_eq_true rfl)⟩ dL_areRoomsRight_344 (t_X9_dampest0 hX hC.tr _ _ _ h) rfl rfl rfl (Nat.le_of_ble_eq_true rfl) (fun r72 q73 h => ?_)
      refine a_istore (pc := 347) hC dL_areRoomsRight_347 (Nat.le_of_ble_eq_true rfl) ?_
      refine a_aload_n (pc := 349) hC dL_areRoomsRight_349 rfl ?_
      refine a_iload (pc := 350) hC dL_areRoomsRight_350 rfl ?_
      refine a_iconst (pc := 352) hC dL_areRoomsRight_352 (v := 1) rfl ?_
      refine a_callV (pc := 353) hC hR vm_X9_roomOf tw_462 cl_X9 (oX_0 hX) ⟨(Nat.le_of_ble_eq_true rfl), (Nat.le_of_ble_eq_true rfl), (Nat.le_of_ble_eq_true rfl), (Nat.le_of_ble_eq_true rfl)⟩ dL_areRoomsRight_353 (t_X9_roomOf0 hX hC.tr _ _ _ _ h) rfl rfl rfl (Nat.le_of_ble_eq_true rfl) (fun r74 q75 h => ?_)
      refine a_aload_n (pc := 356) hC dL_areRoomsRight_356 rfl ?_
      refine a_iload (pc := 357) hC dL_areRoomsRight_357 rfl ?_
      refine a_iconst (pc := 359) hC dL_areRoomsRight_359 (v := 1) rfl ?_
      refine a_callV (pc := 360) hC hR vm_X9_roomOf tw_462 cl_X9 (oX_0 hX) ⟨(Nat.le_of_ble_eq_true rfl), (Nat.le_of_ble_eq_true rfl), (Nat.le_of_ble_eq_true rfl), (Nat.le_of_ble_eq_true rfl)⟩ dL_areRoomsRight_360 (t_X9_roomOf0 hX hC.tr _ _ _ _ h) rfl rfl rfl (Nat.le_of_ble_eq_true rfl) (fun r76 q77 h => ?_)
      refine a_isub (pc := 363) hC dL_areRoomsRight_363 ?_
      refine a_istore (pc := 364) hC dL_areRoomsRight_364 (Nat.le_of_ble_eq_true rfl) ?_
      replace h := h _ rfl
      refine a_aload_n (pc := 366) hC dL_areRoomsRight_366 rfl ?_
      refine a_iload (pc := 367) hC dL_areRoomsRight_367 rfl ?_
      refine a_iconst (pc := 369) hC dL_areRoomsRight_369 (v := 2) rfl ?_
      refine a_callV (pc := 370) hC hR vm_X9_roomOf tw_462 cl_X9 (oX_0 hX) ⟨(Nat.le_of_ble_eq_true rfl), (Nat.le_of_ble_eq_true rfl), (Nat.le_of_ble_eq_true rfl), (Nat.le_of_ble_eq_true rfl)⟩ dL_areRoomsRight_370 (t_X9_roomOf0 hX hC.tr _ _ _ _ h) rfl rfl rfl (Nat.le_of_ble_eq_true rfl) (fun r79 q80 h => ?_)
      refine a_aload_n (pc := 373) hC dL_areRoomsRight_373 rfl ?_
      refine a_iload (pc := 374) hC dL_areRoomsRight_374 rfl ?_
      refine a_iconst (pc := 376) hC dL_areRoomsRight_376 (v := 2) rfl ?_
      refine a_callV (pc := 377) hC hR vm_X9_roomOf tw_462 cl_X9 (oX_0 hX) ⟨(Nat.le_of_ble_eq_true rfl), (Nat.le_of_ble_eq_true rfl), (Nat.le_of_ble_eq_true rfl), (Nat.le_of_ble_eq_true rfl)⟩ dL_areRoomsRight_377 (t_X9_roomOf0 hX hC.tr _ _ _ _ h) rfl rfl rfl (Nat.le_of_ble_eq_true rfl) (fun r81 q82 h => ?_)
      refine a_isub (pc := 380) hC dL_areRoomsRight_380 ?_
      refine a_istore (pc := 381) hC dL_areRoomsRight_381 (Nat.le_of_ble_eq_true rfl) ?_
      replace h := h _ rfl
      refine a_iload (pc := 383) hC dL_areRoomsRight_383 rfl ?_
      refine a_if_eq (pc := 385) (tgt := 419) hC dL_areRoomsRight_385 (by decide) (fun c => ?_) (fun c => ?_)
      · replace h := h.1 c
        refine a_iconst (pc := 419) hC dL_areRoomsRight_419 (v := 0) rfl ?_
        refine a_istore (pc := 420) hC dL_areRoomsRight_420 (Nat.le_of_ble_eq_true rfl) ?_
        refine a_iinc (pc := 422) hC dL_areRoomsRight_422 rfl (c := 1) rfl ?_
        replace h := h _ rfl
        refine a_goto (pc := 425) (tgt := 323) hC dL_areRoomsRight_425 (by decide) ?_
        exact ((ih _ _ _ h).forget ⟨rfl, rfl, rfl, rfl, rfl, rfl, trivial⟩)
      · replace h := h.2 c
        refine a_iload (pc := 388) hC dL_areRoomsRight_388 rfl ?_
        refine a_if_gt (pc := 390) (tgt := 415) hC dL_areRoomsRight_390 (by decide) (fun c => ?_) (fun c => ?_)
        · replace h := h.1 c
          refine a_iconst (pc := 415) hC dL_areRoomsRight_415 (v := 1) rfl ?_
          refine a_goto (pc := 416) (tgt := 420) hC dL_areRoomsRight_416 (by decide) ?_
          refine a_istore (pc := 420) hC dL_areRoomsRight_420 (Nat.le_of_ble_eq_true rfl) ?_
          refine a_iinc (pc := 422) hC dL_areRoomsRight_422 rfl (c := 1) rfl ?_
          replace h := h _ rfl
          refine a_goto (pc := 425) (tgt := 323) hC dL_areRoomsRight_425 (by decide) ?_
          exact ((ih _ _ _ h).forget ⟨rfl, rfl, rfl, rfl, rfl, rfl, trivial⟩)
        · replace h := h.2 c
          refine a_iload (pc := 393) hC dL_areRoomsRight_393 rfl ?_
          refine a_if_ne (pc := 395) (tgt := 419) hC dL_areRoomsRight_395 (by decide) (fun c => ?_) (fun c => ?_)
          · replace h := h.1 c
            refine a_iconst (pc := 419) hC dL_areRoomsRight_419 (v := 0) rfl ?_
            refine a_istore (pc := 420) hC dL_areRoomsRight_420 (Nat.le_of_ble_eq_true rfl) ?_
            refine a_iinc (pc := 422) hC dL_areRoomsRight_422 rfl (c := 1) rfl ?_
            replace h := h _ rfl
            refine a_goto (pc := 425) (tgt := 323) hC dL_areRoomsRight_425 (by decide) ?_
            exact ((ih _ _ _ h).forget ⟨rfl, rfl, rfl, rfl, rfl, rfl, trivial⟩)
          · replace h := h.2 c
            refine a_iload (pc := 398) hC dL_areRoomsRight_398 rfl ?_
            refine a_if_gt (pc := 400) (tgt := 415) hC dL_areRoomsRight_400 (by decide) (fun c => ?_) (fun c => ?_)
            · replace h := h.1 c
              refine a_iconst (pc := 415) hC dL_areRoomsRight_415 (v := 1) rfl ?_
              refine a_goto (pc := 416) (tgt := 420) hC dL_areRoomsRight_416 (by decide) ?_
              refine a_istore (pc := 420) hC dL_areRoomsRight_420 (Nat.le_of_ble_eq_true rfl) ?_
              refine a_iinc (pc := 422) hC dL_areRoomsRight_422 rfl (c := 1) rfl ?_
              replace h := h _ rfl
              refine a_goto (pc := 425) (tgt := 323) hC dL_areRoomsRight_425 (by decide) ?_
              exact ((ih _ _ _ h).forget ⟨rfl, rfl, rfl, rfl, rfl, rfl, trivial⟩)
            · replace h := h.2 c
              refine a_iload (pc := 403) hC dL_areRoomsRight_403 rfl ?_
              refine a_if_ne (pc := 405) (tgt := 419) hC dL_areRoomsRight_405 (by decide) (fun c => ?_) (fun c => ?_)
              · replace h := h.1 c
                refine a_iconst (pc := 419) hC dL_areRoomsRight_419 (v := 0) rfl ?_
                refine a_istore (pc := 420) hC dL_areRoomsRight_420 (Nat.le_of_ble_eq_true rfl) ?_
                refine a_iinc (pc := 422) hC dL_areRoomsRight_422 rfl (c := 1) rfl ?_
                replace h := h _ rfl
                refine a_goto (pc := 425) (tgt := 323) hC dL_areRoomsRight_425 (by decide) ?_
                exact ((ih _ _ _ h).forget ⟨rfl, rfl, rfl, rfl, rfl, rfl, trivial⟩)
              · replace h := h.2 c
                refine a_iload (pc := 408) hC dL_areRoomsRight_408 rfl ?_
                refine a_iload (pc := 410) hC dL_areRoomsRight_410 rfl ?_
                refine a_icmp_ge (pc := 412) (tgt := 419) hC dL_areRoomsRight_412 (by decide) (fun c => ?_) (fun c => ?_)
                · replace h := h.1 c
                  refine a_iconst (pc := 419) hC dL_areRoomsRight_419 (v := 0) rfl ?_
                  refine a_istore (pc := 420) hC dL_areRoomsRight_420 (Nat.le_of_ble_eq_true rfl) ?_
                  refine a_iinc (pc := 422) hC dL_areRoomsRight_422 rfl (c := 1) rfl ?_
                  replace h := h _ rfl
                  refine a_goto (pc := 425) (tgt := 323) hC dL_areRoomsRight_425 (by decide) ?_
                  exact ((ih _ _ _ h).forget ⟨rfl, rfl, rfl, rfl, rfl, rfl, trivial⟩)
                · replace h := h.2 c
                  refine a_iconst (pc := 415) hC dL_areRoomsRight_415 (v := 1) rfl ?_
                  refine a_goto (pc := 416) (tgt := 420) hC dL_areRoomsRight_416 (by decide) ?_
                  refine a_istore (pc := 420) hC dL_areRoomsRight_420 (Nat.le_of_ble_eq_true rfl) ?_
                  refine a_iinc (pc := 422) hC dL_areRoomsRight_422 rfl (c := 1) rfl ?_
                  replace h := h _ rfl
                  refine a_goto (pc := 425) (tgt := 323) hC dL_areRoomsRight_425 (by decide) ?_
                  exact ((ih _ _ _ h).forget ⟨rfl, rfl, rfl, rfl, rfl, rfl, trivial⟩)
set_option maxRecDepth 20000 in
theorem t_L_areRoomsRight {l : Launch} {g : aG} (hX : isX g) (hN : isNc g) (hl : l.stackTraces = false) (q : aS) (P : Int32 → aS → Prop) (h : w_L_areRoomsRight q P) : aMi l g yL_areRoomsRight (aWs yL_areRoomsRight cL_areRoomsRight 10 (some .boolean)) 13 20 120 [.ref (gAd g 0)] q (fun r u => (r = 0 ∨ r = 1) ∧ P r u) (fun _ _ => False) := by
  refine aMi_of RL ⟨by decide +kernel, rfl⟩ (cat_all rfl) (Nat.le_of_ble_eq_true rfl) hl hX.cl (fun f hR hC hE => ?_)
  show AW f g 0 [some (.ref (gAd g 0)), none, none, none, none, none, none, none, none, none] [] q 0 0
  unfold w_L_areRoomsRight at h
  refine a_aload_n (pc := 0) hC dL_areRoomsRight_0 rfl ?_
  refine a_iconst (pc := 1) hC dL_areRoomsRight_1 (v := 0) rfl ?_
  refine a_callV (pc := 2) hC hR vm_X9_account tw_327 cl_X9 (oX_0 hX) ⟨(Nat.le_of_ble_eq_true rfl), (Nat.le_of_ble_eq_true rfl), (Nat.le_of_ble_eq_true rfl), (Nat.le_of_ble_eq_true rfl)⟩ dL_areRoomsRight_2 (t_X9_account0 hX hC.tr _ _ _ h) rfl rfl rfl (Nat.le_of_ble_eq_true rfl) (fun r1 q2 h => ?_)
  refine a_istore_n (pc := 5) hC dL_areRoomsRight_5 (Nat.le_of_ble_eq_true rfl) ?_
  refine a_iconst (pc := 6) hC dL_areRoomsRight_6 (v := 0) rfl ?_
  refine a_istore_n (pc := 7) hC dL_areRoomsRight_7 (Nat.le_of_ble_eq_true rfl) ?_
  refine a_iconst (pc := 8) hC dL_areRoomsRight_8 (v := 0) rfl ?_
  refine a_istore_n (pc := 9) hC dL_areRoomsRight_9 (Nat.le_of_ble_eq_true rfl) ?_
  refine a_aload_n (pc := 10) hC dL_areRoomsRight_10 rfl ?_
  refine a_bipush (pc := 11) hC dL_areRoomsRight_11 (v := 8) rfl ?_
  refine a_iload_n (pc := 13) hC dL_areRoomsRight_13 rfl ?_
  refine a_iconst (pc := 14) hC dL_areRoomsRight_14 (v := 0) rfl ?_
  refine a_callSh (pc := 15) hC hR sm_L_ask tw_430 ⟨(Nat.le_of_ble_eq_true rfl), (Nat.le_of_ble_eq_true rfl), (Nat.le_of_ble_eq_true rfl), (Nat.le_of_ble_eq_true rfl)⟩ dL_areRoomsRight_15 (t_L_ask hX hN hC.tr _ _ _ _ _ h) rfl rfl rfl (Nat.le_of_ble_eq_true rfl) (fun r3 q4 h => ?_)
  refine a_sipush (pc := 18) hC dL_areRoomsRight_18 (v := (-2004)) rfl ?_
  refine a_icmp_ne (pc := 21) (tgt := 55) hC dL_areRoomsRight_21 (by decide) (fun c => ?_) (fun c => ?_)
  · replace h := h.1 c
    refine a_iconst (pc := 55) hC dL_areRoomsRight_55 (v := 0) rfl ?_
    refine a_istore (pc := 56) hC dL_areRoomsRight_56 (Nat.le_of_ble_eq_true rfl) ?_
    refine a_iconst (pc := 58) hC dL_areRoomsRight_58 (v := 0) rfl ?_
    refine a_istore (pc := 59) hC dL_areRoomsRight_59 (Nat.le_of_ble_eq_true rfl) ?_
    refine AW.widen (k2 := 6) (n2 := 36) (by decide) (by decide) ?_
    obtain ⟨N, hM9, h⟩ := h
    refine (AW.widen (by omega) (by omega) ((tLL_areRoomsRight_61 hX hN P hR hC hE _ (fun y66 y67 y68 q69 h => ?_) N _ _ _ _ _ hM9 h).forget ⟨rfl, rfl, rfl, rfl, rfl, rfl, trivial⟩))
    refine a_iconst (pc := 320) hC dL_areRoomsRight_320 (v := 0) rfl ?_
    refine a_istore (pc := 321) hC dL_areRoomsRight_321 (Nat.le_of_ble_eq_true rfl) ?_
    obtain ⟨N, h⟩ := h
    refine (tLL_areRoomsRight_323 hX hN P hR hC hE _ _ _ (fun y91 q92 h => ?_) N _ _ _ h).forget ⟨rfl, rfl, rfl, rfl, rfl, rfl, trivial⟩
    refine a_iload (pc := 428) hC dL_areRoomsRight_428 rfl ?_
    refine a_if_eq (pc := 430) (tgt := 473) hC dL_areRoomsRight_430 (by decide) (fun c => ?_) (fun c => ?_)
    · replace h := h.1 c
      refine a_iconst (pc := 473) hC dL_areRoomsRight_473 (v := 0) rfl ?_
      exact a_bret (pc := 474) hC hE (Or.inl rfl) h (Nat.le_of_ble_eq_true rfl) (Nat.le_of_ble_eq_true rfl) dL_areRoomsRight_474
    · replace h := h.2 c
      refine a_aload_n (pc := 433) hC dL_areRoomsRight_433 rfl ?_
      refine a_iconst (pc := 434) hC dL_areRoomsRight_434 (v := 5) rfl ?_
      refine a_callV (pc := 435) hC hR vm_X9_account tw_327 cl_X9 (oX_0 hX) ⟨(Nat.le_of_ble_eq_true rfl), (Nat.le_of_ble_eq_true rfl), (Nat.le_of_ble_eq_true rfl), (Nat.le_of_ble_eq_true rfl)⟩ dL_areRoomsRight_435 (t_X9_account0 hX hC.tr _ _ _ h) rfl rfl rfl (Nat.le_of_ble_eq_true rfl) (fun r93 q94 h => ?_)
      refine a_iload_n (pc := 438) hC dL_areRoomsRight_438 rfl ?_
      refine a_icmp_ne (pc := 439) (tgt := 473) hC dL_areRoomsRight_439 (by decide) (fun c => ?_) (fun c => ?_)
      · replace h := h.1 c
        refine a_iconst (pc := 473) hC dL_areRoomsRight_473 (v := 0) rfl ?_
        exact a_bret (pc := 474) hC hE (Or.inl rfl) h (Nat.le_of_ble_eq_true rfl) (Nat.le_of_ble_eq_true rfl) dL_areRoomsRight_474
      · replace h := h.2 c
        refine a_aload_n (pc := 442) hC dL_areRoomsRight_442 rfl ?_
        refine a_bipush (pc := 443) hC dL_areRoomsRight_443 (v := 6) rfl ?_
        refine a_callV (pc := 445) hC hR vm_X9_account tw_327 cl_X9 (oX_0 hX) ⟨(Nat.le_of_ble_eq_true rfl), (Nat.le_of_ble_eq_true rfl), (Nat.le_of_ble_eq_true rfl), (Nat.le_of_ble_eq_true rfl)⟩ dL_areRoomsRight_445 (t_X9_account0 hX hC.tr _ _ _ h) rfl rfl rfl (Nat.le_of_ble_eq_true rfl) (fun r95 q96 h => ?_)
        refine a_iload_n (pc := 448) hC dL_areRoomsRight_448 rfl ?_
        refine a_icmp_ne (pc := 449) (tgt := 473) hC dL_areRoomsRight_449 (by decide) (fun c => ?_) (fun c => ?_)
        · replace h := h.1 c
          refine a_iconst (pc := 473) hC dL_areRoomsRight_473 (v := 0) rfl ?_
          exact a_bret (pc := 474) hC hE (Or.inl rfl) h (Nat.le_of_ble_eq_true rfl) (Nat.le_of_ble_eq_true rfl) dL_areRoomsRight_474
        · replace h := h.2 c
          refine a_iload_n (pc := 452) hC dL_areRoomsRight_452 rfl ?_
          refine a_if_eq (pc := 453) (tgt := 469) hC dL_areRoomsRight_453 (by decide) (fun c => ?_) (fun c => ?_)
          · replace h := h.1 c
            refine a_iconst (pc := 469) hC dL_areRoomsRight_469 (v := 1) rfl ?_
            refine a_goto (pc := 470) (tgt := 474) hC dL_areRoomsRight_470 (by decide) ?_
            exact a_bret (pc := 474) hC hE (Or.inr rfl) h (Nat.le_of_ble_eq_true rfl) (Nat.le_of_ble_eq_true rfl) dL_areRoomsRight_474
          · replace h := h.2 c
            refine a_aload_n (pc := 456) hC dL_areRoomsRight_456 rfl ?_
            refine a_callVd (pc := 457) hC hR vm_X9_meanDamp tw_1057 cl_X9 (oX_0 hX) ⟨(Nat.le_of_ble_eq_true rfl), (Nat.le_of_ble_eq_true rfl), (Nat.le_of_ble_eq_true rfl), (Nat.le_of_ble_eq_true rfl)⟩ dL_areRoomsRight_457 (t_X9_meanDamp0 hX hC.tr _ _ h) rfl rfl rfl (Nat.le_of_ble_eq_true rfl) (fun r97 q98 h => ?_)
            refine a_iload_n (pc := 460) hC dL_areRoomsRight_460 rfl ?_
            refine a_i2d (pc := 461) hC dL_areRoomsRight_461 ?_
            refine a_iload_n (pc := 462) hC dL_areRoomsRight_462 rfl ?_
            refine a_i2d (pc := 463) hC dL_areRoomsRight_463 ?_
            refine a_ddiv (pc := 464) hC dL_areRoomsRight_464 h.1 ?_
            replace h := h.2
            refine a_dcmp (pc := 465) hC dL_areRoomsRight_465 ?_
            refine a_if_ne (pc := 466) (tgt := 473) hC dL_areRoomsRight_466 (by decide) (fun c => ?_) (fun c => ?_)
            · replace h := h.1 c
              refine a_iconst (pc := 473) hC dL_areRoomsRight_473 (v := 0) rfl ?_
              exact a_bret (pc := 474) hC hE (Or.inl rfl) h (Nat.le_of_ble_eq_true rfl) (Nat.le_of_ble_eq_true rfl) dL_areRoomsRight_474
            · replace h := h.2 c
              refine a_iconst (pc := 469) hC dL_areRoomsRight_469 (v := 1) rfl ?_
              refine a_goto (pc := 470) (tgt := 474) hC dL_areRoomsRight_470 (by decide) ?_
              exact a_bret (pc := 474) hC hE (Or.inr rfl) h (Nat.le_of_ble_eq_true rfl) (Nat.le_of_ble_eq_true rfl) dL_areRoomsRight_474
  · replace h := h.2 c
    refine a_aload_n (pc := 24) hC dL_areRoomsRight_24 rfl ?_
    refine a_bipush (pc := 25) hC dL_areRoomsRight_25 (v := 8) rfl ?_
    refine a_iconst (pc := 27) hC dL_areRoomsRight_27 (v := (-1)) rfl ?_
    refine a_iconst (pc := 28) hC dL_areRoomsRight_28 (v := 0) rfl ?_
    refine a_callSh (pc := 29) hC hR sm_L_ask tw_430 ⟨(Nat.le_of_ble_eq_true rfl), (Nat.le_of_ble_eq_true rfl), (Nat.le_of_ble_eq_true rfl), (Nat.le_of_ble_eq_true rfl)⟩ dL_areRoomsRight_29 (t_L_ask hX hN hC.tr _ _ _ _ _ h) rfl rfl rfl (Nat.le_of_ble_eq_true rfl) (fun r101 q102 h => ?_)
    refine a_sipush (pc := 32) hC dL_areRoomsRight_32 (v := (-2004)) rfl ?_
    refine a_icmp_ne (pc := 35) (tgt := 55) hC dL_areRoomsRight_35 (by decide) (fun c => ?_) (fun c => ?_)
    · replace h := h.1 c
      refine a_iconst (pc := 55) hC dL_areRoomsRight_55 (v := 0) rfl ?_
      refine a_istore (pc := 56) hC dL_areRoomsRight_56 (Nat.le_of_ble_eq_true rfl) ?_
      refine a_iconst (pc := 58) hC dL_areRoomsRight_58 (v := 0) rfl ?_
      refine a_istore (pc := 59) hC dL_areRoomsRight_59 (Nat.le_of_ble_eq_true rfl) ?_
      refine AW.widen (k2 := 6) (n2 := 36) (by decide) (by decide) ?_
      obtain ⟨N, hM9, h⟩ := h
      refine (AW.widen (by omega) (by omega) ((tLL_areRoomsRight_61 hX hN P hR hC hE _ (fun y103 y104 y105 q106 h => ?_) N _ _ _ _ _ hM9 h).forget ⟨rfl, rfl, rfl, rfl, rfl, rfl, trivial⟩))
      refine a_iconst (pc := 320) hC dL_areRoomsRight_320 (v := 0) rfl ?_
      refine a_istore (pc := 321) hC dL_areRoomsRight_321 (Nat.le_of_ble_eq_true rfl) ?_
      obtain ⟨N, h⟩ := h
      refine (tLL_areRoomsRight_323 hX hN P hR hC hE _ _ _ (fun y107 q108 h => ?_) N _ _ _ h).forget ⟨rfl, rfl, rfl, rfl, rfl, rfl, trivial⟩
      refine a_iload (pc := 428) hC dL_areRoomsRight_428 rfl ?_
      refine a_if_eq (pc := 430) (tgt := 473) hC dL_areRoomsRight_430 (by decide) (fun c => ?_) (fun c => ?_)
      · replace h := h.1 c
        refine a_iconst (pc := 473) hC dL_areRoomsRight_473 (v := 0) rfl ?_
        exact a_bret (pc := 474) hC hE (Or.inl rfl) h (Nat.le_of_ble_eq_true rfl) (Nat.le_of_ble_eq_true rfl) dL_areRoomsRight_474
      · replace h := h.2 c
        refine a_aload_n (pc := 433) hC dL_areRoomsRight_433 rfl ?_
        refine a_iconst (pc := 434) hC dL_areRoomsRight_434 (v := 5) rfl ?_
        refine a_callV (pc := 435) hC hR vm_X9_account tw_327 cl_X9 (oX_0 hX) ⟨(Nat.le_of_ble_eq_true rfl), (Nat.le_of_ble_eq_true rfl), (Nat.le_of_ble_eq_true rfl), (Nat.le_of_ble_eq_true rfl)⟩ dL_areRoomsRight_435 (t_X9_account0 hX hC.tr _ _ _ h) rfl rfl rfl (Nat.le_of_ble_eq_true rfl) (fun r109 q110 h => ?_)
        refine a_iload_n (pc := 438) hC dL_areRoomsRight_438 rfl ?_
        refine a_icmp_ne (pc := 439) (tgt := 473) hC dL_areRoomsRight_439 (by decide) (fun c => ?_) (fun c => ?_)
        · replace h := h.1 c
          refine a_iconst (pc := 473) hC dL_areRoomsRight_473 (v := 0) rfl ?_
          exact a_bret (pc := 474) hC hE (Or.inl rfl) h (Nat.le_of_ble_eq_true rfl) (Nat.le_of_ble_eq_true rfl) dL_areRoomsRight_474
        · replace h := h.2 c
          refine a_aload_n (pc := 442) hC dL_areRoomsRight_442 rfl ?_
          refine a_bipush (pc := 443) hC dL_areRoomsRight_443 (v := 6) rfl ?_
          refine a_callV (pc := 445) hC hR vm_X9_account tw_327 cl_X9 (oX_0 hX) ⟨(Nat.le_of_ble_eq_true rfl), (Nat.le_of_ble_eq_true rfl), (Nat.le_of_ble_eq_true rfl), (Nat.le_of_ble_eq_true rfl)⟩ dL_areRoomsRight_445 (t_X9_account0 hX hC.tr _ _ _ h) rfl rfl rfl (Nat.le_of_ble_eq_true rfl) (fun r111 q112 h => ?_)
          refine a_iload_n (pc := 448) hC dL_areRoomsRight_448 rfl ?_
          refine a_icmp_ne (pc := 449) (tgt := 473) hC dL_areRoomsRight_449 (by decide) (fun c => ?_) (fun c => ?_)
          · replace h := h.1 c
            refine a_iconst (pc := 473) hC dL_areRoomsRight_473 (v := 0) rfl ?_
            exact a_bret (pc := 474) hC hE (Or.inl rfl) h (Nat.le_of_ble_eq_true rfl) (Nat.le_of_ble_eq_true rfl) dL_areRoomsRight_474
          · replace h := h.2 c
            refine a_iload_n (pc := 452) hC dL_areRoomsRight_452 rfl ?_
            refine a_if_eq (pc := 453) (tgt := 469) hC dL_areRoomsRight_453 (by decide) (fun c => ?_) (fun c => ?_)
            · replace h := h.1 c
              refine a_iconst (pc := 469) hC dL_areRoomsRight_469 (v := 1) rfl ?_
              refine a_goto (pc := 470) (tgt := 474) hC dL_areRoomsRight_470 (by decide) ?_
              exact a_bret (pc := 474) hC hE (Or.inr rfl) h (Nat.le_of_ble_eq_true rfl) (Nat.le_of_ble_eq_true rfl) dL_areRoomsRight_474
            · replace h := h.2 c
              refine a_aload_n (pc := 456) hC dL_areRoomsRight_456 rfl ?_
              refine a_callVd (pc := 457) hC hR vm_X9_meanDamp tw_1057 cl_X9 (oX_0 hX) ⟨(Nat.le_of_ble_eq_true rfl), (Nat.le_of_ble_eq_true rfl), (Nat.le_of_ble_eq_true rfl), (Nat.le_of_ble_eq_true rfl)⟩ dL_areRoomsRight_457 (t_X9_meanDamp0 hX hC.tr _ _ h) rfl rfl rfl (Nat.le_of_ble_eq_true rfl) (fun r113 q114 h => ?_)
              refine a_iload_n (pc := 460) hC dL_areRoomsRight_460 rfl ?_
              refine a_i2d (pc := 461) hC dL_areRoomsRight_461 ?_
              refine a_iload_n (pc := 462) hC dL_areRoomsRight_462 rfl ?_
              refine a_i2d (pc := 463) hC dL_areRoomsRight_463 ?_
              refine a_ddiv (pc := 464) hC dL_areRoomsRight_464 h.1 ?_
              replace h := h.2
              refine a_dcmp (pc := 465) hC dL_areRoomsRight_465 ?_
              refine a_if_ne (pc := 466) (tgt := 473) hC dL_areRoomsRight_466 (by decide) (fun c => ?_) (fun c => ?_)
              · replace h := h.1 c
                refine a_iconst (pc := 473) hC dL_areRoomsRight_473 (v := 0) rfl ?_
                exact a_bret (pc := 474) hC hE (Or.inl rfl) h (Nat.le_of_ble_eq_true rfl) (Nat.le_of_ble_eq_true rfl) dL_areRoomsRight_474
              · replace h := h.2 c
                refine a_iconst (pc := 469) hC dL_areRoomsRight_469 (v := 1) rfl ?_
                refine a_goto (pc := 470) (tgt := 474) hC dL_areRoomsRight_470 (by decide) ?_
                exact a_bret (pc := 474) hC hE (Or.inr rfl) h (Nat.le_of_ble_eq_true rfl) (Nat.le_of_ble_eq_true rfl) dL_areRoomsRight_474
    · replace h := h.2 c
      refine a_aload_n (pc := 38) hC dL_areRoomsRight_38 rfl ?_
      refine a_iconst (pc := 39) hC dL_areRoomsRight_39 (v := 0) rfl ?_
      refine a_iload_n (pc := 40) hC dL_areRoomsRight_40 rfl ?_
      refine a_iconst (pc := 41) hC dL_areRoomsRight_41 (v := 0) rfl ?_
      refine a_callSh (pc := 42) hC hR sm_L_ask tw_430 ⟨(Nat.le_of_ble_eq_true rfl), (Nat.le_of_ble_eq_true rfl), (Nat.le_of_ble_eq_true rfl), (Nat.le_of_ble_eq_true rfl)⟩ dL_areRoomsRight_42 (t_L_ask hX hN hC.tr _ _ _ _ _ h) rfl rfl rfl (Nat.le_of_ble_eq_true rfl) (fun r117 q118 h => ?_)
      refine a_sipush (pc := 45) hC dL_areRoomsRight_45 (v := (-2002)) rfl ?_
      refine a_icmp_ne (pc := 48) (tgt := 55) hC dL_areRoomsRight_48 (by decide) (fun c => ?_) (fun c => ?_)
      · replace h := h.1 c
        refine a_iconst (pc := 55) hC dL_areRoomsRight_55 (v := 0) rfl ?_
        refine a_istore (pc := 56) hC dL_areRoomsRight_56 (Nat.le_of_ble_eq_true rfl) ?_
        refine a_iconst (pc := 58) hC dL_areRoomsRight_58 (v := 0) rfl ?_
        refine a_istore (pc := 59) hC dL_areRoomsRight_59 (Nat.le_of_ble_eq_true rfl) ?_
        obtain ⟨N, hM9, h⟩ := h
        refine (AW.widen (by omega) (by omega) ((tLL_areRoomsRight_61 hX hN P hR hC hE _ (fun y119 y120 y121 q122 h => ?_) N _ _ _ _ _ hM9 h).forget ⟨rfl, rfl, rfl, rfl, rfl, rfl, trivial⟩))
        refine a_iconst (pc := 320) hC dL_areRoomsRight_320 (v := 0) rfl ?_
        refine a_istore (pc := 321) hC dL_areRoomsRight_321 (Nat.le_of_ble_eq_true rfl) ?_
        obtain ⟨N, h⟩ := h
        refine (tLL_areRoomsRight_323 hX hN P hR hC hE _ _ _ (fun y123 q124 h => ?_) N _ _ _ h).forget ⟨rfl, rfl, rfl, rfl, rfl, rfl, trivial⟩
        refine a_iload (pc := 428) hC dL_areRoomsRight_428 rfl ?_
        refine a_if_eq (pc := 430) (tgt := 473) hC dL_areRoomsRight_430 (by decide) (fun c => ?_) (fun c => ?_)
        · replace h := h.1 c
          refine a_iconst (pc := 473) hC dL_areRoomsRight_473 (v := 0) rfl ?_
          exact a_bret (pc := 474) hC hE (Or.inl rfl) h (Nat.le_of_ble_eq_true rfl) (Nat.le_of_ble_eq_true rfl) dL_areRoomsRight_474
        · replace h := h.2 c
          refine a_aload_n (pc := 433) hC dL_areRoomsRight_433 rfl ?_
          refine a_iconst (pc := 434) hC dL_areRoomsRight_434 (v := 5) rfl ?_
          refine a_callV (pc := 435) hC hR vm_X9_account tw_327 cl_X9 (oX_0 hX) ⟨(Nat.le_of_ble_eq_true rfl), (Nat.le_of_ble_eq_true rfl), (Nat.le_of_ble_eq_true rfl), (Nat.le_of_ble_eq_true rfl)⟩ dL_areRoomsRight_435 (t_X9_account0 hX hC.tr _ _ _ h) rfl rfl rfl (Nat.le_of_ble_eq_true rfl) (fun r125 q126 h => ?_)
          refine a_iload_n (pc := 438) hC dL_areRoomsRight_438 rfl ?_
          refine a_icmp_ne (pc := 439) (tgt := 473) hC dL_areRoomsRight_439 (by decide) (fun c => ?_) (fun c => ?_)
          · replace h := h.1 c
            refine a_iconst (pc := 473) hC dL_areRoomsRight_473 (v := 0) rfl ?_
            exact a_bret (pc := 474) hC hE (Or.inl rfl) h (Nat.le_of_ble_eq_true rfl) (Nat.le_of_ble_eq_true rfl) dL_areRoomsRight_474
          · replace h := h.2 c
            refine a_aload_n (pc := 442) hC dL_areRoomsRight_442 rfl ?_
            refine a_bipush (pc := 443) hC dL_areRoomsRight_443 (v := 6) rfl ?_
            refine a_callV (pc := 445) hC hR vm_X9_account tw_327 cl_X9 (oX_0 hX) ⟨(Nat.le_of_ble_eq_true rfl), (Nat.le_of_ble_eq_true rfl), (Nat.le_of_ble_eq_true rfl), (Nat.le_of_ble_eq_true rfl)⟩ dL_areRoomsRight_445 (t_X9_account0 hX hC.tr _ _ _ h) rfl rfl rfl (Nat.le_of_ble_eq_true rfl) (fun r127 q128 h => ?_)
            refine a_iload_n (pc := 448) hC dL_areRoomsRight_448 rfl ?_
            refine a_icmp_ne (pc := 449) (tgt := 473) hC dL_areRoomsRight_449 (by decide) (fun c => ?_) (fun c => ?_)
            · replace h := h.1 c
              refine a_iconst (pc := 473) hC dL_areRoomsRight_473 (v := 0) rfl ?_
              exact a_bret (pc := 474) hC hE (Or.inl rfl) h (Nat.le_of_ble_eq_true rfl) (Nat.le_of_ble_eq_true rfl) dL_areRoomsRight_474
            · replace h := h.2 c
              refine a_iload_n (pc := 452) hC dL_areRoomsRight_452 rfl ?_
              refine a_if_eq (pc := 453) (tgt := 469) hC dL_areRoomsRight_453 (by decide) (fun c => ?_) (fun c => ?_)
              · replace h := h.1 c
                refine a_iconst (pc := 469) hC dL_areRoomsRight_469 (v := 1) rfl ?_
                refine a_goto (pc := 470) (tgt := 474) hC dL_areRoomsRight_470 (by decide) ?_
                exact a_bret (pc := 474) hC hE (Or.inr rfl) h (Nat.le_of_ble_eq_true rfl) (Nat.le_of_ble_eq_true rfl) dL_areRoomsRight_474
              · replace h := h.2 c
                refine a_aload_n (pc := 456) hC dL_areRoomsRight_456 rfl ?_
                refine a_callVd (pc := 457) hC hR vm_X9_meanDamp tw_1057 cl_X9 (oX_0 hX) ⟨(Nat.le_of_ble_eq_true rfl), (Nat.le_of_ble_eq_true rfl), (Nat.le_of_ble_eq_true rfl), (Nat.le_of_ble_eq_true rfl)⟩ dL_areRoomsRight_457 (t_X9_meanDamp0 hX hC.tr _ _ h) rfl rfl rfl (Nat.le_of_ble_eq_true rfl) (fun r129 q130 h => ?_)
                refine a_iload_n (pc := 460) hC dL_areRoomsRight_460 rfl ?_
                refine a_i2d (pc := 461) hC dL_areRoomsRight_461 ?_
                refine a_iload_n (pc := 462) hC dL_areRoomsRight_462 rfl ?_
                refine a_i2d (pc := 463) hC dL_areRoomsRight_463 ?_
                refine a_ddiv (pc := 464) hC dL_areRoomsRight_464 h.1 ?_
                replace h := h.2
                refine a_dcmp (pc := 465) hC dL_areRoomsRight_465 ?_
                refine a_if_ne (pc := 466) (tgt := 473) hC dL_areRoomsRight_466 (by decide) (fun c => ?_) (fun c => ?_)
                · replace h := h.1 c
                  refine a_iconst (pc := 473) hC dL_areRoomsRight_473 (v := 0) rfl ?_
                  exact a_bret (pc := 474) hC hE (Or.inl rfl) h (Nat.le_of_ble_eq_true rfl) (Nat.le_of_ble_eq_true rfl) dL_areRoomsRight_474
                · replace h := h.2 c
                  refine a_iconst (pc := 469) hC dL_areRoomsRight_469 (v := 1) rfl ?_
                  refine a_goto (pc := 470) (tgt := 474) hC dL_areRoomsRight_470 (by decide) ?_
                  exact a_bret (pc := 474) hC hE (Or.inr rfl) h (Nat.le_of_ble_eq_true rfl) (Nat.le_of_ble_eq_true rfl) dL_areRoomsRight_474
      · replace h := h.2 c
        refine a_iconst (pc := 51) hC dL_areRoomsRight_51 (v := 1) rfl ?_
        refine a_goto (pc := 52) (tgt := 56) hC dL_areRoomsRight_52 (by decide) ?_
        refine a_istore (pc := 56) hC dL_areRoomsRight_56 (Nat.le_of_ble_eq_true rfl) ?_
        refine a_iconst (pc := 58) hC dL_areRoomsRight_58 (v := 0) rfl ?_
        refine a_istore (pc := 59) hC dL_areRoomsRight_59 (Nat.le_of_ble_eq_true rfl) ?_
        obtain ⟨N, hM9, h⟩ := h
        refine (AW.widen (by omega) (by omega) ((tLL_areRoomsRight_61 hX hN P hR hC hE _ (fun y133 y134 y135 q136 h => ?_) N _ _ _ _ _ hM9 h).forget ⟨rfl, rfl, rfl, rfl, rfl, rfl, trivial⟩))
        refine a_iconst (pc := 320) hC dL_areRoomsRight_320 (v := 0) rfl ?_
        refine a_istore (pc := 321) hC dL_areRoomsRight_321 (Nat.le_of_ble_eq_true rfl) ?_
        obtain ⟨N, h⟩ := h
        refine (tLL_areRoomsRight_323 hX hN P hR hC hE _ _ _ (fun y137 q138 h => ?_) N _ _ _ h).forget ⟨rfl, rfl, rfl, rfl, rfl, rfl, trivial⟩
        refine a_iload (pc := 428) hC dL_areRoomsRight_428 rfl ?_
        refine a_if_eq (pc := 430) (tgt := 473) hC dL_areRoomsRight_430 (by decide) (fun c => ?_) (fun c => ?_)
        · replace h := h.1 c
          refine a_iconst (pc := 473) hC dL_areRoomsRight_473 (v := 0) rfl ?_
          exact a_bret (pc := 474) hC hE (Or.inl rfl) h (Nat.le_of_ble_eq_true rfl) (Nat.le_of_ble_eq_true rfl) dL_areRoomsRight_474
        · replace h := h.2 c
          refine a_aload_n (pc := 433) hC dL_areRoomsRight_433 rfl ?_
          refine a_iconst (pc := 434) hC dL_areRoomsRight_434 (v := 5) rfl ?_
          refine a_callV (pc := 435) hC hR vm_X9_account tw_327 cl_X9 (oX_0 hX) ⟨(Nat.le_of_ble_eq_true rfl), (Nat.le_of_ble_eq_true rfl), (Nat.le_of_ble_eq_true rfl), (Nat.le_of_ble_eq_true rfl)⟩ dL_areRoomsRight_435 (t_X9_account0 hX hC.tr _ _ _ h) rfl rfl rfl (Nat.le_of_ble_eq_true rfl) (fun r139 q140 h => ?_)
          refine a_iload_n (pc := 438) hC dL_areRoomsRight_438 rfl ?_
          refine a_icmp_ne (pc := 439) (tgt := 473) hC dL_areRoomsRight_439 (by decide) (fun c => ?_) (fun c => ?_)
          · replace h := h.1 c
            refine a_iconst (pc := 473) hC dL_areRoomsRight_473 (v := 0) rfl ?_
            exact a_bret (pc := 474) hC hE (Or.inl rfl) h (Nat.le_of_ble_eq_true rfl) (Nat.le_of_ble_eq_true rfl) dL_areRoomsRight_474
          · replace h := h.2 c
            refine a_aload_n (pc := 442) hC dL_areRoomsRight_442 rfl ?_
            refine a_bipush (pc := 443) hC dL_areRoomsRight_443 (v := 6) rfl ?_
            refine a_callV (pc := 445) hC hR vm_X9_account tw_327 cl_X9 (oX_0 hX) ⟨(Nat.le_of_ble_eq_true rfl), (Nat.le_of_ble_eq_true rfl), (Nat.le_of_ble_eq_true rfl), (Nat.le_of_ble_eq_true rfl)⟩ dL_areRoomsRight_445 (t_X9_account0 hX hC.tr _ _ _ h) rfl rfl rfl (Nat.le_of_ble_eq_true rfl) (fun r141 q142 h => ?_)
            refine a_iload_n (pc := 448) hC dL_areRoomsRight_448 rfl ?_
            refine a_icmp_ne (pc := 449) (tgt := 473) hC dL_areRoomsRight_449 (by decide) (fun c => ?_) (fun c => ?_)
            · replace h := h.1 c
              refine a_iconst (pc := 473) hC dL_areRoomsRight_473 (v := 0) rfl ?_
              exact a_bret (pc := 474) hC hE (Or.inl rfl) h (Nat.le_of_ble_eq_true rfl) (Nat.le_of_ble_eq_true rfl) dL_areRoomsRight_474
            · replace h := h.2 c
              refine a_iload_n (pc := 452) hC dL_areRoomsRight_452 rfl ?_
              refine a_if_eq (pc := 453) (tgt := 469) hC dL_areRoomsRight_453 (by decide) (fun c => ?_) (fun c => ?_)
              · replace h := h.1 c
                refine a_iconst (pc := 469) hC dL_areRoomsRight_469 (v := 1) rfl ?_
                refine a_goto (pc := 470) (tgt := 474) hC dL_areRoomsRight_470 (by decide) ?_
                exact a_bret (pc := 474) hC hE (Or.inr rfl) h (Nat.le_of_ble_eq_true rfl) (Nat.le_of_ble_eq_true rfl) dL_areRoomsRight_474
              · replace h := h.2 c
                refine a_aload_n (pc := 456) hC dL_areRoomsRight_456 rfl ?_
                refine a_callVd (pc := 457) hC hR vm_X9_meanDamp tw_1057 cl_X9 (oX_0 hX) ⟨(Nat.le_of_ble_eq_true rfl), (Nat.le_of_ble_eq_true rfl), (Nat.le_of_ble_eq_true rfl), (Nat.le_of_ble_eq_true rfl)⟩ dL_areRoomsRight_457 (t_X9_meanDamp0 hX hC.tr _ _ h) rfl rfl rfl (Nat.le_of_ble_eq_true rfl) (fun r143 q144 h => ?_)
                refine a_iload_n (pc := 460) hC dL_areRoomsRight_460 rfl ?_
                refine a_i2d (pc := 461) hC dL_areRoomsRight_461 ?_
                refine a_iload_n (pc := 462) hC dL_areRoomsRight_462 rfl ?_
                refine a_i2d (pc := 463) hC dL_areRoomsRight_463 ?_
                refine a_ddiv (pc := 464) hC dL_areRoomsRight_464 h.1 ?_
                replace h := h.2
                refine a_dcmp (pc := 465) hC dL_areRoomsRight_465 ?_
                refine a_if_ne (pc := 466) (tgt := 473) hC dL_areRoomsRight_466 (by decide) (fun c => ?_) (fun c => ?_)
                · replace h := h.1 c
                  refine a_iconst (pc := 473) hC dL_areRoomsRight_473 (v := 0) rfl ?_
                  exact a_bret (pc := 474) hC hE (Or.inl rfl) h (Nat.le_of_ble_eq_true rfl) (Nat.le_of_ble_eq_true rfl) dL_areRoomsRight_474
                · replace h := h.2 c
                  refine a_iconst (pc := 469) hC dL_areRoomsRight_469 (v := 1) rfl ?_
                  refine a_goto (pc := 470) (tgt := 474) hC dL_areRoomsRight_470 (by decide) ?_
                  exact a_bret (pc := 474) hC hE (Or.inr rfl) h (Nat.le_of_ble_eq_true rfl) (Nat.le_of_ble_eq_true rfl) dL_areRoomsRight_474
set_option maxRecDepth 20000 in
theorem tJL_areEchoesRight_168 {f : aF} {g : aG} (hX : isX g) (hN : isNc g) (P : Int32 → aS → Prop) (hR : f_R f = aR 13 40 240) (hC : aOK f g cL_areEchoesRight 12 RL) (hE : aEi f g .boolean (fun r u => (r = 0 ∨ r = 1) ∧ P r u) (fun _ _ => False) 40 240) (k1 n1 : Nat) (hk1 : k1 + 4 ≤ 40) (hn1 : n1 + 24 ≤ 240) (c1 : Int32) (j2 : Int32) (j3 : Int32) (j4 : Int32) (j6 : Int32) (s0 : Int32) (s1 : Int32) (B : Int32 → Int32 → Int32 → Int32 → Int32 → aS → Prop) (K : Int32 → Int32 → Int32 → Int32 → aS → Prop) (hB : ∀ (w2 : Int32) (w3 : Int32) (w4 : Int32) (w5 : Int32) (w6 : Int32) (q : aS), B w2 w3 w4 w5 w6 q → AW f g 50 [some (.ref (gAd g 0)), some (.int c1), some (.int w2), some (.int w3), some (.int w4), some (.int w5), some (.int w6), none, none, none, none, none] [] q (k1 + 4) (n1 + 24)) (hK : ∀ (w2 : Int32) (w3 : Int32) (w4 : Int32) (w5 : Int32) (q : aS), K w2 w3 w4 w5 q → AW f g 198 [some (.ref (gAd g 0)), some (.int c1), some (.int w2), some (.int w3), some (.int w4), some (.int w5), none, none, none, none, none, none] [] q (k1 + 4) (n1 + 24)) (q : aS) (h : JL_areEchoesRight_168 c1 j2 j3 j4 j6 s0 s1 P B K q) : AW f g 168 [some (.ref (gAd g 0)), some (.int c1), some (.int j2), some (.int j3), some (.int j4), none, some (.int j6), none, none, none, none, none] [.int s0, .int s1] q (k1 + 2) (n1 + 12) := by
  unfold JL_areEchoesRight_168 at h
  refine a_icmp_ne (pc := 168) (tgt := 189) hC dL_areEchoesRight_168 (by decide) (fun c => ?_) (fun c => ?_)
  · replace h := h.1 c
    refine a_iconst (pc := 189) hC dL_areEchoesRight_189 (v := 0) rfl ?_
    refine a_istore (pc := 190) hC dL_areEchoesRight_190 (Nat.le_of_ble_eq_true rfl) ?_
    refine a_iinc (pc := 192) hC dL_areEchoesRight_192 rfl (c := 1) rfl ?_
    replace h := h _ rfl
    refine a_goto (pc := 195) (tgt := 50) hC dL_areEchoesRight_195 (by decide) ?_
    exact AW.widen (by omega) (by omega) ((hB _ _ _ _ _ _ h).forget ⟨rfl, rfl, rfl, rfl, rfl, rfl, rfl, trivial⟩)
  · replace h := h.2 c
    refine a_aload_n (pc := 171) hC dL_areEchoesRight_171 rfl ?_
    refine a_iconst (pc := 172) hC dL_areEchoesRight_172 (v := 1) rfl ?_
    refine a_iload (pc := 173) hC dL_areEchoesRight_173 rfl ?_
    refine a_iconst (pc := 175) hC dL_areEchoesRight_175 (v := 5) rfl ?_
    refine a_callSh (pc := 176) hC hR sm_L_ask tw_430 ⟨(Nat.le_of_ble_eq_true rfl), (Nat.le_of_ble_eq_true rfl), (by omega), (by omega)⟩ dL_areEchoesRight_176 (t_L_ask hX hN hC.tr _ _ _ _ _ h) rfl rfl rfl (Nat.le_of_ble_eq_true rfl) (fun r19 q20 h => ?_)
    refine a_sipush (pc := 179) hC dL_areEchoesRight_179 (v := (-2003)) rfl ?_
    refine a_icmp_ne (pc := 182) (tgt := 189) hC dL_areEchoesRight_182 (by decide) (fun c => ?_) (fun c => ?_)
    · replace h := h.1 c
      refine a_iconst (pc := 189) hC dL_areEchoesRight_189 (v := 0) rfl ?_
      refine a_istore (pc := 190) hC dL_areEchoesRight_190 (Nat.le_of_ble_eq_true rfl) ?_
      refine a_iinc (pc := 192) hC dL_areEchoesRight_192 rfl (c := 1) rfl ?_
      replace h := h _ rfl
      refine a_goto (pc := 195) (tgt := 50) hC dL_areEchoesRight_195 (by decide) ?_
      exact AW.widen (by omega) (by omega) ((hB _ _ _ _ _ _ h).forget ⟨rfl, rfl, rfl, rfl, rfl, rfl, rfl, trivial⟩)
    · replace h := h.2 c
      refine a_iconst (pc := 185) hC dL_areEchoesRight_185 (v := 1) rfl ?_
      refine a_goto (pc := 186) (tgt := 190) hC dL_areEchoesRight_186 (by decide) ?_
      refine a_istore (pc := 190) hC dL_areEchoesRight_190 (Nat.le_of_ble_eq_true rfl) ?_
      refine a_iinc (pc := 192) hC dL_areEchoesRight_192 rfl (c := 1) rfl ?_
      replace h := h _ rfl
      refine a_goto (pc := 195) (tgt := 50) hC dL_areEchoesRight_195 (by decide) ?_
      exact AW.widen (by omega) (by omega) ((hB _ _ _ _ _ _ h).forget ⟨rfl, rfl, rfl, rfl, rfl, rfl, rfl, trivial⟩)
set_option maxRecDepth 20000 in
theorem tJL_areEchoesRight_139 {f : aF} {g : aG} (hX : isX g) (hN : isNc g) (P : Int32 → aS → Prop) (hR : f_R f = aR 13 40 240) (hC : aOK f g cL_areEchoesRight 12 RL) (hE : aEi f g .boolean (fun r u => (r = 0 ∨ r = 1) ∧ P r u) (fun _ _ => False) 40 240) (k1 n1 : Nat) (hk1 : k1 + 4 ≤ 40) (hn1 : n1 + 24 ≤ 240) (c1 : Int32) (j2 : Int32) (j3 : Int32) (j4 : Int32) (j6 : Int32) (j7 : Int32) (s0 : Int32) (s1 : Int32) (B : Int32 → Int32 → Int32 → Int32 → Int32 → aS → Prop) (K : Int32 → Int32 → Int32 → Int32 → aS → Prop) (hB : ∀ (w2 : Int32) (w3 : Int32) (w4 : Int32) (w5 : Int32) (w6 : Int32) (q : aS), B w2 w3 w4 w5 w6 q → AW f g 50 [some (.ref (gAd g 0)), some (.int c1), some (.int w2), some (.int w3), some (.int w4), some (.int w5), some (.int w6), none, none, none, none, none] [] q (k1 + 4) (n1 + 24)) (hK : ∀ (w2 : Int32) (w3 : Int32) (w4 : Int32) (w5 : Int32) (q : aS), K w2 w3 w4 w5 q → AW f g 198 [some (.ref (gAd g 0)), some (.int c1), some (.int w2), some (.int w3), some (.int w4), some (.int w5), none, none, none, none, none, none] [] q (k1 + 4) (n1 + 24)) (q : aS) (h : JL_areEchoesRight_139 c1 j2 j3 j4 j6 j7 s0 s1 P B K q) : AW f g 139 [some (.ref (gAd g 0)), some (.int c1), some (.int j2), some (.int j3), some (.int j4), none, some (.int j6), some (.int j7), none, none, none, none] [.int s0, .int s1] q (k1 + 0) (n1 + 0) := by
  unfold JL_areEchoesRight_139 at h
  refine a_icmp_ne (pc := 139) (tgt := 189) hC dL_areEchoesRight_139 (by decide) (fun c => ?_) (fun c => ?_)
  · replace h := h.1 c
    refine a_iconst (pc := 189) hC dL_areEchoesRight_189 (v := 0) rfl ?_
    refine a_istore (pc := 190) hC dL_areEchoesRight_190 (Nat.le_of_ble_eq_true rfl) ?_
    refine a_iinc (pc := 192) hC dL_areEchoesRight_192 rfl (c := 1) rfl ?_
    replace h := h _ rfl
    refine a_goto (pc := 195) (tgt := 50) hC dL_areEchoesRight_195 (by decide) ?_
    exact AW.widen (by omega) (by omega) ((hB _ _ _ _ _ _ h).forget ⟨rfl, rfl, rfl, rfl, rfl, rfl, rfl, trivial⟩)
  · replace h := h.2 c
    refine a_aload_n (pc := 142) hC dL_areEchoesRight_142 rfl ?_
    refine a_bipush (pc := 143) hC dL_areEchoesRight_143 (v := 7) rfl ?_
    refine a_iload (pc := 145) hC dL_areEchoesRight_145 rfl ?_
    refine a_iconst (pc := 147) hC dL_areEchoesRight_147 (v := 0) rfl ?_
    refine a_callSh (pc := 148) hC hR sm_L_ask tw_430 ⟨(Nat.le_of_ble_eq_true rfl), (Nat.le_of_ble_eq_true rfl), (by omega), (by omega)⟩ dL_areEchoesRight_148 (t_L_ask hX hN hC.tr _ _ _ _ _ h) rfl rfl rfl (Nat.le_of_ble_eq_true rfl) (fun r16 q17 h => ?_)
    refine a_iload (pc := 151) hC dL_areEchoesRight_151 rfl ?_
    refine a_if_eq (pc := 153) (tgt := 165) hC dL_areEchoesRight_153 (by decide) (fun c => ?_) (fun c => ?_)
    · replace h := h.1 c
      refine a_sipush (pc := 165) hC dL_areEchoesRight_165 (v := (-2004)) rfl ?_
      exact (tJL_areEchoesRight_168 hX hN P hR hC hE k1 n1 hk1 hn1 _ _ _ _ _ _ _ _ _ hB hK _ h).forget ⟨rfl, rfl, rfl, rfl, rfl, rfl, trivial⟩
    · replace h := h.2 c
      refine a_aload_n (pc := 156) hC dL_areEchoesRight_156 rfl ?_
      refine a_iload (pc := 157) hC dL_areEchoesRight_157 rfl ?_
      refine a_callS (pc := 159) hC hR sm_L_backOf tw_1079 ⟨(Nat.le_of_ble_eq_true rfl), (Nat.le_of_ble_eq_true rfl), (by omega), (by omega)⟩ dL_areEchoesRight_159 (t_L_backOf hX hC.tr _ _ _ h) rfl rfl rfl (Nat.le_of_ble_eq_true rfl) (fun r23 q24 h => ?_)
      refine a_goto (pc := 162) (tgt := 168) hC dL_areEchoesRight_162 (by decide) ?_
      exact (tJL_areEchoesRight_168 hX hN P hR hC hE k1 n1 hk1 hn1 _ _ _ _ _ _ _ _ _ hB hK _ h).forget ⟨rfl, rfl, rfl, rfl, rfl, rfl, trivial⟩
set_option maxRecDepth 20000 in
theorem tJL_areEchoesRight_103 {f : aF} {g : aG} (hX : isX g) (hN : isNc g) (P : Int32 → aS → Prop) (hR : f_R f = aR 13 40 240) (hC : aOK f g cL_areEchoesRight 12 RL) (hE : aEi f g .boolean (fun r u => (r = 0 ∨ r = 1) ∧ P r u) (fun _ _ => False) 40 240) (k1 n1 : Nat) (hk1 : k1 + 4 ≤ 40) (hn1 : n1 + 24 ≤ 240) (c1 : Int32) (j2 : Int32) (j4 : Int32) (j5 : Int32) (j6 : Int32) (j7 : Int32) (s0 : Int32) (s1 : Int32) (B : Int32 → Int32 → Int32 → Int32 → Int32 → aS → Prop) (K : Int32 → Int32 → Int32 → Int32 → aS → Prop) (hB : ∀ (w2 : Int32) (w3 : Int32) (w4 : Int32) (w5 : Int32) (w6 : Int32) (q : aS), B w2 w3 w4 w5 w6 q → AW f g 50 [some (.ref (gAd g 0)), some (.int c1), some (.int w2), some (.int w3), some (.int w4), some (.int w5), some (.int w6), none, none, none, none, none] [] q (k1 + 4) (n1 + 24)) (hK : ∀ (w2 : Int32) (w3 : Int32) (w4 : Int32) (w5 : Int32) (q : aS), K w2 w3 w4 w5 q → AW f g 198 [some (.ref (gAd g 0)), some (.int c1), some (.int w2), some (.int w3), some (.int w4), some (.int w5), none, none, none, none, none, none] [] q (k1 + 4) (n1 + 24)) (q : aS) (h : JL_areEchoesRight_103 c1 j2 j4 j5 j6 j7 s0 s1 P B K q) : AW f g 103 [some (.ref (gAd g 0)), some (.int c1), some (.int j2), none, some (.int j4), some (.int j5), some (.int j6), some (.int j7), none, none, none, none] [.int s0, .int s1] q (k1 + 0) (n1 + 0) := by
  unfold JL_areEchoesRight_103 at h
  refine a_iadd (pc := 103) hC dL_areEchoesRight_103 ?_
  refine a_istore_n (pc := 104) hC dL_areEchoesRight_104 (Nat.le_of_ble_eq_true rfl) ?_
  replace h := h _ rfl
  refine a_iload (pc := 105) hC dL_areEchoesRight_105 rfl ?_
  refine a_aload_n (pc := 107) hC dL_areEchoesRight_107 rfl ?_
  refine a_iload (pc := 108) hC dL_areEchoesRight_108 rfl ?_
  refine a_iconst (pc := 110) hC dL_areEchoesRight_110 (v := 4) rfl ?_
  refine a_callV (pc := 111) hC hR vm_X9_echoOf tw_510 cl_X9 (oX_0 hX) ⟨(Nat.le_of_ble_eq_true rfl), (Nat.le_of_ble_eq_true rfl), (by omega), (by omega)⟩ dL_areEchoesRight_111 (t_X9_echoOf0 hX hC.tr _ _ _ _ h) rfl rfl rfl (Nat.le_of_ble_eq_true rfl) (fun r9 q10 h => ?_)
  refine a_iadd (pc := 114) hC dL_areEchoesRight_114 ?_
  refine a_istore (pc := 115) hC dL_areEchoesRight_115 (Nat.le_of_ble_eq_true rfl) ?_
  replace h := h _ rfl
  refine a_iload (pc := 117) hC dL_areEchoesRight_117 rfl ?_
  refine a_if_eq (pc := 119) (tgt := 189) hC dL_areEchoesRight_119 (by decide) (fun c => ?_) (fun c => ?_)
  · replace h := h.1 c
    refine a_iconst (pc := 189) hC dL_areEchoesRight_189 (v := 0) rfl ?_
    refine a_istore (pc := 190) hC dL_areEchoesRight_190 (Nat.le_of_ble_eq_true rfl) ?_
    refine a_iinc (pc := 192) hC dL_areEchoesRight_192 rfl (c := 1) rfl ?_
    replace h := h _ rfl
    refine a_goto (pc := 195) (tgt := 50) hC dL_areEchoesRight_195 (by decide) ?_
    exact AW.widen (by omega) (by omega) ((hB _ _ _ _ _ _ h).forget ⟨rfl, rfl, rfl, rfl, rfl, rfl, rfl, trivial⟩)
  · replace h := h.2 c
    refine a_iload (pc := 122) hC dL_areEchoesRight_122 rfl ?_
    refine a_aload_n (pc := 124) hC dL_areEchoesRight_124 rfl ?_
    refine a_iload (pc := 125) hC dL_areEchoesRight_125 rfl ?_
    refine a_iconst (pc := 127) hC dL_areEchoesRight_127 (v := 3) rfl ?_
    refine a_callV (pc := 128) hC hR vm_X9_echoOf tw_510 cl_X9 (oX_0 hX) ⟨(Nat.le_of_ble_eq_true rfl), (Nat.le_of_ble_eq_true rfl), (by omega), (by omega)⟩ dL_areEchoesRight_128 (t_X9_echoOf0 hX hC.tr _ _ _ _ h) rfl rfl rfl (Nat.le_of_ble_eq_true rfl) (fun r13 q14 h => ?_)
    refine a_if_le (pc := 131) (tgt := 138) hC dL_areEchoesRight_131 (by decide) (fun c => ?_) (fun c => ?_)
    · replace h := h.1 c
      refine a_iconst (pc := 138) hC dL_areEchoesRight_138 (v := 0) rfl ?_
      exact (tJL_areEchoesRight_139 hX hN P hR hC hE k1 n1 hk1 hn1 _ _ _ _ _ _ _ _ _ _ hB hK _ h).forget ⟨rfl, rfl, rfl, rfl, rfl, rfl, rfl, trivial⟩
    · replace h := h.2 c
      refine a_iconst (pc := 134) hC dL_areEchoesRight_134 (v := 1) rfl ?_
      refine a_goto (pc := 135) (tgt := 139) hC dL_areEchoesRight_135 (by decide) ?_
      exact (tJL_areEchoesRight_139 hX hN P hR hC hE k1 n1 hk1 hn1 _ _ _ _ _ _ _ _ _ _ hB hK _ h).forget ⟨rfl, rfl, rfl, rfl, rfl, rfl, rfl, trivial⟩
set_option maxRecDepth 20000 in
theorem tJL_areEchoesRight_84 {f : aF} {g : aG} (hX : isX g) (hN : isNc g) (P : Int32 → aS → Prop) (hR : f_R f = aR 13 40 240) (hC : aOK f g cL_areEchoesRight 12 RL) (hE : aEi f g .boolean (fun r u => (r = 0 ∨ r = 1) ∧ P r u) (fun _ _ => False) 40 240) (k1 n1 : Nat) (hk1 : k1 + 4 ≤ 40) (hn1 : n1 + 24 ≤ 240) (c1 : Int32) (j3 : Int32) (j4 : Int32) (j5 : Int32) (j6 : Int32) (j7 : Int32) (s0 : Int32) (s1 : Int32) (B : Int32 → Int32 → Int32 → Int32 → Int32 → aS → Prop) (K : Int32 → Int32 → Int32 → Int32 → aS → Prop) (hB : ∀ (w2 : Int32) (w3 : Int32) (w4 : Int32) (w5 : Int32) (w6 : Int32) (q : aS), B w2 w3 w4 w5 w6 q → AW f g 50 [some (.ref (gAd g 0)), some (.int c1), some (.int w2), some (.int w3), some (.int w4), some (.int w5), some (.int w6), none, none, none, none, none] [] q (k1 + 4) (n1 + 24)) (hK : ∀ (w2 : Int32) (w3 : Int32) (w4 : Int32) (w5 : Int32) (q : aS), K w2 w3 w4 w5 q → AW f g 198 [some (.ref (gAd g 0)), some (.int c1), some (.int w2), some (.int w3), some (.int w4), some (.int w5), none, none, none, none, none, none] [] q (k1 + 4) (n1 + 24)) (q : aS) (h : JL_areEchoesRight_84 c1 j3 j4 j5 j6 j7 s0 s1 P B K q) : AW f g 84 [some (.ref (gAd g 0)), some (.int c1), none, some (.int j3), some (.int j4), some (.int j5), some (.int j6), some (.int j7), none, none, none, none] [.int s0, .int s1] q (k1 + 0) (n1 + 0) := by
  unfold JL_areEchoesRight_84 at h
  refine a_iadd (pc := 84) hC dL_areEchoesRight_84 ?_
  refine a_istore_n (pc := 85) hC dL_areEchoesRight_85 (Nat.le_of_ble_eq_true rfl) ?_
  replace h := h _ rfl
  refine a_iload_n (pc := 86) hC dL_areEchoesRight_86 rfl ?_
  refine a_iload (pc := 87) hC dL_areEchoesRight_87 rfl ?_
  refine a_if_eq (pc := 89) (tgt := 102) hC dL_areEchoesRight_89 (by decide) (fun c => ?_) (fun c => ?_)
  · replace h := h.1 c
    refine a_iconst (pc := 102) hC dL_areEchoesRight_102 (v := 0) rfl ?_
    exact (tJL_areEchoesRight_103 hX hN P hR hC hE k1 n1 hk1 hn1 _ _ _ _ _ _ _ _ _ _ hB hK _ h).forget ⟨rfl, rfl, rfl, rfl, rfl, rfl, rfl, trivial⟩
  · replace h := h.2 c
    refine a_aload_n (pc := 92) hC dL_areEchoesRight_92 rfl ?_
    refine a_iload (pc := 93) hC dL_areEchoesRight_93 rfl ?_
    refine a_iconst (pc := 95) hC dL_areEchoesRight_95 (v := 1) rfl ?_
    refine a_callV (pc := 96) hC hR vm_X9_echoOf tw_510 cl_X9 (oX_0 hX) ⟨(Nat.le_of_ble_eq_true rfl), (Nat.le_of_ble_eq_true rfl), (by omega), (by omega)⟩ dL_areEchoesRight_96 (t_X9_echoOf0 hX hC.tr _ _ _ _ h) rfl rfl rfl (Nat.le_of_ble_eq_true rfl) (fun r25 q26 h => ?_)
    refine a_goto (pc := 99) (tgt := 103) hC dL_areEchoesRight_99 (by decide) ?_
    exact (tJL_areEchoesRight_103 hX hN P hR hC hE k1 n1 hk1 hn1 _ _ _ _ _ _ _ _ _ _ hB hK _ h).forget ⟨rfl, rfl, rfl, rfl, rfl, rfl, rfl, trivial⟩
set_option maxRecDepth 20000 in
theorem tJL_areEchoesRight_71 {f : aF} {g : aG} (hX : isX g) (hN : isNc g) (P : Int32 → aS → Prop) (hR : f_R f = aR 13 40 240) (hC : aOK f g cL_areEchoesRight 12 RL) (hE : aEi f g .boolean (fun r u => (r = 0 ∨ r = 1) ∧ P r u) (fun _ _ => False) 40 240) (k1 n1 : Nat) (hk1 : k1 + 4 ≤ 40) (hn1 : n1 + 24 ≤ 240) (c1 : Int32) (j2 : Int32) (j3 : Int32) (j4 : Int32) (j5 : Int32) (j6 : Int32) (s0 : Int32) (B : Int32 → Int32 → Int32 → Int32 → Int32 → aS → Prop) (K : Int32 → Int32 → Int32 → Int32 → aS → Prop) (hB : ∀ (w2 : Int32) (w3 : Int32) (w4 : Int32) (w5 : Int32) (w6 : Int32) (q : aS), B w2 w3 w4 w5 w6 q → AW f g 50 [some (.ref (gAd g 0)), some (.int c1), some (.int w2), some (.int w3), some (.int w4), some (.int w5), some (.int w6), none, none, none, none, none] [] q (k1 + 4) (n1 + 24)) (hK : ∀ (w2 : Int32) (w3 : Int32) (w4 : Int32) (w5 : Int32) (q : aS), K w2 w3 w4 w5 q → AW f g 198 [some (.ref (gAd g 0)), some (.int c1), some (.int w2), some (.int w3), some (.int w4), some (.int w5), none, none, none, none, none, none] [] q (k1 + 4) (n1 + 24)) (q : aS) (h : JL_areEchoesRight_71 c1 j2 j3 j4 j5 j6 s0 P B K q) : AW f g 71 [some (.ref (gAd g 0)), some (.int c1), some (.int j2), some (.int j3), some (.int j4), some (.int j5), some (.int j6), none, none, none, none, none] [.int s0] q (k1 + 0) (n1 + 0) := by
  unfold JL_areEchoesRight_71 at h
  refine a_istore (pc := 71) hC dL_areEchoesRight_71 (Nat.le_of_ble_eq_true rfl) ?_
  refine a_iload_n (pc := 73) hC dL_areEchoesRight_73 rfl ?_
  refine a_iload (pc := 74) hC dL_areEchoesRight_74 rfl ?_
  refine a_if_eq (pc := 76) (tgt := 83) hC dL_areEchoesRight_76 (by decide) (fun c => ?_) (fun c => ?_)
  · replace h := h.1 c
    refine a_iconst (pc := 83) hC dL_areEchoesRight_83 (v := 0) rfl ?_
    exact (tJL_areEchoesRight_84 hX hN P hR hC hE k1 n1 hk1 hn1 _ _ _ _ _ _ _ _ _ _ hB hK _ h).forget ⟨rfl, rfl, rfl, rfl, rfl, rfl, rfl, trivial⟩
  · replace h := h.2 c
    refine a_iconst (pc := 79) hC dL_areEchoesRight_79 (v := 1) rfl ?_
    refine a_goto (pc := 80) (tgt := 84) hC dL_areEchoesRight_80 (by decide) ?_
    exact (tJL_areEchoesRight_84 hX hN P hR hC hE k1 n1 hk1 hn1 _ _ _ _ _ _ _ _ _ _ hB hK _ h).forget ⟨rfl, rfl, rfl, rfl, rfl, rfl, rfl, trivial⟩
set_option maxRecDepth 20000 in
theorem tLL_areEchoesRight_50 {f : aF} {g : aG} (hX : isX g) (hN : isNc g) (P : Int32 → aS → Prop) (hR : f_R f = aR 13 40 240) (hC : aOK f g cL_areEchoesRight 12 RL) (hE : aEi f g .boolean (fun r u => (r = 0 ∨ r = 1) ∧ P r u) (fun _ _ => False) 40 240) (c1 : Int32) {K : Int32 → Int32 → Int32 → Int32 → aS → Prop} (hK : ∀ (w2 : Int32) (w3 : Int32) (w4 : Int32) (w5 : Int32) (q : aS), K w2 w3 w4 w5 q → AW f g 198 [some (.ref (gAd g 0)), some (.int c1), some (.int w2), some (.int w3), some (.int w4), some (.int w5), none, none, none, none, none, none] [] q 40 240) : ∀ (N : Nat) (v2 : Int32) (v3 : Int32) (v4 : Int32) (v5 : Int32) (v6 : Int32) (q : aS), N ≤ 9 → LL_areEchoesRight_50 c1 P K N v2 v3 v4 v5 v6 q → AW f g 50 [some (.ref (gAd g 0)), some (.int c1), some (.int v2), some (.int v3), some (.int v4), some (.int v5), some (.int v6), none, none, none, none, none] [] q (4 + (9 - N) * 4) (24 + (9 - N) * 24) := by
  intro N
  induction N with
  | zero =>
    intro v2 v3 v4 v5 v6 q _ h
    exact h.elim
  | succ N ih =>
    intro v2 v3 v4 v5 v6 q hM9 h
    unfold LL_areEchoesRight_50 at h
    obtain ⟨k1, ek1⟩ : ∃ x, x = 4 + (9 - (N + 1)) * 4 := ⟨_, rfl⟩
    obtain ⟨n1, en1⟩ : ∃ x, x = 24 + (9 - (N + 1)) * 24 := ⟨_, rfl⟩
    rw [← ek1, ← en1]
    have hk1 : k1 + 4 ≤ 40 := by omega
    have hn1 : n1 + 24 ≤ 240 := by omega
    have hB : ∀ (w2 : Int32) (w3 : Int32) (w4 : Int32) (w5 : Int32) (w6 : Int32) (q : aS), LL_areEchoesRight_50 c1 P K N w2 w3 w4 w5 w6 q → AW f g 50 [some (.ref (gAd g 0)), some (.int c1), some (.int w2), some (.int w3), some (.int w4), some (.int w5), some (.int w6), none, none, none, none, none] [] q (k1 + 4) (n1 + 24) := fun w2 w3 w4 w5 w6 q h => (ih w2 w3 w4 w5 w6 q (by omega) h).widen (by omega) (by omega)
    have hK2 : ∀ (w2 : Int32) (w3 : Int32) (w4 : Int32) (w5 : Int32) (q : aS), K w2 w3 w4 w5 q → AW f g 198 [some (.ref (gAd g 0)), some (.int c1), some (.int w2), some (.int w3), some (.int w4), some (.int w5), none, none, none, none, none, none] [] q (k1 + 4) (n1 + 24) := fun w2 w3 w4 w5 q h => (hK w2 w3 w4 w5 q h).widen (by omega) (by omega)
    clear hM9 ek1 en1 ih
    refine a_iload (pc := 50) hC dL_areEchoesRight_50 rfl ?_
    refine a_iload_n (pc := 52) hC dL_areEchoesRight_52 rfl ?_
    refine a_icmp_ge (pc := 53) (tgt := 198) hC dL_areEchoesRight_53 (by decide) (fun c => ?_) (fun c => ?_)
    · replace h := h.1 c
      exact AW.widen (by omega) (by omega) ((hK2 _ _ _ _ _ h).forget ⟨rfl, rfl, rfl, rfl, rfl, rfl, trivial⟩)
    · replace h := h.2 c
      refine a_aload_n (pc := 56) hC dL_areEchoesRight_56 rfl ?_
      refine a_iload (pc := 57) hC dL_areEchoesRight_57 rfl ?_
      refine a_iconst (pc := 59) hC dL_areEchoesRight_59 (v := 2) rfl ?_
      refine a_callV (pc := 60) hC hR vm_X9_echoOf tw_510 cl_X9 (oX_0 hX) ⟨(Nat.le_of_ble_eq_true rfl), (Nat.le_of_ble_eq_true rfl), (by omega), (by omega)⟩ dL_areEchoesRight_60 (t_X9_echoOf0 hX hC.tr _ _ _ _ h) rfl rfl rfl (Nat.le_of_ble_eq_true rfl) (fun r5 q6 h => ?_)
      refine a_if_lt (pc := 63) (tgt := 70) hC dL_areEchoesRight_63 (by decide) (fun c => ?_) (fun c => ?_)
      · replace h := h.1 c
        refine a_iconst (pc := 70) hC dL_areEchoesRight_70 (v := 0) rfl ?_
        exact (tJL_areEchoesRight_71 hX hN P hR hC hE k1 n1 hk1 hn1 _ _ _ _ _ _ _ _ _ hB hK2 _ h).forget ⟨rfl, rfl, rfl, rfl, rfl, rfl, rfl, trivial⟩
      · replace h := h.2 c
        refine a_iconst (pc := 66) hC dL_areEchoesRight_66 (v := 1) rfl ?_
        refine a_goto (pc := 67) (tgt := 71) hC dL_areEchoesRight_67 (by decide) ?_
        exact (tJL_areEchoesRight_71 hX hN P hR hC hE k1 n1 hk1 hn1 _ _ _ _ _ _ _ _ _ hB hK2 _ h).forget ⟨rfl, rfl, rfl, rfl, rfl, rfl, rfl, trivial⟩
set_option maxRecDepth 20000 in
theorem tJL_areEchoesRight_303 {f : aF} {g : aG} (hX : isX g) (hN : isNc g) (P : Int32 → aS → Prop) (hR : f_R f = aR 13 40 240) (hC : aOK f g cL_areEchoesRight 12 RL) (hE : aEi f g .boolean (fun r u => (r = 0 ∨ r = 1) ∧ P r u) (fun _ _ => False) 40 240) (c1 : Int32) (c2 : Int32) (c3 : Int32) (c4 : Int32) (j6 : Int32) (j7 : Int32) (j8 : Int32) (j10 : Int32) (j11 : Int32) (B : Int32 → Int32 → aS → Prop) (K : Int32 → aS → Prop) (hB : ∀ (w5 : Int32) (w6 : Int32) (q : aS), B w5 w6 q → AW f g 201 [some (.ref (gAd g 0)), some (.int c1), some (.int c2), some (.int c3), some (.int c4), some (.int w5), some (.int w6), none, none, none, none, none] [] q 40 240) (hK : ∀ (w5 : Int32) (q : aS), K w5 q → AW f g 330 [some (.ref (gAd g 0)), some (.int c1), some (.int c2), some (.int c3), some (.int c4), some (.int w5), none, none, none, none, none, none] [] q 40 240) (q : aS) (h : JL_areEchoesRight_303 c1 c2 c3 c4 j6 j7 j8 j10 j11 P B K q) : AW f g 303 [some (.ref (gAd g 0)), some (.int c1), some (.int c2), some (.int c3), some (.int c4), none, some (.int j6), some (.int j7), some (.int j8), none, some (.int j10), some (.int j11)] [] q 40 240 := by
  unfold JL_areEchoesRight_303 at h
  refine a_iload (pc := 303) hC dL_areEchoesRight_303 rfl ?_
  refine a_iload (pc := 305) hC dL_areEchoesRight_305 rfl ?_
  refine a_icmp_ne (pc := 307) (tgt := 321) hC dL_areEchoesRight_307 (by decide) (fun c => ?_) (fun c => ?_)
  · replace h := h.1 c
    refine a_iconst (pc := 321) hC dL_areEchoesRight_321 (v := 0) rfl ?_
    refine a_istore (pc := 322) hC dL_areEchoesRight_322 (Nat.le_of_ble_eq_true rfl) ?_
    refine a_iinc (pc := 324) hC dL_areEchoesRight_324 rfl (c := 1) rfl ?_
    replace h := h _ rfl
    refine a_goto (pc := 327) (tgt := 201) hC dL_areEchoesRight_327 (by decide) ?_
    exact ((hB _ _ _ h).forget ⟨rfl, rfl, rfl, rfl, rfl, rfl, rfl, trivial⟩)
  · replace h := h.2 c
    refine a_iload (pc := 310) hC dL_areEchoesRight_310 rfl ?_
    refine a_iload (pc := 312) hC dL_areEchoesRight_312 rfl ?_
    refine a_icmp_ge (pc := 314) (tgt := 321) hC dL_areEchoesRight_314 (by decide) (fun c => ?_) (fun c => ?_)
    · replace h := h.1 c
      refine a_iconst (pc := 321) hC dL_areEchoesRight_321 (v := 0) rfl ?_
      refine a_istore (pc := 322) hC dL_areEchoesRight_322 (Nat.le_of_ble_eq_true rfl) ?_
      refine a_iinc (pc := 324) hC dL_areEchoesRight_324 rfl (c := 1) rfl ?_
      replace h := h _ rfl
      refine a_goto (pc := 327) (tgt := 201) hC dL_areEchoesRight_327 (by decide) ?_
      exact ((hB _ _ _ h).forget ⟨rfl, rfl, rfl, rfl, rfl, rfl, rfl, trivial⟩)
    · replace h := h.2 c
      refine a_iconst (pc := 317) hC dL_areEchoesRight_317 (v := 1) rfl ?_
      refine a_goto (pc := 318) (tgt := 322) hC dL_areEchoesRight_318 (by decide) ?_
      refine a_istore (pc := 322) hC dL_areEchoesRight_322 (Nat.le_of_ble_eq_true rfl) ?_
      refine a_iinc (pc := 324) hC dL_areEchoesRight_324 rfl (c := 1) rfl ?_
      replace h := h _ rfl
      refine a_goto (pc := 327) (tgt := 201) hC dL_areEchoesRight_327 (by decide) ?_
      exact ((hB _ _ _ h).forget ⟨rfl, rfl, rfl, rfl, rfl, rfl, rfl, trivial⟩)
set_option maxRecDepth 20000 in
theorem tJL_areEchoesRight_276 {f : aF} {g : aG} (hX : isX g) (hN : isNc g) (P : Int32 → aS → Prop) (hR : f_R f = aR 13 40 240) (hC : aOK f g cL_areEchoesRight 12 RL) (hE : aEi f g .boolean (fun r u => (r = 0 ∨ r = 1) ∧ P r u) (fun _ _ => False) 40 240) (c1 : Int32) (c2 : Int32) (c3 : Int32) (c4 : Int32) (j5 : Int32) (j6 : Int32) (j7 : Int32) (j8 : Int32) (j9 : Int32) (j10 : Int32) (s0 : Int32) (B : Int32 → Int32 → aS → Prop) (K : Int32 → aS → Prop) (hB : ∀ (w5 : Int32) (w6 : Int32) (q : aS), B w5 w6 q → AW f g 201 [some (.ref (gAd g 0)), some (.int c1), some (.int c2), some (.int c3), some (.int c4), some (.int w5), some (.int w6), none, none, none, none, none] [] q 40 240) (hK : ∀ (w5 : Int32) (q : aS), K w5 q → AW f g 330 [some (.ref (gAd g 0)), some (.int c1), some (.int c2), some (.int c3), some (.int c4), some (.int w5), none, none, none, none, none, none] [] q 40 240) (q : aS) (h : JL_areEchoesRight_276 c1 c2 c3 c4 j5 j6 j7 j8 j9 j10 s0 P B K q) : AW f g 276 [some (.ref (gAd g 0)), some (.int c1), some (.int c2), some (.int c3), some (.int c4), some (.int j5), some (.int j6), some (.int j7), some (.int j8), some (.int j9), some (.int j10), none] [.int s0] q 40 240 := by
  unfold JL_areEchoesRight_276 at h
  refine a_istore (pc := 276) hC dL_areEchoesRight_276 (Nat.le_of_ble_eq_true rfl) ?_
  refine a_iload (pc := 278) hC dL_areEchoesRight_278 rfl ?_
  refine a_if_eq (pc := 280) (tgt := 321) hC dL_areEchoesRight_280 (by decide) (fun c => ?_) (fun c => ?_)
  · replace h := h.1 c
    refine a_iconst (pc := 321) hC dL_areEchoesRight_321 (v := 0) rfl ?_
    refine a_istore (pc := 322) hC dL_areEchoesRight_322 (Nat.le_of_ble_eq_true rfl) ?_
    refine a_iinc (pc := 324) hC dL_areEchoesRight_324 rfl (c := 1) rfl ?_
    replace h := h _ rfl
    refine a_goto (pc := 327) (tgt := 201) hC dL_areEchoesRight_327 (by decide) ?_
    exact ((hB _ _ _ h).forget ⟨rfl, rfl, rfl, rfl, rfl, rfl, rfl, trivial⟩)
  · replace h := h.2 c
    refine a_iload (pc := 283) hC dL_areEchoesRight_283 rfl ?_
    refine a_if_gt (pc := 285) (tgt := 317) hC dL_areEchoesRight_285 (by decide) (fun c => ?_) (fun c => ?_)
    · replace h := h.1 c
      refine a_iconst (pc := 317) hC dL_areEchoesRight_317 (v := 1) rfl ?_
      refine a_goto (pc := 318) (tgt := 322) hC dL_areEchoesRight_318 (by decide) ?_
      refine a_istore (pc := 322) hC dL_areEchoesRight_322 (Nat.le_of_ble_eq_true rfl) ?_
      refine a_iinc (pc := 324) hC dL_areEchoesRight_324 rfl (c := 1) rfl ?_
      replace h := h _ rfl
      refine a_goto (pc := 327) (tgt := 201) hC dL_areEchoesRight_327 (by decide) ?_
      exact ((hB _ _ _ h).forget ⟨rfl, rfl, rfl, rfl, rfl, rfl, rfl, trivial⟩)
    · replace h := h.2 c
      refine a_iload (pc := 288) hC dL_areEchoesRight_288 rfl ?_
      refine a_if_ne (pc := 290) (tgt := 321) hC dL_areEchoesRight_290 (by decide) (fun c => ?_) (fun c => ?_)
      · replace h := h.1 c
        refine a_iconst (pc := 321) hC dL_areEchoesRight_321 (v := 0) rfl ?_
        refine a_istore (pc := 322) hC dL_areEchoesRight_322 (Nat.le_of_ble_eq_true rfl) ?_
        refine a_iinc (pc := 324) hC dL_areEchoesRight_324 rfl (c := 1) rfl ?_
        replace h := h _ rfl
        refine a_goto (pc := 327) (tgt := 201) hC dL_areEchoesRight_327 (by decide) ?_
        exact ((hB _ _ _ h).forget ⟨rfl, rfl, rfl, rfl, rfl, rfl, rfl, trivial⟩)
      · replace h := h.2 c
        refine a_iload (pc := 293) hC dL_areEchoesRight_293 rfl ?_
        refine a_if_eq (pc := 295) (tgt := 303) hC dL_areEchoesRight_295 (by decide) (fun c => ?_) (fun c => ?_)
        · replace h := h.1 c
          exact (tJL_areEchoesRight_303 hX hN P hR hC hE _ _ _ _ _ _ _ _ _ _ _ hB hK _ h).forget ⟨rfl, rfl, rfl, rfl, rfl, rfl, rfl, rfl, rfl, rfl, trivial⟩
        · replace h := h.2 c
          refine a_iload (pc := 298) hC dL_areEchoesRight_298 rfl ?_
          refine a_if_eq (pc := 300) (tgt := 317) hC dL_areEchoesRight_300 (by decide) (fun c => ?_) (fun c => ?_)
          · replace h := h.1 c
            refine a_iconst (pc := 317) hC dL_areEchoesRight_317 (v := 1) rfl ?_
            refine a_goto (pc := 318) (tgt := 322) hC dL_areEchoesRight_318 (by decide) ?_
            refine a_istore (pc := 322) hC dL_areEchoesRight_322 (Nat.le_of_ble_eq_true rfl) ?_
            refine a_iinc (pc := 324) hC dL_areEchoesRight_324 rfl (c := 1) rfl ?_
            replace h := h _ rfl
            refine a_goto (pc := 327) (tgt := 201) hC dL_areEchoesRight_327 (by decide) ?_
            exact ((hB _ _ _ h).forget ⟨rfl, rfl, rfl, rfl, rfl, rfl, rfl, trivial⟩)
          · replace h := h.2 c
            exact (tJL_areEchoesRight_303 hX hN P hR hC hE _ _ _ _ _ _ _ _ _ _ _ hB hK _ h).forget ⟨rfl, rfl, rfl, rfl, rfl, rfl, rfl, rfl, rfl, rfl, trivial⟩
set_option maxRecDepth 20000 in
theorem tJL_areEchoesRight_259 {f : aF} {g : aG} (hX : isX g) (hN : isNc g) (P : Int32 → aS → Prop) (hR : f_R f = aR 13 40 240) (hC : aOK f g cL_areEchoesRight 12 RL) (hE : aEi f g .boolean (fun r u => (r = 0 ∨ r = 1) ∧ P r u) (fun _ _ => False) 40 240) (c1 : Int32) (c2 : Int32) (c3 : Int32) (c4 : Int32) (j5 : Int32) (j6 : Int32) (j7 : Int32) (j8 : Int32) (j9 : Int32) (s0 : Int32) (B : Int32 → Int32 → aS → Prop) (K : Int32 → aS → Prop) (hB : ∀ (w5 : Int32) (w6 : Int32) (q : aS), B w5 w6 q → AW f g 201 [some (.ref (gAd g 0)), some (.int c1), some (.int c2), some (.int c3), some (.int c4), some (.int w5), some (.int w6), none, none, none, none, none] [] q 40 240) (hK : ∀ (w5 : Int32) (q : aS), K w5 q → AW f g 330 [some (.ref (gAd g 0)), some (.int c1), some (.int c2), some (.int c3), some (.int c4), some (.int w5), none, none, none, none, none, none] [] q 40 240) (q : aS) (h : JL_areEchoesRight_259 c1 c2 c3 c4 j5 j6 j7 j8 j9 s0 P B K q) : AW f g 259 [some (.ref (gAd g 0)), some (.int c1), some (.int c2), some (.int c3), some (.int c4), some (.int j5), some (.int j6), some (.int j7), some (.int j8), some (.int j9), none, none] [.int s0] q 40 240 := by
  unfold JL_areEchoesRight_259 at h
  refine a_istore (pc := 259) hC dL_areEchoesRight_259 (Nat.le_of_ble_eq_true rfl) ?_
  refine a_aload_n (pc := 261) hC dL_areEchoesRight_261 rfl ?_
  refine a_iload (pc := 262) hC dL_areEchoesRight_262 rfl ?_
  refine a_iconst (pc := 264) hC dL_areEchoesRight_264 (v := 2) rfl ?_
  refine a_callV (pc := 265) hC hR vm_X9_echoOf tw_510 cl_X9 (oX_0 hX) ⟨(Nat.le_of_ble_eq_true rfl), (Nat.le_of_ble_eq_true rfl), (Nat.le_of_ble_eq_true rfl), (Nat.le_of_ble_eq_true rfl)⟩ dL_areEchoesRight_265 (t_X9_echoOf0 hX hC.tr _ _ _ _ h) rfl rfl rfl (Nat.le_of_ble_eq_true rfl) (fun r43 q44 h => ?_)
  refine a_if_ge (pc := 268) (tgt := 275) hC dL_areEchoesRight_268 (by decide) (fun c => ?_) (fun c => ?_)
  · replace h := h.1 c
    refine a_iconst (pc := 275) hC dL_areEchoesRight_275 (v := 0) rfl ?_
    exact (tJL_areEchoesRight_276 hX hN P hR hC hE _ _ _ _ _ _ _ _ _ _ _ _ _ hB hK _ h).forget ⟨rfl, rfl, rfl, rfl, rfl, rfl, rfl, rfl, rfl, rfl, rfl, trivial⟩
  · replace h := h.2 c
    refine a_iconst (pc := 271) hC dL_areEchoesRight_271 (v := 1) rfl ?_
    refine a_goto (pc := 272) (tgt := 276) hC dL_areEchoesRight_272 (by decide) ?_
    exact (tJL_areEchoesRight_276 hX hN P hR hC hE _ _ _ _ _ _ _ _ _ _ _ _ _ hB hK _ h).forget ⟨rfl, rfl, rfl, rfl, rfl, rfl, rfl, rfl, rfl, rfl, rfl, trivial⟩
set_option maxRecDepth 20000 in
theorem tLL_areEchoesRight_201 {f : aF} {g : aG} (hX : isX g) (hN : isNc g) (P : Int32 → aS → Prop) (hR : f_R f = aR 13 40 240) (hC : aOK f g cL_areEchoesRight 12 RL) (hE : aEi f g .boolean (fun r u => (r = 0 ∨ r = 1) ∧ P r u) (fun _ _ => False) 40 240) (c1 : Int32) (c2 : Int32) (c3 : Int32) (c4 : Int32) {K : Int32 → aS → Prop} (hK : ∀ (w5 : Int32) (q : aS), K w5 q → AW f g 330 [some (.ref (gAd g 0)), some (.int c1), some (.int c2), some (.int c3), some (.int c4), some (.int w5), none, none, none, none, none, none] [] q 40 240) : ∀ (N : Nat) (v5 : Int32) (v6 : Int32) (q : aS), LL_areEchoesRight_201 c1 c2 c3 c4 P K N v5 v6 q → AW f g 201 [some (.ref (gAd g 0)), some (.int c1), some (.int c2), some (.int c3), some (.int c4), some (.int v5), some (.int v6), none, none, none, none, none] [] q 40 240 := by
  intro N
  induction N with
  | zero =>
    intro v5 v6 q h
    exact h.elim
  | succ N ih =>
    intro v5 v6 q h
    unfold LL_areEchoesRight_201 at h
    refine a_iload (pc := 201) hC dL_areEchoesRight_201 rfl ?_
    refine a_iconst (pc := 203) hC dL_areEchoesRight_203 (v := 1) rfl ?_
    refine a_iadd (pc := 204) hC dL_areEchoesRight_204 ?_
    refine a_iload_n (pc := 205) hC dL_areEchoesRight_205 rfl ?_
    refine a_icmp_ge (pc := 206) (tgt := 330) hC dL_areEchoesRight_206 (by decide) (fun c => ?_) (fun c => ?_)
    · replace h := h.1 c
      exact ((hK _ _ h).forget ⟨rfl, rfl, rfl, rfl, rfl, rfl, trivial⟩)
    · replace h := h.2 c
      refine a_aload_n (pc := 209) hC dL_areEchoesRight_209 rfl ?_
      refine a_iload (pc := 210) hC dL_areEchoesRight_210 rfl ?_
      refine a_callV (pc := 212) hC hR vm_X9_strongest tw_641 cl_X9 (oX_0 hX) ⟨(Nat.le_of_ble_eq_true rfl), (Nat.le_of_ble_eq_true rfl), (Nat.le_of_ble_eq_true rfl), (Nat.le_of_ble_eq_true rfl)⟩ dL_areEchoesRight_212 (t_X9_strongest0 hX hC.tr _ _ _ h) rfl rfl rfl (Nat.le_of_ble_eq_true rfl) (fun r32 q33 h => ?_)
      refine a_istore (pc := 215) hC dL_areEchoesRight_215 (Nat.le_of_ble_eq_true rfl) ?_
      refine a_aload_n (pc := 217) hC dL_areEchoesRight_217 rfl ?_
      refine a_iload (pc := 218) hC dL_areEchoesRight_218 rfl ?_
      refine a_iconst (pc := 220) hC dL_areEchoesRight_220 (v := 1) rfl ?_
      refine a_iadd (pc := 221) hC dL_areEchoesRight_221 ?_
      refine a_callV (pc := 222) hC hR vm_X9_strongest tw_641 cl_X9 (oX_0 hX) ⟨(Nat.le_of_ble_eq_true rfl), (Nat.le_of_ble_eq_true rfl), (Nat.le_of_ble_eq_true rfl), (Nat.le_of_ble_eq_true rfl)⟩ dL_areEchoesRight_222 (t_X9_strongest0 hX hC.tr _ _ _ h) rfl rfl rfl (Nat.le_of_ble_eq_true rfl) (fun r34 q35 h => ?_)
      refine a_istore (pc := 225) hC dL_areEchoesRight_225 (Nat.le_of_ble_eq_true rfl) ?_
      refine a_aload_n (pc := 227) hC dL_areEchoesRight_227 rfl ?_
      refine a_iload (pc := 228) hC dL_areEchoesRight_228 rfl ?_
      refine a_iconst (pc := 230) hC dL_areEchoesRight_230 (v := 1) rfl ?_
      refine a_callV (pc := 231) hC hR vm_X9_echoOf tw_510 cl_X9 (oX_0 hX) ⟨(Nat.le_of_ble_eq_true rfl), (Nat.le_of_ble_eq_true rfl), (Nat.le_of_ble_eq_true rfl), (Nat.le_of_ble_eq_true rfl)⟩ dL_areEchoesRight_231 (t_X9_echoOf0 hX hC.tr _ _ _ _ h) rfl rfl rfl (Nat.le_of_ble_eq_true rfl) (fun r36 q37 h => ?_)
      refine a_aload_n (pc := 234) hC dL_areEchoesRight_234 rfl ?_
      refine a_iload (pc := 235) hC dL_areEchoesRight_235 rfl ?_
      refine a_iconst (pc := 237) hC dL_areEchoesRight_237 (v := 1) rfl ?_
      refine a_callV (pc := 238) hC hR vm_X9_echoOf tw_510 cl_X9 (oX_0 hX) ⟨(Nat.le_of_ble_eq_true rfl), (Nat.le_of_ble_eq_true rfl), (Nat.le_of_ble_eq_true rfl), (Nat.le_of_ble_eq_true rfl)⟩ dL_areEchoesRight_238 (t_X9_echoOf0 hX hC.tr _ _ _ _ h) rfl rfl rfl (Nat.le_of_ble_eq_true rfl) (fun r38 q39 h => ?_)
      refine a_isub (pc := 241) hC dL_areEchoesRight_241 ?_
      refine a_istore (pc := 242) hC dL_areEchoesRight_242 (Nat.le_of_ble_eq_true rfl) ?_
      replace h := h _ rfl
      refine a_aload_n (pc := 244) hC dL_areEchoesRight_244 rfl ?_
      refine a_iload (pc := 245) hC dL_areEchoesRight_245 rfl ?_
      refine a_iconst (pc := 247) hC dL_areEchoesRight_247 (v := 2) rfl ?_
      refine a_callV (pc := 248) hC hR vm_X9_echoOf tw_510 cl_X9 (oX_0 hX) ⟨(Nat.le_of_ble_eq_true rfl), (Nat.le_of_ble_eq_true rfl), (Nat.le_of_ble_eq_true rfl), (Nat.le_of_ble_eq_true rfl)⟩ dL_areEchoesRight_248 (t_X9_echoOf0 hX hC.tr _ _ _ _ h) rfl rfl rfl (Nat.le_of_ble_eq_true rfl) (fun r41 q42 h => ?_)
      refine a_if_ge (pc := 251) (tgt := 258) hC dL_areEchoesRight_251 (by decide) (fun c => ?_) (fun c => ?_)
      · replace h := h.1 c
        refine a_iconst (pc := 258) hC dL_areEchoesRight_258 (v := 0) rfl ?_
        exact (tJL_areEchoesRight_259 hX hN P hR hC hE _ _ _ _ _ _ _ _ _ _ _ _ ih hK _ h).forget ⟨rfl, rfl, rfl, rfl, rfl, rfl, rfl, rfl, rfl, rfl, trivial⟩
      · replace h := h.2 c
        refine a_iconst (pc := 254) hC dL_areEchoesRight_254 (v := 1) rfl ?_
        refine a_goto (pc := 255) (tgt := 259) hC dL_areEchoesRight_255 (by decide) ?_
        exact (tJL_areEchoesRight_259 hX hN P hR hC hE _ _ _ _ _ _ _ _ _ _ _ _ ih hK _ h).forget ⟨rfl, rfl, rfl, rfl, rfl, rfl, rfl, rfl, rfl, rfl, trivial⟩
set_option maxRecDepth 20000 in
theorem tJL_areEchoesRight_401 {f : aF} {g : aG} (hX : isX g) (hN : isNc g) (P : Int32 → aS → Prop) (hR : f_R f = aR 13 40 240) (hC : aOK f g cL_areEchoesRight 12 RL) (hE : aEi f g .boolean (fun r u => (r = 0 ∨ r = 1) ∧ P r u) (fun _ _ => False) 40 240) (j1 : Int32) (j2 : Int32) (s0 : Int32) (q : aS) (h : JL_areEchoesRight_401 j1 j2 s0 P q) : AW f g 401 [some (.ref (gAd g 0)), some (.int j1), some (.int j2), none, none, none, none, none, none, none, none, none] [.int s0] q 40 240 := by
  unfold JL_areEchoesRight_401 at h
  refine a_istore (pc := 401) hC dL_areEchoesRight_401 (Nat.le_of_ble_eq_true rfl) ?_
  refine a_iload (pc := 403) hC dL_areEchoesRight_403 rfl ?_
  refine a_if_eq (pc := 405) (tgt := 429) hC dL_areEchoesRight_405 (by decide) (fun c => ?_) (fun c => ?_)
  · replace h := h.1 c
    refine a_iconst (pc := 429) hC dL_areEchoesRight_429 (v := 0) rfl ?_
    exact a_bret (pc := 430) hC hE (Or.inl rfl) h (Nat.le_of_ble_eq_true rfl) (Nat.le_of_ble_eq_true rfl) dL_areEchoesRight_430
  · replace h := h.2 c
    refine a_iload_n (pc := 408) hC dL_areEchoesRight_408 rfl ?_
    refine a_if_eq (pc := 409) (tgt := 425) hC dL_areEchoesRight_409 (by decide) (fun c => ?_) (fun c => ?_)
    · replace h := h.1 c
      refine a_iconst (pc := 425) hC dL_areEchoesRight_425 (v := 1) rfl ?_
      refine a_goto (pc := 426) (tgt := 430) hC dL_areEchoesRight_426 (by decide) ?_
      exact a_bret (pc := 430) hC hE (Or.inr rfl) h (Nat.le_of_ble_eq_true rfl) (Nat.le_of_ble_eq_true rfl) dL_areEchoesRight_430
    · replace h := h.2 c
      refine a_aload_n (pc := 412) hC dL_areEchoesRight_412 rfl ?_
      refine a_callVf (pc := 413) hC hR vm_X9_letShare tw_1090 cl_X9 (oX_0 hX) ⟨(Nat.le_of_ble_eq_true rfl), (Nat.le_of_ble_eq_true rfl), (Nat.le_of_ble_eq_true rfl), (Nat.le_of_ble_eq_true rfl)⟩ dL_areEchoesRight_413 (t_X9_letShare0 hX hC.tr _ _ h) rfl rfl rfl (Nat.le_of_ble_eq_true rfl) (fun r54 q55 h => ?_)
      refine a_iload_n (pc := 416) hC dL_areEchoesRight_416 rfl ?_
      refine a_i2f (pc := 417) hC dL_areEchoesRight_417 ?_
      refine a_iload_n (pc := 418) hC dL_areEchoesRight_418 rfl ?_
      refine a_i2f (pc := 419) hC dL_areEchoesRight_419 ?_
      refine a_fdiv (pc := 420) hC dL_areEchoesRight_420 h.1 ?_
      replace h := h.2
      refine a_fcmp (pc := 421) hC dL_areEchoesRight_421 ?_
      refine a_if_ne (pc := 422) (tgt := 429) hC dL_areEchoesRight_422 (by decide) (fun c => ?_) (fun c => ?_)
      · replace h := h.1 c
        refine a_iconst (pc := 429) hC dL_areEchoesRight_429 (v := 0) rfl ?_
        exact a_bret (pc := 430) hC hE (Or.inl rfl) h (Nat.le_of_ble_eq_true rfl) (Nat.le_of_ble_eq_true rfl) dL_areEchoesRight_430
      · replace h := h.2 c
        refine a_iconst (pc := 425) hC dL_areEchoesRight_425 (v := 1) rfl ?_
        refine a_goto (pc := 426) (tgt := 430) hC dL_areEchoesRight_426 (by decide) ?_
        exact a_bret (pc := 430) hC hE (Or.inr rfl) h (Nat.le_of_ble_eq_true rfl) (Nat.le_of_ble_eq_true rfl) dL_areEchoesRight_430
set_option maxRecDepth 20000 in
theorem tJL_areEchoesRight_400 {f : aF} {g : aG} (hX : isX g) (hN : isNc g) (P : Int32 → aS → Prop) (hR : f_R f = aR 13 40 240) (hC : aOK f g cL_areEchoesRight 12 RL) (hE : aEi f g .boolean (fun r u => (r = 0 ∨ r = 1) ∧ P r u) (fun _ _ => False) 40 240) (j1 : Int32) (j2 : Int32) (q : aS) (h : JL_areEchoesRight_400 j1 j2 P q) : AW f g 400 [some (.ref (gAd g 0)), some (.int j1), some (.int j2), none, none, none, none, none, none, none, none, none] [] q 40 240 := by
  unfold JL_areEchoesRight_400 at h
  refine a_iconst (pc := 400) hC dL_areEchoesRight_400 (v := 0) rfl ?_
  exact (tJL_areEchoesRight_401 hX hN P hR hC hE _ _ _ _ h).forget ⟨rfl, rfl, rfl, trivial⟩
set_option maxRecDepth 20000 in
theorem t_L_areEchoesRight {l : Launch} {g : aG} (hX : isX g) (hN : isNc g) (hl : l.stackTraces = false) (q : aS) (P : Int32 → aS → Prop) (h : w_L_areEchoesRight q P) : aMi l g yL_areEchoesRight (aWs yL_areEchoesRight cL_areEchoesRight 12 (some .boolean)) 13 40 240 [.ref (gAd g 0)] q (fun r u => (r = 0 ∨ r = 1) ∧ P r u) (fun _ _ => False) := by
  refine aMi_of RL ⟨by decide +kernel, rfl⟩ (cat_all rfl) (Nat.le_of_ble_eq_true rfl) hl hX.cl (fun f hR hC hE => ?_)
  show AW f g 0 [some (.ref (gAd g 0)), none, none, none, none, none, none, none, none, none, none, none] [] q 0 0
  unfold w_L_areEchoesRight at h
  refine a_aload_n (pc := 0) hC dL_areEchoesRight_0 rfl ?_
  refine a_iconst (pc := 1) hC dL_areEchoesRight_1 (v := 1) rfl ?_
  refine a_callV (pc := 2) hC hR vm_X9_account tw_327 cl_X9 (oX_0 hX) ⟨(Nat.le_of_ble_eq_true rfl), (Nat.le_of_ble_eq_true rfl), (Nat.le_of_ble_eq_true rfl), (Nat.le_of_ble_eq_true rfl)⟩ dL_areEchoesRight_2 (t_X9_account0 hX hC.tr _ _ _ h) rfl rfl rfl (Nat.le_of_ble_eq_true rfl) (fun r1 q2 h => ?_)
  refine a_istore_n (pc := 5) hC dL_areEchoesRight_5 (Nat.le_of_ble_eq_true rfl) ?_
  refine a_iconst (pc := 6) hC dL_areEchoesRight_6 (v := 0) rfl ?_
  refine a_istore_n (pc := 7) hC dL_areEchoesRight_7 (Nat.le_of_ble_eq_true rfl) ?_
  refine a_iconst (pc := 8) hC dL_areEchoesRight_8 (v := 0) rfl ?_
  refine a_istore_n (pc := 9) hC dL_areEchoesRight_9 (Nat.le_of_ble_eq_true rfl) ?_
  refine a_iconst (pc := 10) hC dL_areEchoesRight_10 (v := 0) rfl ?_
  refine a_istore (pc := 11) hC dL_areEchoesRight_11 (Nat.le_of_ble_eq_true rfl) ?_
  refine a_aload_n (pc := 13) hC dL_areEchoesRight_13 rfl ?_
  refine a_bipush (pc := 14) hC dL_areEchoesRight_14 (v := 10) rfl ?_
  refine a_iload_n (pc := 16) hC dL_areEchoesRight_16 rfl ?_
  refine a_iconst (pc := 17) hC dL_areEchoesRight_17 (v := 0) rfl ?_
  refine a_callSh (pc := 18) hC hR sm_L_ask tw_430 ⟨(Nat.le_of_ble_eq_true rfl), (Nat.le_of_ble_eq_true rfl), (Nat.le_of_ble_eq_true rfl), (Nat.le_of_ble_eq_true rfl)⟩ dL_areEchoesRight_18 (t_L_ask hX hN hC.tr _ _ _ _ _ h) rfl rfl rfl (Nat.le_of_ble_eq_true rfl) (fun r3 q4 h => ?_)
  refine a_sipush (pc := 21) hC dL_areEchoesRight_21 (v := (-2004)) rfl ?_
  refine a_icmp_ne (pc := 24) (tgt := 44) hC dL_areEchoesRight_24 (by decide) (fun c => ?_) (fun c => ?_)
  · replace h := h.1 c
    refine a_iconst (pc := 44) hC dL_areEchoesRight_44 (v := 0) rfl ?_
    refine a_istore (pc := 45) hC dL_areEchoesRight_45 (Nat.le_of_ble_eq_true rfl) ?_
    refine a_iconst (pc := 47) hC dL_areEchoesRight_47 (v := 0) rfl ?_
    refine a_istore (pc := 48) hC dL_areEchoesRight_48 (Nat.le_of_ble_eq_true rfl) ?_
    refine AW.widen (k2 := 4) (n2 := 24) (by decide) (by decide) ?_
    obtain ⟨N, hM9, h⟩ := h
    refine (AW.widen (by omega) (by omega) ((tLL_areEchoesRight_50 hX hN P hR hC hE _ (fun y27 y28 y29 y30 q31 h => ?_) N _ _ _ _ _ _ hM9 h).forget ⟨rfl, rfl, rfl, rfl, rfl, rfl, rfl, trivial⟩))
    refine a_iconst (pc := 198) hC dL_areEchoesRight_198 (v := 0) rfl ?_
    refine a_istore (pc := 199) hC dL_areEchoesRight_199 (Nat.le_of_ble_eq_true rfl) ?_
    obtain ⟨N, h⟩ := h
    refine (tLL_areEchoesRight_201 hX hN P hR hC hE _ _ _ _ (fun y52 q53 h => ?_) N _ _ _ h).forget ⟨rfl, rfl, rfl, rfl, rfl, rfl, rfl, trivial⟩
    refine a_iload (pc := 330) hC dL_areEchoesRight_330 rfl ?_
    refine a_if_eq (pc := 332) (tgt := 400) hC dL_areEchoesRight_332 (by decide) (fun c => ?_) (fun c => ?_)
    · replace h := h.1 c
      exact (tJL_areEchoesRight_400 hX hN P hR hC hE _ _ _ h).forget ⟨rfl, rfl, rfl, trivial⟩
    · replace h := h.2 c
      refine a_aload_n (pc := 335) hC dL_areEchoesRight_335 rfl ?_
      refine a_iconst (pc := 336) hC dL_areEchoesRight_336 (v := 3) rfl ?_
      refine a_callV (pc := 337) hC hR vm_X9_account tw_327 cl_X9 (oX_0 hX) ⟨(Nat.le_of_ble_eq_true rfl), (Nat.le_of_ble_eq_true rfl), (Nat.le_of_ble_eq_true rfl), (Nat.le_of_ble_eq_true rfl)⟩ dL_areEchoesRight_337 (t_X9_account0 hX hC.tr _ _ _ h) rfl rfl rfl (Nat.le_of_ble_eq_true rfl) (fun r56 q57 h => ?_)
      refine a_iload_n (pc := 340) hC dL_areEchoesRight_340 rfl ?_
      refine a_icmp_ne (pc := 341) (tgt := 400) hC dL_areEchoesRight_341 (by decide) (fun c => ?_) (fun c => ?_)
      · replace h := h.1 c
        exact (tJL_areEchoesRight_400 hX hN P hR hC hE _ _ _ h).forget ⟨rfl, rfl, rfl, trivial⟩
      · replace h := h.2 c
        refine a_aload_n (pc := 344) hC dL_areEchoesRight_344 rfl ?_
        refine a_bipush (pc := 345) hC dL_areEchoesRight_345 (v := 11) rfl ?_
        refine a_callV (pc := 347) hC hR vm_X9_account tw_327 cl_X9 (oX_0 hX) ⟨(Nat.le_of_ble_eq_true rfl), (Nat.le_of_ble_eq_true rfl), (Nat.le_of_ble_eq_true rfl), (Nat.le_of_ble_eq_true rfl)⟩ dL_areEchoesRight_347 (t_X9_account0 hX hC.tr _ _ _ h) rfl rfl rfl (Nat.le_of_ble_eq_true rfl) (fun r58 q59 h => ?_)
        refine a_iload_n (pc := 350) hC dL_areEchoesRight_350 rfl ?_
        refine a_icmp_ne (pc := 351) (tgt := 400) hC dL_areEchoesRight_351 (by decide) (fun c => ?_) (fun c => ?_)
        · replace h := h.1 c
          exact (tJL_areEchoesRight_400 hX hN P hR hC hE _ _ _ h).forget ⟨rfl, rfl, rfl, trivial⟩
        · replace h := h.2 c
          refine a_aload_n (pc := 354) hC dL_areEchoesRight_354 rfl ?_
          refine a_bipush (pc := 355) hC dL_areEchoesRight_355 (v := 8) rfl ?_
          refine a_callV (pc := 357) hC hR vm_X9_account tw_327 cl_X9 (oX_0 hX) ⟨(Nat.le_of_ble_eq_true rfl), (Nat.le_of_ble_eq_true rfl), (Nat.le_of_ble_eq_true rfl), (Nat.le_of_ble_eq_true rfl)⟩ dL_areEchoesRight_357 (t_X9_account0 hX hC.tr _ _ _ h) rfl rfl rfl (Nat.le_of_ble_eq_true rfl) (fun r60 q61 h => ?_)
          refine a_aload_n (pc := 360) hC dL_areEchoesRight_360 rfl ?_
          refine a_bipush (pc := 361) hC dL_areEchoesRight_361 (v := 9) rfl ?_
          refine a_callV (pc := 363) hC hR vm_X9_account tw_327 cl_X9 (oX_0 hX) ⟨(Nat.le_of_ble_eq_true rfl), (Nat.le_of_ble_eq_true rfl), (Nat.le_of_ble_eq_true rfl), (Nat.le_of_ble_eq_true rfl)⟩ dL_areEchoesRight_363 (t_X9_account0 hX hC.tr _ _ _ h) rfl rfl rfl (Nat.le_of_ble_eq_true rfl) (fun r62 q63 h => ?_)
          refine a_aload_n (pc := 366) hC dL_areEchoesRight_366 rfl ?_
          refine a_bipush (pc := 367) hC dL_areEchoesRight_367 (v := 10) rfl ?_
          refine a_callV (pc := 369) hC hR vm_X9_account tw_327 cl_X9 (oX_0 hX) ⟨(Nat.le_of_ble_eq_true rfl), (Nat.le_of_ble_eq_true rfl), (Nat.le_of_ble_eq_true rfl), (Nat.le_of_ble_eq_true rfl)⟩ dL_areEchoesRight_369 (t_X9_account0 hX hC.tr _ _ _ h) rfl rfl rfl (Nat.le_of_ble_eq_true rfl) (fun r64 q65 h => ?_)
          refine a_iadd (pc := 372) hC dL_areEchoesRight_372 ?_
          refine a_iload_n (pc := 373) hC dL_areEchoesRight_373 rfl ?_
          refine a_iadd (pc := 374) hC dL_areEchoesRight_374 ?_
          refine a_icmp_ne (pc := 375) (tgt := 400) hC dL_areEchoesRight_375 (by decide) (fun c => ?_) (fun c => ?_)
          · replace h := h.1 c
            exact (tJL_areEchoesRight_400 hX hN P hR hC hE _ _ _ h).forget ⟨rfl, rfl, rfl, trivial⟩
          · replace h := h.2 c
            refine a_aload_n (pc := 378) hC dL_areEchoesRight_378 rfl ?_
            refine a_bipush (pc := 379) hC dL_areEchoesRight_379 (v := 7) rfl ?_
            refine a_callV (pc := 381) hC hR vm_X9_account tw_327 cl_X9 (oX_0 hX) ⟨(Nat.le_of_ble_eq_true rfl), (Nat.le_of_ble_eq_true rfl), (Nat.le_of_ble_eq_true rfl), (Nat.le_of_ble_eq_true rfl)⟩ dL_areEchoesRight_381 (t_X9_account0 hX hC.tr _ _ _ h) rfl rfl rfl (Nat.le_of_ble_eq_true rfl) (fun r66 q67 h => ?_)
            refine a_iload (pc := 384) hC dL_areEchoesRight_384 rfl ?_
            refine a_icmp_ne (pc := 386) (tgt := 400) hC dL_areEchoesRight_386 (by decide) (fun c => ?_) (fun c => ?_)
            · replace h := h.1 c
              exact (tJL_areEchoesRight_400 hX hN P hR hC hE _ _ _ h).forget ⟨rfl, rfl, rfl, trivial⟩
            · replace h := h.2 c
              refine a_aload_n (pc := 389) hC dL_areEchoesRight_389 rfl ?_
              refine a_callV (pc := 390) hC hR vm_X9_isTold tw_1082 cl_X9 (oX_0 hX) ⟨(Nat.le_of_ble_eq_true rfl), (Nat.le_of_ble_eq_true rfl), (Nat.le_of_ble_eq_true rfl), (Nat.le_of_ble_eq_true rfl)⟩ dL_areEchoesRight_390 (t_X9_isTold hX hC.tr _ _ h) rfl rfl rfl (Nat.le_of_ble_eq_true rfl) (fun r68 q69 h => ?_)
              have z_r68 := h.1
              replace h := h.2
              refine a_if_eq (pc := 393) (tgt := 400) hC dL_areEchoesRight_393 (by decide) (fun c => ?_) (fun c => ?_)
              · replace h := h.1 c
                exact (tJL_areEchoesRight_400 hX hN P hR hC hE _ _ _ h).forget ⟨rfl, rfl, rfl, trivial⟩
              · replace h := h.2 c
                refine a_iconst (pc := 396) hC dL_areEchoesRight_396 (v := 1) rfl ?_
                refine a_goto (pc := 397) (tgt := 401) hC dL_areEchoesRight_397 (by decide) ?_
                exact (tJL_areEchoesRight_401 hX hN P hR hC hE _ _ _ _ h).forget ⟨rfl, rfl, rfl, trivial⟩
  · replace h := h.2 c
    refine a_aload_n (pc := 27) hC dL_areEchoesRight_27 rfl ?_
    refine a_iconst (pc := 28) hC dL_areEchoesRight_28 (v := 1) rfl ?_
    refine a_iload_n (pc := 29) hC dL_areEchoesRight_29 rfl ?_
    refine a_iconst (pc := 30) hC dL_areEchoesRight_30 (v := 0) rfl ?_
    refine a_callSh (pc := 31) hC hR sm_L_ask tw_430 ⟨(Nat.le_of_ble_eq_true rfl), (Nat.le_of_ble_eq_true rfl), (Nat.le_of_ble_eq_true rfl), (Nat.le_of_ble_eq_true rfl)⟩ dL_areEchoesRight_31 (t_L_ask hX hN hC.tr _ _ _ _ _ h) rfl rfl rfl (Nat.le_of_ble_eq_true rfl) (fun r72 q73 h => ?_)
    refine a_sipush (pc := 34) hC dL_areEchoesRight_34 (v := (-2002)) rfl ?_
    refine a_icmp_ne (pc := 37) (tgt := 44) hC dL_areEchoesRight_37 (by decide) (fun c => ?_) (fun c => ?_)
    · replace h := h.1 c
      refine a_iconst (pc := 44) hC dL_areEchoesRight_44 (v := 0) rfl ?_
      refine a_istore (pc := 45) hC dL_areEchoesRight_45 (Nat.le_of_ble_eq_true rfl) ?_
      refine a_iconst (pc := 47) hC dL_areEchoesRight_47 (v := 0) rfl ?_
      refine a_istore (pc := 48) hC dL_areEchoesRight_48 (Nat.le_of_ble_eq_true rfl) ?_
      obtain ⟨N, hM9, h⟩ := h
      refine (AW.widen (by omega) (by omega) ((tLL_areEchoesRight_50 hX hN P hR hC hE _ (fun y74 y75 y76 y77 q78 h => ?_) N _ _ _ _ _ _ hM9 h).forget ⟨rfl, rfl, rfl, rfl, rfl, rfl, rfl, trivial⟩))
      refine a_iconst (pc := 198) hC dL_areEchoesRight_198 (v := 0) rfl ?_
      refine a_istore (pc := 199) hC dL_areEchoesRight_199 (Nat.le_of_ble_eq_true rfl) ?_
      obtain ⟨N, h⟩ := h
      refine (tLL_areEchoesRight_201 hX hN P hR hC hE _ _ _ _ (fun y79 q80 h => ?_) N _ _ _ h).forget ⟨rfl, rfl, rfl, rfl, rfl, rfl, rfl, trivial⟩
      refine a_iload (pc := 330) hC dL_areEchoesRight_330 rfl ?_
      refine a_if_eq (pc := 332) (tgt := 400) hC dL_areEchoesRight_332 (by decide) (fun c => ?_) (fun c => ?_)
      · replace h := h.1 c
        exact (tJL_areEchoesRight_400 hX hN P hR hC hE _ _ _ h).forget ⟨rfl, rfl, rfl, trivial⟩
      · replace h := h.2 c
        refine a_aload_n (pc := 335) hC dL_areEchoesRight_335 rfl ?_
        refine a_iconst (pc := 336) hC dL_areEchoesRight_336 (v := 3) rfl ?_
        refine a_callV (pc := 337) hC hR vm_X9_account tw_327 cl_X9 (oX_0 hX) ⟨(Nat.le_of_ble_eq_true rfl), (Nat.le_of_ble_eq_true rfl), (Nat.le_of_ble_eq_true rfl), (Nat.le_of_ble_eq_true rfl)⟩ dL_areEchoesRight_337 (t_X9_account0 hX hC.tr _ _ _ h) rfl rfl rfl (Nat.le_of_ble_eq_true rfl) (fun r81 q82 h => ?_)
        refine a_iload_n (pc := 340) hC dL_areEchoesRight_340 rfl ?_
        refine a_icmp_ne (pc := 341) (tgt := 400) hC dL_areEchoesRight_341 (by decide) (fun c => ?_) (fun c => ?_)
        · replace h := h.1 c
          exact (tJL_areEchoesRight_400 hX hN P hR hC hE _ _ _ h).forget ⟨rfl, rfl, rfl, trivial⟩
        · replace h := h.2 c
          refine a_aload_n (pc := 344) hC dL_areEchoesRight_344 rfl ?_
          refine a_bipush (pc := 345) hC dL_areEchoesRight_345 (v := 11) rfl ?_
          refine a_callV (pc := 347) hC hR vm_X9_account tw_327 cl_X9 (oX_0 hX) ⟨(Nat.le_of_ble_eq_true rfl), (Nat.le_of_ble_eq_true rfl), (Nat.le_of_ble_eq_true rfl), (Nat.le_of_ble_eq_true rfl)⟩ dL_areEchoesRight_347 (t_X9_account0 hX hC.tr _ _ _ h) rfl rfl rfl (Nat.le_of_ble_eq_true rfl) (fun r83 q84 h => ?_)
          refine a_iload_n (pc := 350) hC dL_areEchoesRight_350 rfl ?_
          refine a_icmp_ne (pc := 351) (tgt := 400) hC dL_areEchoesRight_351 (by decide) (fun c => ?_) (fun c => ?_)
          · replace h := h.1 c
            exact (tJL_areEchoesRight_400 hX hN P hR hC hE _ _ _ h).forget ⟨rfl, rfl, rfl, trivial⟩
          · replace h := h.2 c
            refine a_aload_n (pc := 354) hC dL_areEchoesRight_354 rfl ?_
            refine a_bipush (pc := 355) hC dL_areEchoesRight_355 (v := 8) rfl ?_
            refine a_callV (pc := 357) hC hR vm_X9_account tw_327 cl_X9 (oX_0 hX) ⟨(Nat.le_of_ble_eq_true rfl), (Nat.le_of_ble_eq_true rfl), (Nat.le_of_ble_eq_true rfl), (Nat.le_of_ble_eq_true rfl)⟩ dL_areEchoesRight_357 (t_X9_account0 hX hC.tr _ _ _ h) rfl rfl rfl (Nat.le_of_ble_eq_true rfl) (fun r85 q86 h => ?_)
            refine a_aload_n (pc := 360) hC dL_areEchoesRight_360 rfl ?_
            refine a_bipush (pc := 361) hC dL_areEchoesRight_361 (v := 9) rfl ?_
            refine a_callV (pc := 363) hC hR vm_X9_account tw_327 cl_X9 (oX_0 hX) ⟨(Nat.le_of_ble_eq_true rfl), (Nat.le_of_ble_eq_true rfl), (Nat.le_of_ble_eq_true rfl), (Nat.le_of_ble_eq_true rfl)⟩ dL_areEchoesRight_363 (t_X9_account0 hX hC.tr _ _ _ h) rfl rfl rfl (Nat.le_of_ble_eq_true rfl) (fun r87 q88 h => ?_)
            refine a_aload_n (pc := 366) hC dL_areEchoesRight_366 rfl ?_
            refine a_bipush (pc := 367) hC dL_areEchoesRight_367 (v := 10) rfl ?_
            refine a_callV (pc := 369) hC hR vm_X9_account tw_327 cl_X9 (oX_0 hX) ⟨(Nat.le_of_ble_eq_true rfl), (Nat.le_of_ble_eq_true rfl), (Nat.le_of_ble_eq_true rfl), (Nat.le_of_ble_eq_true rfl)⟩ dL_areEchoesRight_369 (t_X9_account0 hX hC.tr _ _ _ h) rfl rfl rfl (Nat.le_of_ble_eq_true rfl) (fun r89 q90 h => ?_)
            refine a_iadd (pc := 372) hC dL_areEchoesRight_372 ?_
            refine a_iload_n (pc := 373) hC dL_areEchoesRight_373 rfl ?_
            refine a_iadd (pc := 374) hC dL_areEchoesRight_374 ?_
            refine a_icmp_ne (pc := 375) (tgt := 400) hC dL_areEchoesRight_375 (by decide) (fun c => ?_) (fun c => ?_)
            · replace h := h.1 c
              exact (tJL_areEchoesRight_400 hX hN P hR hC hE _ _ _ h).forget ⟨rfl, rfl, rfl, trivial⟩
            · replace h := h.2 c
              refine a_aload_n (pc := 378) hC dL_areEchoesRight_378 rfl ?_
              refine a_bipush (pc := 379) hC dL_areEchoesRight_379 (v := 7) rfl ?_
              refine a_callV (pc := 381) hC hR vm_X9_account tw_327 cl_X9 (oX_0 hX) ⟨(Nat.le_of_ble_eq_true rfl), (Nat.le_of_ble_eq_true rfl), (Nat.le_of_ble_eq_true rfl), (Nat.le_of_ble_eq_true rfl)⟩ dL_areEchoesRight_381 (t_X9_account0 hX hC.tr _ _ _ h) rfl rfl rfl (Nat.le_of_ble_eq_true rfl) (fun r91 q92 h => ?_)
              refine a_iload (pc := 384) hC dL_areEchoesRight_384 rfl ?_
              refine a_icmp_ne (pc := 386) (tgt := 400) hC dL_areEchoesRight_386 (by decide) (fun c => ?_) (fun c => ?_)
              · replace h := h.1 c
                exact (tJL_areEchoesRight_400 hX hN P hR hC hE _ _ _ h).forget ⟨rfl, rfl, rfl, trivial⟩
              · replace h := h.2 c
                refine a_aload_n (pc := 389) hC dL_areEchoesRight_389 rfl ?_
                refine a_callV (pc := 390) hC hR vm_X9_isTold tw_1082 cl_X9 (oX_0 hX) ⟨(Nat.le_of_ble_eq_true rfl), (Nat.le_of_ble_eq_true rfl), (Nat.le_of_ble_eq_true rfl), (Nat.le_of_ble_eq_true rfl)⟩ dL_areEchoesRight_390 (t_X9_isTold hX hC.tr _ _ h) rfl rfl rfl (Nat.le_of_ble_eq_true rfl) (fun r93 q94 h => ?_)
                have z_r93 := h.1
                replace h := h.2
                refine a_if_eq (pc := 393) (tgt := 400) hC dL_areEchoesRight_393 (by decide) (fun c => ?_) (fun c => ?_)
                · replace h := h.1 c
                  exact (tJL_areEchoesRight_400 hX hN P hR hC hE _ _ _ h).forget ⟨rfl, rfl, rfl, trivial⟩
                · replace h := h.2 c
                  refine a_iconst (pc := 396) hC dL_areEchoesRight_396 (v := 1) rfl ?_
                  refine a_goto (pc := 397) (tgt := 401) hC dL_areEchoesRight_397 (by decide) ?_
                  exact (tJL_areEchoesRight_401 hX hN P hR hC hE _ _ _ _ h).forget ⟨rfl, rfl, rfl, trivial⟩
    · replace h := h.2 c
      refine a_iconst (pc := 40) hC dL_areEchoesRight_40 (v := 1) rfl ?_
      refine a_goto (pc := 41) (tgt := 45) hC dL_areEchoesRight_41 (by decide) ?_
      refine a_istore (pc := 45) hC dL_areEchoesRight_45 (Nat.le_of_ble_eq_true rfl) ?_
      refine a_iconst (pc := 47) hC dL_areEchoesRight_47 (v := 0) rfl ?_
      refine a_istore (pc := 48) hC dL_areEchoesRight_48 (Nat.le_of_ble_eq_true rfl) ?_
      obtain ⟨N, hM9, h⟩ := h
      refine (AW.widen (by omega) (by omega) ((tLL_areEchoesRight_50 hX hN P hR hC hE _ (fun y97 y98 y99 y100 q101 h => ?_) N _ _ _ _ _ _ hM9 h).forget ⟨rfl, rfl, rfl, rfl, rfl, rfl, rfl, trivial⟩))
      refine a_iconst (pc := 198) hC dL_areEchoesRight_198 (v := 0) rfl ?_
      refine a_istore (pc := 199) hC dL_areEchoesRight_199 (Nat.le_of_ble_eq_true rfl) ?_
      obtain ⟨N, h⟩ := h
      refine (tLL_areEchoesRight_201 hX hN P hR hC hE _ _ _ _ (fun y102 q103 h => ?_) N _ _ _ h).forget ⟨rfl, rfl, rfl, rfl, rfl, rfl, rfl, trivial⟩
      refine a_iload (pc := 330) hC dL_areEchoesRight_330 rfl ?_
      refine a_if_eq (pc := 332) (tgt := 400) hC dL_areEchoesRight_332 (by decide) (fun c => ?_) (fun c => ?_)
      · replace h := h.1 c
        exact (tJL_areEchoesRight_400 hX hN P hR hC hE _ _ _ h).forget ⟨rfl, rfl, rfl, trivial⟩
      · replace h := h.2 c
        refine a_aload_n (pc := 335) hC dL_areEchoesRight_335 rfl ?_
        refine a_iconst (pc := 336) hC dL_areEchoesRight_336 (v := 3) rfl ?_
        refine a_callV (pc := 337) hC hR vm_X9_account tw_327 cl_X9 (oX_0 hX) ⟨(Nat.le_of_ble_eq_true rfl), (Nat.le_of_ble_eq_true rfl), (Nat.le_of_ble_eq_true rfl), (Nat.le_of_ble_eq_true rfl)⟩ dL_areEchoesRight_337 (t_X9_account0 hX hC.tr _ _ _ h) rfl rfl rfl (Nat.le_of_ble_eq_true rfl) (fun r104 q105 h => ?_)
        refine a_iload_n (pc := 340) hC dL_areEchoesRight_340 rfl ?_
        refine a_icmp_ne (pc := 341) (tgt := 400) hC dL_areEchoesRight_341 (by decide) (fun c => ?_) (fun c => ?_)
        · replace h := h.1 c
          exact (tJL_areEchoesRight_400 hX hN P hR hC hE _ _ _ h).forget ⟨rfl, rfl, rfl, trivial⟩
        · replace h := h.2 c
          refine a_aload_n (pc := 344) hC dL_areEchoesRight_344 rfl ?_
          refine a_bipush (pc := 345) hC dL_areEchoesRight_345 (v := 11) rfl ?_
          refine a_callV (pc := 347) hC hR vm_X9_account tw_327 cl_X9 (oX_0 hX) ⟨(Nat.le_of_ble_eq_true rfl), (Nat.le_of_ble_eq_true rfl), (Nat.le_of_ble_eq_true rfl), (Nat.le_of_ble_eq_true rfl)⟩ dL_areEchoesRight_347 (t_X9_account0 hX hC.tr _ _ _ h) rfl rfl rfl (Nat.le_of_ble_eq_true rfl) (fun r106 q107 h => ?_)
          refine a_iload_n (pc := 350) hC dL_areEchoesRight_350 rfl ?_
          refine a_icmp_ne (pc := 351) (tgt := 400) hC dL_areEchoesRight_351 (by decide) (fun c => ?_) (fun c => ?_)
          · replace h := h.1 c
            exact (tJL_areEchoesRight_400 hX hN P hR hC hE _ _ _ h).forget ⟨rfl, rfl, rfl, trivial⟩
          · replace h := h.2 c
            refine a_aload_n (pc := 354) hC dL_areEchoesRight_354 rfl ?_
            refine a_bipush (pc := 355) hC dL_areEchoesRight_355 (v := 8) rfl ?_
            refine a_callV (pc := 357) hC hR vm_X9_account tw_327 cl_X9 (oX_0 hX) ⟨(Nat.le_of_ble_eq_true rfl), (Nat.le_of_ble_eq_true rfl), (Nat.le_of_ble_eq_true rfl), (Nat.le_of_ble_eq_true rfl)⟩ dL_areEchoesRight_357 (t_X9_account0 hX hC.tr _ _ _ h) rfl rfl rfl (Nat.le_of_ble_eq_true rfl) (fun r108 q109 h => ?_)
            refine a_aload_n (pc := 360) hC dL_areEchoesRight_360 rfl ?_
            refine a_bipush (pc := 361) hC dL_areEchoesRight_361 (v := 9) rfl ?_
            refine a_callV (pc := 363) hC hR vm_X9_account tw_327 cl_X9 (oX_0 hX) ⟨(Nat.le_of_ble_eq_true rfl), (Nat.le_of_ble_eq_true rfl), (Nat.le_of_ble_eq_true rfl), (Nat.le_of_ble_eq_true rfl)⟩ dL_areEchoesRight_363 (t_X9_account0 hX hC.tr _ _ _ h) rfl rfl rfl (Nat.le_of_ble_eq_true rfl) (fun r110 q111 h => ?_)
            refine a_aload_n (pc := 366) hC dL_areEchoesRight_366 rfl ?_
            refine a_bipush (pc := 367) hC dL_areEchoesRight_367 (v := 10) rfl ?_
            refine a_callV (pc := 369) hC hR vm_X9_account tw_327 cl_X9 (oX_0 hX) ⟨(Nat.le_of_ble_eq_true rfl), (Nat.le_of_ble_eq_true rfl), (Nat.le_of_ble_eq_true rfl), (Nat.le_of_ble_eq_true rfl)⟩ dL_areEchoesRight_369 (t_X9_account0 hX hC.tr _ _ _ h) rfl rfl rfl (Nat.le_of_ble_eq_true rfl) (fun r112 q113 h => ?_)
            refine a_iadd (pc := 372) hC dL_areEchoesRight_372 ?_
            refine a_iload_n (pc := 373) hC dL_areEchoesRight_373 rfl ?_
            refine a_iadd (pc := 374) hC dL_areEchoesRight_374 ?_
            refine a_icmp_ne (pc := 375) (tgt := 400) hC dL_areEchoesRight_375 (by decide) (fun c => ?_) (fun c => ?_)
            · replace h := h.1 c
              exact (tJL_areEchoesRight_400 hX hN P hR hC hE _ _ _ h).forget ⟨rfl, rfl, rfl, trivial⟩
            · replace h := h.2 c
              refine a_aload_n (pc := 378) hC dL_areEchoesRight_378 rfl ?_
              refine a_bipush (pc := 379) hC dL_areEchoesRight_379 (v := 7) rfl ?_
              refine a_callV (pc := 381) hC hR vm_X9_account tw_327 cl_X9 (oX_0 hX) ⟨(Nat.le_of_ble_eq_true rfl), (Nat.le_of_ble_eq_true rfl), (Nat.le_of_ble_eq_true rfl), (Nat.le_of_ble_eq_true rfl)⟩ dL_areEchoesRight_381 (t_X9_account0 hX hC.tr _ _ _ h) rfl rfl rfl (Nat.le_of_ble_eq_true rfl) (fun r114 q115 h => ?_)
              refine a_iload (pc := 384) hC dL_areEchoesRight_384 rfl ?_
              refine a_icmp_ne (pc := 386) (tgt := 400) hC dL_areEchoesRight_386 (by decide) (fun c => ?_) (fun c => ?_)
              · replace h := h.1 c
                exact (tJL_areEchoesRight_400 hX hN P hR hC hE _ _ _ h).forget ⟨rfl, rfl, rfl, trivial⟩
              · replace h := h.2 c
                refine a_aload_n (pc := 389) hC dL_areEchoesRight_389 rfl ?_
                refine a_callV (pc := 390) hC hR vm_X9_isTold tw_1082 cl_X9 (oX_0 hX) ⟨(Nat.le_of_ble_eq_true rfl), (Nat.le_of_ble_eq_true rfl), (Nat.le_of_ble_eq_true rfl), (Nat.le_of_ble_eq_true rfl)⟩ dL_areEchoesRight_390 (t_X9_isTold hX hC.tr _ _ h) rfl rfl rfl (Nat.le_of_ble_eq_true rfl) (fun r116 q117 h => ?_)
                have z_r116 := h.1
                replace h := h.2
                refine a_if_eq (pc := 393) (tgt := 400) hC dL_areEchoesRight_393 (by decide) (fun c => ?_) (fun c => ?_)
                · replace h := h.1 c
                  exact (tJL_areEchoesRight_400 hX hN P hR hC hE _ _ _ h).forget ⟨rfl, rfl, rfl, trivial⟩
                · replace h := h.2 c
                  refine a_iconst (pc := 396) hC dL_areEchoesRight_396 (v := 1) rfl ?_
                  refine a_goto (pc := 397) (tgt := 401) hC dL_areEchoesRight_397 (by decide) ?_
                  exact (tJL_areEchoesRight_401 hX hN P hR hC hE _ _ _ _ h).forget ⟨rfl, rfl, rfl, trivial⟩
set_option maxRecDepth 20000 in
theorem tLL_areRanksRight_56 {f : aF} {g : aG} (hX : isX g) (hN : isNc g) (P : Int32 → aS → Prop) (hR : f_R f = aR 13 6 36) (hC : aOK f g cL_areRanksRight 7 RL) (hE : aEi f g .boolean (fun r u => (r = 0 ∨ r = 1) ∧ P r u) (fun _ _ => False) 6 36) (c1 : Int32) {K : Int32 → aS → Prop} (hK : ∀ (w2 : Int32) (q : aS), K w2 q → AW f g 145 [none, none, some (.int w2), none, none, none, none] [] q 6 36) : ∀ (N : Nat) (v2 : Int32) (v3 : Int32) (q : aS), LL_areRanksRight_56 c1 P K N v2 v3 q → AW f g 56 [some (.ref (gAd g 0)), some (.int c1), some (.int v2), some (.int v3), none, none, none] [] q 6 36 := by
  intro N
  induction N with
  | zero =>
    intro v2 v3 q h
    exact h.elim
  | succ N ih =>
    intro v2 v3 q h
    unfold LL_areRanksRight_56 at h
    refine a_iload_n (pc := 56) hC dL_areRanksRight_56 rfl ?_
    refine a_iconst (pc := 57) hC dL_areRanksRight_57 (v := 4) rfl ?_
    refine a_iload_n (pc := 58) hC dL_areRanksRight_58 rfl ?_
    refine a_iconst (pc := 59) hC dL_areRanksRight_59 (v := 1) rfl ?_
    refine a_isub (pc := 60) hC dL_areRanksRight_60 ?_
    refine a_imul (pc := 61) hC dL_areRanksRight_61 ?_
    refine a_icmp_ge (pc := 62) (tgt := 145) hC dL_areRanksRight_62 (by decide) (fun c => ?_) (fun c => ?_)
    · replace h := h.1 c
      exact ((hK _ _ h).forget ⟨rfl, trivial⟩)
    · replace h := h.2 c
      refine a_aload_n (pc := 65) hC dL_areRanksRight_65 rfl ?_
      refine a_iload_n (pc := 66) hC dL_areRanksRight_66 rfl ?_
      refine a_iconst (pc := 67) hC dL_areRanksRight_67 (v := 4) rfl ?_
      refine a_irem (pc := 68) hC dL_areRanksRight_68 (by decide) ?_
      refine a_iload_n (pc := 69) hC dL_areRanksRight_69 rfl ?_
      refine a_iconst (pc := 70) hC dL_areRanksRight_70 (v := 4) rfl ?_
      refine a_idiv (pc := 71) hC dL_areRanksRight_71 (by decide) ?_
      refine a_callV (pc := 72) hC hR vm_X9_ranked tw_627 cl_X9 (oX_0 hX) ⟨(Nat.le_of_ble_eq_true rfl), (Nat.le_of_ble_eq_true rfl), (Nat.le_of_ble_eq_true rfl), (Nat.le_of_ble_eq_true rfl)⟩ dL_areRanksRight_72 (t_X9_ranked0 hX hC.tr _ _ _ _ h) rfl rfl rfl (Nat.le_of_ble_eq_true rfl) (fun r5 q6 h => ?_)
      refine a_istore (pc := 75) hC dL_areRanksRight_75 (Nat.le_of_ble_eq_true rfl) ?_
      refine a_aload_n (pc := 77) hC dL_areRanksRight_77 rfl ?_
      refine a_iload_n (pc := 78) hC dL_areRanksRight_78 rfl ?_
      refine a_iconst (pc := 79) hC dL_areRanksRight_79 (v := 4) rfl ?_
      refine a_irem (pc := 80) hC dL_areRanksRight_80 (by decide) ?_
      refine a_iload_n (pc := 81) hC dL_areRanksRight_81 rfl ?_
      refine a_iconst (pc := 82) hC dL_areRanksRight_82 (v := 4) rfl ?_
      refine a_idiv (pc := 83) hC dL_areRanksRight_83 (by decide) ?_
      refine a_iconst (pc := 84) hC dL_areRanksRight_84 (v := 1) rfl ?_
      refine a_iadd (pc := 85) hC dL_areRanksRight_85 ?_
      refine a_callV (pc := 86) hC hR vm_X9_ranked tw_627 cl_X9 (oX_0 hX) ⟨(Nat.le_of_ble_eq_true rfl), (Nat.le_of_ble_eq_true rfl), (Nat.le_of_ble_eq_true rfl), (Nat.le_of_ble_eq_true rfl)⟩ dL_areRanksRight_86 (t_X9_ranked0 hX hC.tr _ _ _ _ h) rfl rfl rfl (Nat.le_of_ble_eq_true rfl) (fun r7 q8 h => ?_)
      refine a_istore (pc := 89) hC dL_areRanksRight_89 (Nat.le_of_ble_eq_true rfl) ?_
      refine a_aload_n (pc := 91) hC dL_areRanksRight_91 rfl ?_
      refine a_iload (pc := 92) hC dL_areRanksRight_92 rfl ?_
      refine a_iload_n (pc := 94) hC dL_areRanksRight_94 rfl ?_
      refine a_iconst (pc := 95) hC dL_areRanksRight_95 (v := 4) rfl ?_
      refine a_irem (pc := 96) hC dL_areRanksRight_96 (by decide) ?_
      refine a_callS (pc := 97) hC hR sm_L_rank tw_1098 ⟨(Nat.le_of_ble_eq_true rfl), (Nat.le_of_ble_eq_true rfl), (Nat.le_of_ble_eq_true rfl), (Nat.le_of_ble_eq_true rfl)⟩ dL_areRanksRight_97 (t_L_rank hX hC.tr _ _ _ _ h) rfl rfl rfl (Nat.le_of_ble_eq_true rfl) (fun r9 q10 h => ?_)
      refine a_aload_n (pc := 100) hC dL_areRanksRight_100 rfl ?_
      refine a_iload (pc := 101) hC dL_areRanksRight_101 rfl ?_
      refine a_iload_n (pc := 103) hC dL_areRanksRight_103 rfl ?_
      refine a_iconst (pc := 104) hC dL_areRanksRight_104 (v := 4) rfl ?_
      refine a_irem (pc := 105) hC dL_areRanksRight_105 (by decide) ?_
      refine a_callS (pc := 106) hC hR sm_L_rank tw_1098 ⟨(Nat.le_of_ble_eq_true rfl), (Nat.le_of_ble_eq_true rfl), (Nat.le_of_ble_eq_true rfl), (Nat.le_of_ble_eq_true rfl)⟩ dL_areRanksRight_106 (t_L_rank hX hC.tr _ _ _ _ h) rfl rfl rfl (Nat.le_of_ble_eq_true rfl) (fun r11 q12 h => ?_)
      refine a_isub (pc := 109) hC dL_areRanksRight_109 ?_
      refine a_istore (pc := 110) hC dL_areRanksRight_110 (Nat.le_of_ble_eq_true rfl) ?_
      replace h := h _ rfl
      refine a_iload_n (pc := 112) hC dL_areRanksRight_112 rfl ?_
      refine a_if_eq (pc := 113) (tgt := 137) hC dL_areRanksRight_113 (by decide) (fun c => ?_) (fun c => ?_)
      · replace h := h.1 c
        refine a_iconst (pc := 137) hC dL_areRanksRight_137 (v := 0) rfl ?_
        refine a_istore_n (pc := 138) hC dL_areRanksRight_138 (Nat.le_of_ble_eq_true rfl) ?_
        refine a_iinc (pc := 139) hC dL_areRanksRight_139 rfl (c := 1) rfl ?_
        replace h := h _ rfl
        refine a_goto (pc := 142) (tgt := 56) hC dL_areRanksRight_142 (by decide) ?_
        exact ((ih _ _ _ h).forget ⟨rfl, rfl, rfl, rfl, trivial⟩)
      · replace h := h.2 c
        refine a_iload (pc := 116) hC dL_areRanksRight_116 rfl ?_
        refine a_if_gt (pc := 118) (tgt := 133) hC dL_areRanksRight_118 (by decide) (fun c => ?_) (fun c => ?_)
        · replace h := h.1 c
          refine a_iconst (pc := 133) hC dL_areRanksRight_133 (v := 1) rfl ?_
          refine a_goto (pc := 134) (tgt := 138) hC dL_areRanksRight_134 (by decide) ?_
          refine a_istore_n (pc := 138) hC dL_areRanksRight_138 (Nat.le_of_ble_eq_true rfl) ?_
          refine a_iinc (pc := 139) hC dL_areRanksRight_139 rfl (c := 1) rfl ?_
          replace h := h _ rfl
          refine a_goto (pc := 142) (tgt := 56) hC dL_areRanksRight_142 (by decide) ?_
          exact ((ih _ _ _ h).forget ⟨rfl, rfl, rfl, rfl, trivial⟩)
        · replace h := h.2 c
          refine a_iload (pc := 121) hC dL_areRanksRight_121 rfl ?_
          refine a_if_ne (pc := 123) (tgt := 137) hC dL_areRanksRight_123 (by decide) (fun c => ?_) (fun c => ?_)
          · replace h := h.1 c
            refine a_iconst (pc := 137) hC dL_areRanksRight_137 (v := 0) rfl ?_
            refine a_istore_n (pc := 138) hC dL_areRanksRight_138 (Nat.le_of_ble_eq_true rfl) ?_
            refine a_iinc (pc := 139) hC dL_areRanksRight_139 rfl (c := 1) rfl ?_
            replace h := h _ rfl
            refine a_goto (pc := 142) (tgt := 56) hC dL_areRanksRight_142 (by decide) ?_
            exact ((ih _ _ _ h).forget ⟨rfl, rfl, rfl, rfl, trivial⟩)
          · replace h := h.2 c
            refine a_iload (pc := 126) hC dL_areRanksRight_126 rfl ?_
            refine a_iload (pc := 128) hC dL_areRanksRight_128 rfl ?_
            refine a_icmp_ge (pc := 130) (tgt := 137) hC dL_areRanksRight_130 (by decide) (fun c => ?_) (fun c => ?_)
            · replace h := h.1 c
              refine a_iconst (pc := 137) hC dL_areRanksRight_137 (v := 0) rfl ?_
              refine a_istore_n (pc := 138) hC dL_areRanksRight_138 (Nat.le_of_ble_eq_true rfl) ?_
              refine a_iinc (pc := 139) hC dL_areRanksRight_139 rfl (c := 1) rfl ?_
              replace h := h _ rfl
              refine a_goto (pc := 142) (tgt := 56) hC dL_areRanksRight_142 (by decide) ?_
              exact ((ih _ _ _ h).forget ⟨rfl, rfl, rfl, rfl, trivial⟩)
            · replace h := h.2 c
              refine a_iconst (pc := 133) hC dL_areRanksRight_133 (v := 1) rfl ?_
              refine a_goto (pc := 134) (tgt := 138) hC dL_areRanksRight_134 (by decide) ?_
              refine a_istore_n (pc := 138) hC dL_areRanksRight_138 (Nat.le_of_ble_eq_true rfl) ?_
              refine a_iinc (pc := 139) hC dL_areRanksRight_139 rfl (c := 1) rfl ?_
              replace h := h _ rfl
              refine a_goto (pc := 142) (tgt := 56) hC dL_areRanksRight_142 (by decide) ?_
              exact ((ih _ _ _ h).forget ⟨rfl, rfl, rfl, rfl, trivial⟩)
set_option maxRecDepth 20000 in
theorem t_L_areRanksRight {l : Launch} {g : aG} (hX : isX g) (hN : isNc g) (hl : l.stackTraces = false) (q : aS) (P : Int32 → aS → Prop) (h : w_L_areRanksRight q P) : aMi l g yL_areRanksRight (aWs yL_areRanksRight cL_areRanksRight 7 (some .boolean)) 13 6 36 [.ref (gAd g 0)] q (fun r u => (r = 0 ∨ r = 1) ∧ P r u) (fun _ _ => False) := by
  refine aMi_of RL ⟨by decide +kernel, rfl⟩ (cat_all rfl) (Nat.le_of_ble_eq_true rfl) hl hX.cl (fun f hR hC hE => ?_)
  show AW f g 0 [some (.ref (gAd g 0)), none, none, none, none, none, none] [] q 0 0
  unfold w_L_areRanksRight at h
  refine a_aload_n (pc := 0) hC dL_areRanksRight_0 rfl ?_
  refine a_iconst (pc := 1) hC dL_areRanksRight_1 (v := 2) rfl ?_
  refine a_callV (pc := 2) hC hR vm_X9_account tw_327 cl_X9 (oX_0 hX) ⟨(Nat.le_of_ble_eq_true rfl), (Nat.le_of_ble_eq_true rfl), (Nat.le_of_ble_eq_true rfl), (Nat.le_of_ble_eq_true rfl)⟩ dL_areRanksRight_2 (t_X9_account0 hX hC.tr _ _ _ h) rfl rfl rfl (Nat.le_of_ble_eq_true rfl) (fun r1 q2 h => ?_)
  refine a_istore_n (pc := 5) hC dL_areRanksRight_5 (Nat.le_of_ble_eq_true rfl) ?_
  refine a_aload_n (pc := 6) hC dL_areRanksRight_6 rfl ?_
  refine a_bipush (pc := 7) hC dL_areRanksRight_7 (v := 9) rfl ?_
  refine a_iconst (pc := 9) hC dL_areRanksRight_9 (v := 4) rfl ?_
  refine a_iconst (pc := 10) hC dL_areRanksRight_10 (v := 0) rfl ?_
  refine a_callSh (pc := 11) hC hR sm_L_ask tw_430 ⟨(Nat.le_of_ble_eq_true rfl), (Nat.le_of_ble_eq_true rfl), (Nat.le_of_ble_eq_true rfl), (Nat.le_of_ble_eq_true rfl)⟩ dL_areRanksRight_11 (t_L_ask hX hN hC.tr _ _ _ _ _ h) rfl rfl rfl (Nat.le_of_ble_eq_true rfl) (fun r3 q4 h => ?_)
  refine a_sipush (pc := 14) hC dL_areRanksRight_14 (v := (-2003)) rfl ?_
  refine a_icmp_ne (pc := 17) (tgt := 52) hC dL_areRanksRight_17 (by decide) (fun c => ?_) (fun c => ?_)
  · replace h := h.1 c
    refine a_iconst (pc := 52) hC dL_areRanksRight_52 (v := 0) rfl ?_
    refine a_istore_n (pc := 53) hC dL_areRanksRight_53 (Nat.le_of_ble_eq_true rfl) ?_
    refine a_iconst (pc := 54) hC dL_areRanksRight_54 (v := 0) rfl ?_
    refine a_istore_n (pc := 55) hC dL_areRanksRight_55 (Nat.le_of_ble_eq_true rfl) ?_
    refine AW.widen (k2 := 6) (n2 := 36) (by decide) (by decide) ?_
    obtain ⟨N, h⟩ := h
    refine (tLL_areRanksRight_56 hX hN P hR hC hE _ (fun y19 q20 h => ?_) N _ _ _ h).forget ⟨rfl, rfl, rfl, rfl, trivial⟩
    refine a_iload_n (pc := 145) hC dL_areRanksRight_145 rfl ?_
    exact a_bret (pc := 146) hC hE h.1 h.2 (Nat.le_of_ble_eq_true rfl) (Nat.le_of_ble_eq_true rfl) dL_areRanksRight_146
  · replace h := h.2 c
    refine a_aload_n (pc := 20) hC dL_areRanksRight_20 rfl ?_
    refine a_bipush (pc := 21) hC dL_areRanksRight_21 (v := 9) rfl ?_
    refine a_iconst (pc := 23) hC dL_areRanksRight_23 (v := (-1)) rfl ?_
    refine a_iconst (pc := 24) hC dL_areRanksRight_24 (v := 0) rfl ?_
    refine a_callSh (pc := 25) hC hR sm_L_ask tw_430 ⟨(Nat.le_of_ble_eq_true rfl), (Nat.le_of_ble_eq_true rfl), (Nat.le_of_ble_eq_true rfl), (Nat.le_of_ble_eq_true rfl)⟩ dL_areRanksRight_25 (t_L_ask hX hN hC.tr _ _ _ _ _ h) rfl rfl rfl (Nat.le_of_ble_eq_true rfl) (fun r22 q23 h => ?_)
    refine a_sipush (pc := 28) hC dL_areRanksRight_28 (v := (-2003)) rfl ?_
    refine a_icmp_ne (pc := 31) (tgt := 52) hC dL_areRanksRight_31 (by decide) (fun c => ?_) (fun c => ?_)
    · replace h := h.1 c
      refine a_iconst (pc := 52) hC dL_areRanksRight_52 (v := 0) rfl ?_
      refine a_istore_n (pc := 53) hC dL_areRanksRight_53 (Nat.le_of_ble_eq_true rfl) ?_
      refine a_iconst (pc := 54) hC dL_areRanksRight_54 (v := 0) rfl ?_
      refine a_istore_n (pc := 55) hC dL_areRanksRight_55 (Nat.le_of_ble_eq_true rfl) ?_
      refine AW.widen (k2 := 6) (n2 := 36) (by decide) (by decide) ?_
      obtain ⟨N, h⟩ := h
      refine (tLL_areRanksRight_56 hX hN P hR hC hE _ (fun y24 q25 h => ?_) N _ _ _ h).forget ⟨rfl, rfl, rfl, rfl, trivial⟩
      refine a_iload_n (pc := 145) hC dL_areRanksRight_145 rfl ?_
      exact a_bret (pc := 146) hC hE h.1 h.2 (Nat.le_of_ble_eq_true rfl) (Nat.le_of_ble_eq_true rfl) dL_areRanksRight_146
    · replace h := h.2 c
      refine a_aload_n (pc := 34) hC dL_areRanksRight_34 rfl ?_
      refine a_bipush (pc := 35) hC dL_areRanksRight_35 (v := 9) rfl ?_
      refine a_iconst (pc := 37) hC dL_areRanksRight_37 (v := 0) rfl ?_
      refine a_iload_n (pc := 38) hC dL_areRanksRight_38 rfl ?_
      refine a_callSh (pc := 39) hC hR sm_L_ask tw_430 ⟨(Nat.le_of_ble_eq_true rfl), (Nat.le_of_ble_eq_true rfl), (Nat.le_of_ble_eq_true rfl), (Nat.le_of_ble_eq_true rfl)⟩ dL_areRanksRight_39 (t_L_ask hX hN hC.tr _ _ _ _ _ h) rfl rfl rfl (Nat.le_of_ble_eq_true rfl) (fun r27 q28 h => ?_)
      refine a_sipush (pc := 42) hC dL_areRanksRight_42 (v := (-2004)) rfl ?_
      refine a_icmp_ne (pc := 45) (tgt := 52) hC dL_areRanksRight_45 (by decide) (fun c => ?_) (fun c => ?_)
      · replace h := h.1 c
        refine a_iconst (pc := 52) hC dL_areRanksRight_52 (v := 0) rfl ?_
        refine a_istore_n (pc := 53) hC dL_areRanksRight_53 (Nat.le_of_ble_eq_true rfl) ?_
        refine a_iconst (pc := 54) hC dL_areRanksRight_54 (v := 0) rfl ?_
        refine a_istore_n (pc := 55) hC dL_areRanksRight_55 (Nat.le_of_ble_eq_true rfl) ?_
        obtain ⟨N, h⟩ := h
        refine (tLL_areRanksRight_56 hX hN P hR hC hE _ (fun y29 q30 h => ?_) N _ _ _ h).forget ⟨rfl, rfl, rfl, rfl, trivial⟩
        refine a_iload_n (pc := 145) hC dL_areRanksRight_145 rfl ?_
        exact a_bret (pc := 146) hC hE h.1 h.2 (Nat.le_of_ble_eq_true rfl) (Nat.le_of_ble_eq_true rfl) dL_areRanksRight_146
      · replace h := h.2 c
        refine a_iconst (pc := 48) hC dL_areRanksRight_48 (v := 1) rfl ?_
        refine a_goto (pc := 49) (tgt := 53) hC dL_areRanksRight_49 (by decide) ?_
        refine a_istore_n (pc := 53) hC dL_areRanksRight_53 (Nat.le_of_ble_eq_true rfl) ?_
        refine a_iconst (pc := 54) hC dL_areRanksRight_54 (v := 0) rfl ?_
        refine a_istore_n (pc := 55) hC dL_areRanksRight_55 (Nat.le_of_ble_eq_true rfl) ?_
        obtain ⟨N, h⟩ := h
        refine (tLL_areRanksRight_56 hX hN P hR hC hE _ (fun y32 q33 h => ?_) N _ _ _ h).forget ⟨rfl, rfl, rfl, rfl, trivial⟩
        refine a_iload_n (pc := 145) hC dL_areRanksRight_145 rfl ?_
        exact a_bret (pc := 146) hC hE h.1 h.2 (Nat.le_of_ble_eq_true rfl) (Nat.le_of_ble_eq_true rfl) dL_areRanksRight_146
