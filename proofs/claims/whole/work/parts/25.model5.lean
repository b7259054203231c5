theorem dX10_kindHere_0 : decode cX10_kindHere 0 = .ok (.aload_n 0, 1) := by decide +kernel
theorem dX10_kindHere_1 : decode cX10_kindHere 1 = .ok (.getfield 217, 3) := by decide +kernel
theorem dX10_kindHere_4 : decode cX10_kindHere 4 = .ok (.istore_n 1, 1) := by decide +kernel
theorem dX10_kindHere_5 : decode cX10_kindHere 5 = .ok (.iconst (-1), 1) := by decide +kernel
theorem dX10_kindHere_6 : decode cX10_kindHere 6 = .ok (.istore_n 2, 1) := by decide +kernel
theorem dX10_kindHere_7 : decode cX10_kindHere 7 = .ok (.iconst 0, 1) := by decide +kernel
theorem dX10_kindHere_8 : decode cX10_kindHere 8 = .ok (.istore_n 3, 1) := by decide +kernel
theorem dX10_kindHere_9 : decode cX10_kindHere 9 = .ok (.iload_n 3, 1) := by decide +kernel
theorem dX10_kindHere_10 : decode cX10_kindHere 10 = .ok (.bipush 10, 2) := by decide +kernel
theorem dX10_kindHere_12 : decode cX10_kindHere 12 = .ok (.if_icmp .ge 109, 3) := by decide +kernel
theorem dX10_kindHere_15 : decode cX10_kindHere 15 = .ok (.iload_n 2, 1) := by decide +kernel
theorem dX10_kindHere_16 : decode cX10_kindHere 16 = .ok (.iconst (-1), 1) := by decide +kernel
theorem dX10_kindHere_17 : decode cX10_kindHere 17 = .ok (.if_icmp .ne 104, 3) := by decide +kernel
theorem dX10_kindHere_20 : decode cX10_kindHere 20 = .ok (.iload_n 3, 1) := by decide +kernel
theorem dX10_kindHere_21 : decode cX10_kindHere 21 = .ok (.iconst 1, 1) := by decide +kernel
theorem dX10_kindHere_22 : decode cX10_kindHere 22 = .ok (.iadd, 1) := by decide +kernel
theorem dX10_kindHere_23 : decode cX10_kindHere 23 = .ok (.invokestatic 235, 3) := by decide +kernel
theorem dX10_kindHere_26 : decode cX10_kindHere 26 = .ok (.iload_n 3, 1) := by decide +kernel
theorem dX10_kindHere_27 : decode cX10_kindHere 27 = .ok (.invokestatic 235, 3) := by decide +kernel
theorem dX10_kindHere_30 : decode cX10_kindHere 30 = .ok (.isub, 1) := by decide +kernel
theorem dX10_kindHere_31 : decode cX10_kindHere 31 = .ok (.istore 4, 2) := by decide +kernel
theorem dX10_kindHere_33 : decode cX10_kindHere 33 = .ok (.iconst 0, 1) := by decide +kernel
theorem dX10_kindHere_34 : decode cX10_kindHere 34 = .ok (.istore 5, 2) := by decide +kernel
theorem dX10_kindHere_36 : decode cX10_kindHere 36 = .ok (.iload 5, 2) := by decide +kernel
theorem dX10_kindHere_38 : decode cX10_kindHere 38 = .ok (.iload 4, 2) := by decide +kernel
theorem dX10_kindHere_40 : decode cX10_kindHere 40 = .ok (.if_icmp .ge 50, 3) := by decide +kernel
theorem dX10_kindHere_43 : decode cX10_kindHere 43 = .ok (.aload_n 0, 1) := by decide +kernel
theorem dX10_kindHere_44 : decode cX10_kindHere 44 = .ok (.getfield 217, 3) := by decide +kernel
theorem dX10_kindHere_47 : decode cX10_kindHere 47 = .ok (.iload 5, 2) := by decide +kernel
theorem dX10_kindHere_49 : decode cX10_kindHere 49 = .ok (.iadd, 1) := by decide +kernel
theorem dX10_kindHere_50 : decode cX10_kindHere 50 = .ok (.aload_n 0, 1) := by decide +kernel
theorem dX10_kindHere_51 : decode cX10_kindHere 51 = .ok (.getfield 220, 3) := by decide +kernel
theorem dX10_kindHere_54 : decode cX10_kindHere 54 = .ok (.if_icmp .ge 36, 3) := by decide +kernel
theorem dX10_kindHere_57 : decode cX10_kindHere 57 = .ok (.aload_n 0, 1) := by decide +kernel
theorem dX10_kindHere_58 : decode cX10_kindHere 58 = .ok (.getfield 26, 3) := by decide +kernel
theorem dX10_kindHere_61 : decode cX10_kindHere 61 = .ok (.aload_n 0, 1) := by decide +kernel
theorem dX10_kindHere_62 : decode cX10_kindHere 62 = .ok (.getfield 217, 3) := by decide +kernel
theorem dX10_kindHere_65 : decode cX10_kindHere 65 = .ok (.iload 5, 2) := by decide +kernel
theorem dX10_kindHere_67 : decode cX10_kindHere 67 = .ok (.iadd, 1) := by decide +kernel
theorem dX10_kindHere_68 : decode cX10_kindHere 68 = .ok (.iaload, 1) := by decide +kernel
theorem dX10_kindHere_69 : decode cX10_kindHere 69 = .ok (.ldc 238, 2) := by decide +kernel
theorem dX10_kindHere_71 : decode cX10_kindHere 71 = .ok (.iload_n 3, 1) := by decide +kernel
theorem dX10_kindHere_72 : decode cX10_kindHere 72 = .ok (.invokestatic 235, 3) := by decide +kernel
theorem dX10_kindHere_75 : decode cX10_kindHere 75 = .ok (.iload 5, 2) := by decide +kernel
theorem dX10_kindHere_77 : decode cX10_kindHere 77 = .ok (.iadd, 1) := by decide +kernel
theorem dX10_kindHere_78 : decode cX10_kindHere 78 = .ok (.invokevirtual 240, 3) := by decide +kernel
theorem dX10_kindHere_81 : decode cX10_kindHere 81 = .ok (.if_icmp .ne 9, 3) := by decide +kernel
theorem dX10_kindHere_84 : decode cX10_kindHere 84 = .ok (.iinc 5 1, 3) := by decide +kernel
theorem dX10_kindHere_87 : decode cX10_kindHere 87 = .ok (.goto (-51), 3) := by decide +kernel
theorem dX10_kindHere_90 : decode cX10_kindHere 90 = .ok (.iload_n 1, 1) := by decide +kernel
theorem dX10_kindHere_91 : decode cX10_kindHere 91 = .ok (.aload_n 0, 1) := by decide +kernel
theorem dX10_kindHere_92 : decode cX10_kindHere 92 = .ok (.getfield 217, 3) := by decide +kernel
theorem dX10_kindHere_95 : decode cX10_kindHere 95 = .ok (.iload 5, 2) := by decide +kernel
theorem dX10_kindHere_97 : decode cX10_kindHere 97 = .ok (.iadd, 1) := by decide +kernel
theorem dX10_kindHere_98 : decode cX10_kindHere 98 = .ok (.invokestatic 100, 3) := by decide +kernel
theorem dX10_kindHere_101 : decode cX10_kindHere 101 = .ok (.istore_n 1, 1) := by decide +kernel
theorem dX10_kindHere_102 : decode cX10_kindHere 102 = .ok (.iload 5, 2) := by decide +kernel
theorem dX10_kindHere_104 : decode cX10_kindHere 104 = .ok (.iload 4, 2) := by decide +kernel
theorem dX10_kindHere_106 : decode cX10_kindHere 106 = .ok (.if_icmp .ne 7, 3) := by decide +kernel
theorem dX10_kindHere_109 : decode cX10_kindHere 109 = .ok (.iload_n 3, 1) := by decide +kernel
theorem dX10_kindHere_110 : decode cX10_kindHere 110 = .ok (.goto 4, 3) := by decide +kernel
theorem dX10_kindHere_113 : decode cX10_kindHere 113 = .ok (.iload_n 2, 1) := by decide +kernel
theorem dX10_kindHere_114 : decode cX10_kindHere 114 = .ok (.istore_n 2, 1) := by decide +kernel
theorem dX10_kindHere_115 : decode cX10_kindHere 115 = .ok (.iinc 3 1, 3) := by decide +kernel
theorem dX10_kindHere_118 : decode cX10_kindHere 118 = .ok (.goto (-109), 3) := by decide +kernel
theorem dX10_kindHere_121 : decode cX10_kindHere 121 = .ok (.aload_n 0, 1) := by decide +kernel
theorem dX10_kindHere_122 : decode cX10_kindHere 122 = .ok (.iload_n 2, 1) := by decide +kernel
theorem dX10_kindHere_123 : decode cX10_kindHere 123 = .ok (.iconst (-1), 1) := by decide +kernel
theorem dX10_kindHere_124 : decode cX10_kindHere 124 = .ok (.if_icmp .ne 7, 3) := by decide +kernel
theorem dX10_kindHere_127 : decode cX10_kindHere 127 = .ok (.iload_n 1, 1) := by decide +kernel
theorem dX10_kindHere_128 : decode cX10_kindHere 128 = .ok (.goto 7, 3) := by decide +kernel
theorem dX10_kindHere_131 : decode cX10_kindHere 131 = .ok (.aload_n 0, 1) := by decide +kernel
theorem dX10_kindHere_132 : decode cX10_kindHere 132 = .ok (.getfield 223, 3) := by decide +kernel
theorem dX10_kindHere_135 : decode cX10_kindHere 135 = .ok (.putfield 223, 3) := by decide +kernel
theorem dX10_kindHere_138 : decode cX10_kindHere 138 = .ok (.aload_n 0, 1) := by decide +kernel
theorem dX10_kindHere_139 : decode cX10_kindHere 139 = .ok (.dup, 1) := by decide +kernel
theorem dX10_kindHere_140 : decode cX10_kindHere 140 = .ok (.getfield 217, 3) := by decide +kernel
theorem dX10_kindHere_143 : decode cX10_kindHere 143 = .ok (.iload_n 2, 1) := by decide +kernel
theorem dX10_kindHere_144 : decode cX10_kindHere 144 = .ok (.iconst (-1), 1) := by decide +kernel
theorem dX10_kindHere_145 : decode cX10_kindHere 145 = .ok (.if_icmp .ne 7, 3) := by decide +kernel
theorem dX10_kindHere_148 : decode cX10_kindHere 148 = .ok (.iconst 0, 1) := by decide +kernel
theorem dX10_kindHere_149 : decode cX10_kindHere 149 = .ok (.goto 14, 3) := by decide +kernel
theorem dX10_kindHere_152 : decode cX10_kindHere 152 = .ok (.iload_n 2, 1) := by decide +kernel
theorem dX10_kindHere_153 : decode cX10_kindHere 153 = .ok (.iconst 1, 1) := by decide +kernel
theorem dX10_kindHere_154 : decode cX10_kindHere 154 = .ok (.iadd, 1) := by decide +kernel
theorem dX10_kindHere_155 : decode cX10_kindHere 155 = .ok (.invokestatic 235, 3) := by decide +kernel
theorem dX10_kindHere_158 : decode cX10_kindHere 158 = .ok (.iload_n 2, 1) := by decide +kernel
theorem dX10_kindHere_159 : decode cX10_kindHere 159 = .ok (.invokestatic 235, 3) := by decide +kernel
theorem dX10_kindHere_162 : decode cX10_kindHere 162 = .ok (.isub, 1) := by decide +kernel
theorem dX10_kindHere_163 : decode cX10_kindHere 163 = .ok (.iadd, 1) := by decide +kernel
theorem dX10_kindHere_164 : decode cX10_kindHere 164 = .ok (.putfield 217, 3) := by decide +kernel
theorem dX10_kindHere_167 : decode cX10_kindHere 167 = .ok (.iload_n 2, 1) := by decide +kernel
theorem dX10_kindHere_168 : decode cX10_kindHere 168 = .ok (.ireturn, 1) := by decide +kernel
theorem vm_X10_kindHere : aVm yX10_kindHere RX10 cX10_kindHere 6 (some .int) 0 := ⟨tw_1923, tw_1922, List.mem_append_left _ (List.mem_of_getElem? (i := 65) (by decide +kernel)), tw_15, rfl, by decide +kernel, by decide +kernel, by decide +kernel⟩
theorem dX10_readsCommand_0 : decode cX10_readsCommand 0 = .ok (.iconst 4, 1) := by decide +kernel
theorem dX10_readsCommand_1 : decode cX10_readsCommand 1 = .ok (.aload_n 0, 1) := by decide +kernel
theorem dX10_readsCommand_2 : decode cX10_readsCommand 2 = .ok (.getfield 246, 3) := by decide +kernel
theorem dX10_readsCommand_5 : decode cX10_readsCommand 5 = .ok (.imul, 1) := by decide +kernel
theorem dX10_readsCommand_6 : decode cX10_readsCommand 6 = .ok (.istore_n 1, 1) := by decide +kernel
theorem dX10_readsCommand_7 : decode cX10_readsCommand 7 = .ok (.aload_n 0, 1) := by decide +kernel
theorem dX10_readsCommand_8 : decode cX10_readsCommand 8 = .ok (.invokevirtual 249, 3) := by decide +kernel
theorem dX10_readsCommand_11 : decode cX10_readsCommand 11 = .ok (.istore_n 2, 1) := by decide +kernel
theorem dX10_readsCommand_12 : decode cX10_readsCommand 12 = .ok (.aload_n 0, 1) := by decide +kernel
theorem dX10_readsCommand_13 : decode cX10_readsCommand 13 = .ok (.getfield 32, 3) := by decide +kernel
theorem dX10_readsCommand_16 : decode cX10_readsCommand 16 = .ok (.iload_n 1, 1) := by decide +kernel
theorem dX10_readsCommand_17 : decode cX10_readsCommand 17 = .ok (.iload_n 2, 1) := by decide +kernel
theorem dX10_readsCommand_18 : decode cX10_readsCommand 18 = .ok (.iastore, 1) := by decide +kernel
theorem dX10_readsCommand_19 : decode cX10_readsCommand 19 = .ok (.aload_n 0, 1) := by decide +kernel
theorem dX10_readsCommand_20 : decode cX10_readsCommand 20 = .ok (.dup, 1) := by decide +kernel
theorem dX10_readsCommand_21 : decode cX10_readsCommand 21 = .ok (.getfield 246, 3) := by decide +kernel
theorem dX10_readsCommand_24 : decode cX10_readsCommand 24 = .ok (.iconst 1, 1) := by decide +kernel
theorem dX10_readsCommand_25 : decode cX10_readsCommand 25 = .ok (.iadd, 1) := by decide +kernel
theorem dX10_readsCommand_26 : decode cX10_readsCommand 26 = .ok (.putfield 246, 3) := by decide +kernel
theorem dX10_readsCommand_29 : decode cX10_readsCommand 29 = .ok (.aload_n 0, 1) := by decide +kernel
theorem dX10_readsCommand_30 : decode cX10_readsCommand 30 = .ok (.getfield 223, 3) := by decide +kernel
theorem dX10_readsCommand_33 : decode cX10_readsCommand 33 = .ok (.iconst (-1), 1) := by decide +kernel
theorem dX10_readsCommand_34 : decode cX10_readsCommand 34 = .ok (.if_icmp .ne 9, 3) := by decide +kernel
theorem dX10_readsCommand_37 : decode cX10_readsCommand 37 = .ok (.iload_n 2, 1) := by decide +kernel
theorem dX10_readsCommand_38 : decode cX10_readsCommand 38 = .ok (.bipush 9, 2) := by decide +kernel
theorem dX10_readsCommand_40 : decode cX10_readsCommand 40 = .ok (.if_icmp .ne 4, 3) := by decide +kernel
theorem dX10_readsCommand_43 : decode cX10_readsCommand 43 = .ok (.return_, 1) := by decide +kernel
theorem dX10_readsCommand_44 : decode cX10_readsCommand 44 = .ok (.aload_n 0, 1) := by decide +kernel
theorem dX10_readsCommand_45 : decode cX10_readsCommand 45 = .ok (.getfield 32, 3) := by decide +kernel
theorem dX10_readsCommand_48 : decode cX10_readsCommand 48 = .ok (.iload_n 1, 1) := by decide +kernel
theorem dX10_readsCommand_49 : decode cX10_readsCommand 49 = .ok (.iconst 1, 1) := by decide +kernel
theorem dX10_readsCommand_50 : decode cX10_readsCommand 50 = .ok (.iadd, 1) := by decide +kernel
theorem dX10_readsCommand_51 : decode cX10_readsCommand 51 = .ok (.aload_n 0, 1) := by decide +kernel
theorem dX10_readsCommand_52 : decode cX10_readsCommand 52 = .ok (.invokevirtual 232, 3) := by decide +kernel
theorem dX10_readsCommand_55 : decode cX10_readsCommand 55 = .ok (.iastore, 1) := by decide +kernel
theorem dX10_readsCommand_56 : decode cX10_readsCommand 56 = .ok (.iload_n 2, 1) := by decide +kernel
theorem dX10_readsCommand_57 : decode cX10_readsCommand 57 = .ok (.ifCond .eq 18, 3) := by decide +kernel
theorem dX10_readsCommand_60 : decode cX10_readsCommand 60 = .ok (.iload_n 2, 1) := by decide +kernel
theorem dX10_readsCommand_61 : decode cX10_readsCommand 61 = .ok (.iconst 4, 1) := by decide +kernel
theorem dX10_readsCommand_62 : decode cX10_readsCommand 62 = .ok (.if_icmp .eq 13, 3) := by decide +kernel
theorem dX10_readsCommand_65 : decode cX10_readsCommand 65 = .ok (.iload_n 2, 1) := by decide +kernel
theorem dX10_readsCommand_66 : decode cX10_readsCommand 66 = .ok (.bipush 8, 2) := by decide +kernel
theorem dX10_readsCommand_68 : decode cX10_readsCommand 68 = .ok (.if_icmp .eq 7, 3) := by decide +kernel
theorem dX10_readsCommand_71 : decode cX10_readsCommand 71 = .ok (.iconst 1, 1) := by decide +kernel
theorem dX10_readsCommand_72 : decode cX10_readsCommand 72 = .ok (.goto 4, 3) := by decide +kernel
theorem dX10_readsCommand_75 : decode cX10_readsCommand 75 = .ok (.iconst 0, 1) := by decide +kernel
theorem dX10_readsCommand_76 : decode cX10_readsCommand 76 = .ok (.istore_n 3, 1) := by decide +kernel
theorem dX10_readsCommand_77 : decode cX10_readsCommand 77 = .ok (.aload_n 0, 1) := by decide +kernel
theorem dX10_readsCommand_78 : decode cX10_readsCommand 78 = .ok (.getfield 32, 3) := by decide +kernel
theorem dX10_readsCommand_81 : decode cX10_readsCommand 81 = .ok (.iload_n 1, 1) := by decide +kernel
theorem dX10_readsCommand_82 : decode cX10_readsCommand 82 = .ok (.iconst 2, 1) := by decide +kernel
theorem dX10_readsCommand_83 : decode cX10_readsCommand 83 = .ok (.iadd, 1) := by decide +kernel
theorem dX10_readsCommand_84 : decode cX10_readsCommand 84 = .ok (.iload_n 3, 1) := by decide +kernel
theorem dX10_readsCommand_85 : decode cX10_readsCommand 85 = .ok (.ifCond .eq 10, 3) := by decide +kernel
theorem dX10_readsCommand_88 : decode cX10_readsCommand 88 = .ok (.aload_n 0, 1) := by decide +kernel
theorem dX10_readsCommand_89 : decode cX10_readsCommand 89 = .ok (.invokevirtual 252, 3) := by decide +kernel
theorem dX10_readsCommand_92 : decode cX10_readsCommand 92 = .ok (.goto 4, 3) := by decide +kernel
theorem dX10_readsCommand_95 : decode cX10_readsCommand 95 = .ok (.iconst 0, 1) := by decide +kernel
theorem dX10_readsCommand_96 : decode cX10_readsCommand 96 = .ok (.iastore, 1) := by decide +kernel
theorem dX10_readsCommand_97 : decode cX10_readsCommand 97 = .ok (.iload_n 2, 1) := by decide +kernel
theorem dX10_readsCommand_98 : decode cX10_readsCommand 98 = .ok (.iconst 2, 1) := by decide +kernel
theorem dX10_readsCommand_99 : decode cX10_readsCommand 99 = .ok (.if_icmp .ne 49, 3) := by decide +kernel
theorem dX10_readsCommand_102 : decode cX10_readsCommand 102 = .ok (.aload_n 0, 1) := by decide +kernel
theorem dX10_readsCommand_103 : decode cX10_readsCommand 103 = .ok (.getfield 223, 3) := by decide +kernel
theorem dX10_readsCommand_106 : decode cX10_readsCommand 106 = .ok (.iconst (-1), 1) := by decide +kernel
theorem dX10_readsCommand_107 : decode cX10_readsCommand 107 = .ok (.if_icmp .ne 41, 3) := by decide +kernel
theorem dX10_readsCommand_110 : decode cX10_readsCommand 110 = .ok (.aload_n 0, 1) := by decide +kernel
theorem dX10_readsCommand_111 : decode cX10_readsCommand 111 = .ok (.invokevirtual 226, 3) := by decide +kernel
theorem dX10_readsCommand_114 : decode cX10_readsCommand 114 = .ok (.bipush 48, 2) := by decide +kernel
theorem dX10_readsCommand_116 : decode cX10_readsCommand 116 = .ok (.bipush 57, 2) := by decide +kernel
theorem dX10_readsCommand_118 : decode cX10_readsCommand 118 = .ok (.invokestatic 70, 3) := by decide +kernel
theorem dX10_readsCommand_121 : decode cX10_readsCommand 121 = .ok (.ifCond .eq 27, 3) := by decide +kernel
theorem dX10_readsCommand_124 : decode cX10_readsCommand 124 = .ok (.aload_n 0, 1) := by decide +kernel
theorem dX10_readsCommand_125 : decode cX10_readsCommand 125 = .ok (.getfield 32, 3) := by decide +kernel
theorem dX10_readsCommand_128 : decode cX10_readsCommand 128 = .ok (.iload_n 1, 1) := by decide +kernel
theorem dX10_readsCommand_129 : decode cX10_readsCommand 129 = .ok (.iconst 2, 1) := by decide +kernel
theorem dX10_readsCommand_130 : decode cX10_readsCommand 130 = .ok (.iadd, 1) := by decide +kernel
theorem dX10_readsCommand_131 : decode cX10_readsCommand 131 = .ok (.bipush 10, 2) := by decide +kernel
theorem dX10_readsCommand_133 : decode cX10_readsCommand 133 = .ok (.aload_n 0, 1) := by decide +kernel
theorem dX10_readsCommand_134 : decode cX10_readsCommand 134 = .ok (.getfield 32, 3) := by decide +kernel
theorem dX10_readsCommand_137 : decode cX10_readsCommand 137 = .ok (.iload_n 1, 1) := by decide +kernel
theorem dX10_readsCommand_138 : decode cX10_readsCommand 138 = .ok (.iconst 2, 1) := by decide +kernel
theorem dX10_readsCommand_139 : decode cX10_readsCommand 139 = .ok (.iadd, 1) := by decide +kernel
theorem dX10_readsCommand_140 : decode cX10_readsCommand 140 = .ok (.iaload, 1) := by decide +kernel
theorem dX10_readsCommand_141 : decode cX10_readsCommand 141 = .ok (.imul, 1) := by decide +kernel
theorem dX10_readsCommand_142 : decode cX10_readsCommand 142 = .ok (.aload_n 0, 1) := by decide +kernel
theorem dX10_readsCommand_143 : decode cX10_readsCommand 143 = .ok (.invokevirtual 232, 3) := by decide +kernel
theorem dX10_readsCommand_146 : decode cX10_readsCommand 146 = .ok (.iadd, 1) := by decide +kernel
theorem dX10_readsCommand_147 : decode cX10_readsCommand 147 = .ok (.iastore, 1) := by decide +kernel
theorem dX10_readsCommand_148 : decode cX10_readsCommand 148 = .ok (.aload_n 0, 1) := by decide +kernel
theorem dX10_readsCommand_149 : decode cX10_readsCommand 149 = .ok (.getfield 32, 3) := by decide +kernel
theorem dX10_readsCommand_152 : decode cX10_readsCommand 152 = .ok (.iload_n 1, 1) := by decide +kernel
theorem dX10_readsCommand_153 : decode cX10_readsCommand 153 = .ok (.iconst 3, 1) := by decide +kernel
theorem dX10_readsCommand_154 : decode cX10_readsCommand 154 = .ok (.iadd, 1) := by decide +kernel
theorem dX10_readsCommand_155 : decode cX10_readsCommand 155 = .ok (.iload_n 2, 1) := by decide +kernel
theorem dX10_readsCommand_156 : decode cX10_readsCommand 156 = .ok (.bipush 6, 2) := by decide +kernel
theorem dX10_readsCommand_158 : decode cX10_readsCommand 158 = .ok (.if_icmp .ne 10, 3) := by decide +kernel
theorem dX10_readsCommand_161 : decode cX10_readsCommand 161 = .ok (.aload_n 0, 1) := by decide +kernel
theorem dX10_readsCommand_162 : decode cX10_readsCommand 162 = .ok (.invokevirtual 252, 3) := by decide +kernel
theorem dX10_readsCommand_165 : decode cX10_readsCommand 165 = .ok (.goto 4, 3) := by decide +kernel
theorem dX10_readsCommand_168 : decode cX10_readsCommand 168 = .ok (.iconst 0, 1) := by decide +kernel
theorem dX10_readsCommand_169 : decode cX10_readsCommand 169 = .ok (.iastore, 1) := by decide +kernel
theorem dX10_readsCommand_170 : decode cX10_readsCommand 170 = .ok (.return_, 1) := by decide +kernel
theorem vm_X10_readsCommand : aVm yX10_readsCommand RX10 cX10_readsCommand 4 none 0 := ⟨tw_1919, tw_1918, List.mem_append_left _ (List.mem_of_getElem? (i := 64) (by decide +kernel)), tw_15, rfl, by decide +kernel, by decide +kernel, by decide +kernel⟩
theorem dX10_readsAll_0 : decode cX10_readsAll 0 = .ok (.aload_n 0, 1) := by decide +kernel
theorem dX10_readsAll_1 : decode cX10_readsAll 1 = .ok (.aload_n 0, 1) := by decide +kernel
theorem dX10_readsAll_2 : decode cX10_readsAll 2 = .ok (.getfield 214, 3) := by decide +kernel
theorem dX10_readsAll_5 : decode cX10_readsAll 5 = .ok (.putfield 220, 3) := by decide +kernel
theorem dX10_readsAll_8 : decode cX10_readsAll 8 = .ok (.aload_n 0, 1) := by decide +kernel
theorem dX10_readsAll_9 : decode cX10_readsAll 9 = .ok (.iconst 0, 1) := by decide +kernel
theorem dX10_readsAll_10 : decode cX10_readsAll 10 = .ok (.putfield 214, 3) := by decide +kernel
theorem dX10_readsAll_13 : decode cX10_readsAll 13 = .ok (.aload_n 0, 1) := by decide +kernel
theorem dX10_readsAll_14 : decode cX10_readsAll 14 = .ok (.iconst 0, 1) := by decide +kernel
theorem dX10_readsAll_15 : decode cX10_readsAll 15 = .ok (.putfield 217, 3) := by decide +kernel
theorem dX10_readsAll_18 : decode cX10_readsAll 18 = .ok (.aload_n 0, 1) := by decide +kernel
theorem dX10_readsAll_19 : decode cX10_readsAll 19 = .ok (.iconst (-1), 1) := by decide +kernel
theorem dX10_readsAll_20 : decode cX10_readsAll 20 = .ok (.putfield 223, 3) := by decide +kernel
theorem dX10_readsAll_23 : decode cX10_readsAll 23 = .ok (.aload_n 0, 1) := by decide +kernel
theorem dX10_readsAll_24 : decode cX10_readsAll 24 = .ok (.iconst 0, 1) := by decide +kernel
theorem dX10_readsAll_25 : decode cX10_readsAll 25 = .ok (.putfield 246, 3) := by decide +kernel
theorem dX10_readsAll_28 : decode cX10_readsAll 28 = .ok (.aload_n 0, 1) := by decide +kernel
theorem dX10_readsAll_29 : decode cX10_readsAll 29 = .ok (.invokevirtual 255, 3) := by decide +kernel
theorem dX10_readsAll_32 : decode cX10_readsAll 32 = .ok (.aload_n 0, 1) := by decide +kernel
theorem dX10_readsAll_33 : decode cX10_readsAll 33 = .ok (.getfield 223, 3) := by decide +kernel
theorem dX10_readsAll_36 : decode cX10_readsAll 36 = .ok (.iconst (-1), 1) := by decide +kernel
theorem dX10_readsAll_37 : decode cX10_readsAll 37 = .ok (.if_icmp .ne 38, 3) := by decide +kernel
theorem dX10_readsAll_40 : decode cX10_readsAll 40 = .ok (.aload_n 0, 1) := by decide +kernel
theorem dX10_readsAll_41 : decode cX10_readsAll 41 = .ok (.getfield 217, 3) := by decide +kernel
theorem dX10_readsAll_44 : decode cX10_readsAll 44 = .ok (.aload_n 0, 1) := by decide +kernel
theorem dX10_readsAll_45 : decode cX10_readsAll 45 = .ok (.getfield 220, 3) := by decide +kernel
theorem dX10_readsAll_48 : decode cX10_readsAll 48 = .ok (.if_icmp .ge 27, 3) := by decide +kernel
theorem dX10_readsAll_51 : decode cX10_readsAll 51 = .ok (.aload_n 0, 1) := by decide +kernel
theorem dX10_readsAll_52 : decode cX10_readsAll 52 = .ok (.bipush 59, 2) := by decide +kernel
theorem dX10_readsAll_54 : decode cX10_readsAll 54 = .ok (.bipush 59, 2) := by decide +kernel
theorem dX10_readsAll_56 : decode cX10_readsAll 56 = .ok (.invokevirtual 229, 3) := by decide +kernel
theorem dX10_readsAll_59 : decode cX10_readsAll 59 = .ok (.istore_n 1, 1) := by decide +kernel
theorem dX10_readsAll_60 : decode cX10_readsAll 60 = .ok (.aload_n 0, 1) := by decide +kernel
theorem dX10_readsAll_61 : decode cX10_readsAll 61 = .ok (.getfield 223, 3) := by decide +kernel
theorem dX10_readsAll_64 : decode cX10_readsAll 64 = .ok (.iconst (-1), 1) := by decide +kernel
theorem dX10_readsAll_65 : decode cX10_readsAll 65 = .ok (.if_icmp .ne 7, 3) := by decide +kernel
theorem dX10_readsAll_68 : decode cX10_readsAll 68 = .ok (.aload_n 0, 1) := by decide +kernel
theorem dX10_readsAll_69 : decode cX10_readsAll 69 = .ok (.invokevirtual 255, 3) := by decide +kernel
theorem dX10_readsAll_72 : decode cX10_readsAll 72 = .ok (.goto (-40), 3) := by decide +kernel
theorem dX10_readsAll_75 : decode cX10_readsAll 75 = .ok (.return_, 1) := by decide +kernel
theorem vm_X10_readsAll : aVm yX10_readsAll RX10 cX10_readsAll 2 none 0 := ⟨tw_1915, tw_1914, List.mem_append_left _ (List.mem_of_getElem? (i := 63) (by decide +kernel)), tw_15, rfl, by decide +kernel, by decide +kernel, by decide +kernel⟩
theorem dX10_does_0 : decode cX10_does 0 = .ok (.aload_n 0, 1) := by decide +kernel
theorem dX10_does_1 : decode cX10_does 1 = .ok (.getfield 32, 3) := by decide +kernel
theorem dX10_does_4 : decode cX10_does 4 = .ok (.iload_n 1, 1) := by decide +kernel
theorem dX10_does_5 : decode cX10_does 5 = .ok (.iconst 1, 1) := by decide +kernel
theorem dX10_does_6 : decode cX10_does 6 = .ok (.iadd, 1) := by decide +kernel
theorem dX10_does_7 : decode cX10_does 7 = .ok (.iaload, 1) := by decide +kernel
theorem dX10_does_8 : decode cX10_does 8 = .ok (.istore_n 2, 1) := by decide +kernel
theorem dX10_does_9 : decode cX10_does 9 = .ok (.aload_n 0, 1) := by decide +kernel
theorem dX10_does_10 : decode cX10_does 10 = .ok (.getfield 32, 3) := by decide +kernel
theorem dX10_does_13 : decode cX10_does 13 = .ok (.iload_n 1, 1) := by decide +kernel
theorem dX10_does_14 : decode cX10_does 14 = .ok (.iconst 2, 1) := by decide +kernel
theorem dX10_does_15 : decode cX10_does 15 = .ok (.iadd, 1) := by decide +kernel
theorem dX10_does_16 : decode cX10_does 16 = .ok (.iaload, 1) := by decide +kernel
theorem dX10_does_17 : decode cX10_does 17 = .ok (.istore_n 3, 1) := by decide +kernel
theorem dX10_does_18 : decode cX10_does 18 = .ok (.aload_n 0, 1) := by decide +kernel
theorem dX10_does_19 : decode cX10_does 19 = .ok (.getfield 32, 3) := by decide +kernel
theorem dX10_does_22 : decode cX10_does 22 = .ok (.iload_n 1, 1) := by decide +kernel
theorem dX10_does_23 : decode cX10_does 23 = .ok (.iaload, 1) := by decide +kernel
theorem dX10_does_24 : decode cX10_does 24 = .ok (.tableswitch 120 0 8 #[52, 58, 65, 72, 79, 85, 92, 107, 114], 52) := by decide +kernel
theorem dX10_does_76 : decode cX10_does 76 = .ok (.aload_n 0, 1) := by decide +kernel
theorem dX10_does_77 : decode cX10_does 77 = .ok (.iload_n 2, 1) := by decide +kernel
theorem dX10_does_78 : decode cX10_does 78 = .ok (.invokevirtual 113, 3) := by decide +kernel
theorem dX10_does_81 : decode cX10_does 81 = .ok (.ireturn, 1) := by decide +kernel
theorem dX10_does_82 : decode cX10_does 82 = .ok (.aload_n 0, 1) := by decide +kernel
theorem dX10_does_83 : decode cX10_does 83 = .ok (.iload_n 2, 1) := by decide +kernel
theorem dX10_does_84 : decode cX10_does 84 = .ok (.iload_n 3, 1) := by decide +kernel
theorem dX10_does_85 : decode cX10_does 85 = .ok (.invokevirtual 123, 3) := by decide +kernel
theorem dX10_does_88 : decode cX10_does 88 = .ok (.ireturn, 1) := by decide +kernel
theorem dX10_does_89 : decode cX10_does 89 = .ok (.aload_n 0, 1) := by decide +kernel
theorem dX10_does_90 : decode cX10_does 90 = .ok (.iload_n 2, 1) := by decide +kernel
theorem dX10_does_91 : decode cX10_does 91 = .ok (.iload_n 3, 1) := by decide +kernel
theorem dX10_does_92 : decode cX10_does 92 = .ok (.invokevirtual 126, 3) := by decide +kernel
theorem dX10_does_95 : decode cX10_does 95 = .ok (.ireturn, 1) := by decide +kernel
theorem dX10_does_96 : decode cX10_does 96 = .ok (.aload_n 0, 1) := by decide +kernel
theorem dX10_does_97 : decode cX10_does 97 = .ok (.iload_n 2, 1) := by decide +kernel
theorem dX10_does_98 : decode cX10_does 98 = .ok (.iload_n 3, 1) := by decide +kernel
theorem dX10_does_99 : decode cX10_does 99 = .ok (.invokevirtual 139, 3) := by decide +kernel
theorem dX10_does_102 : decode cX10_does 102 = .ok (.ireturn, 1) := by decide +kernel
theorem dX10_does_103 : decode cX10_does 103 = .ok (.aload_n 0, 1) := by decide +kernel
theorem dX10_does_104 : decode cX10_does 104 = .ok (.iload_n 2, 1) := by decide +kernel
theorem dX10_does_105 : decode cX10_does 105 = .ok (.invokevirtual 142, 3) := by decide +kernel
theorem dX10_does_108 : decode cX10_does 108 = .ok (.ireturn, 1) := by decide +kernel
theorem dX10_does_109 : decode cX10_does 109 = .ok (.aload_n 0, 1) := by decide +kernel
theorem dX10_does_110 : decode cX10_does 110 = .ok (.iload_n 2, 1) := by decide +kernel
theorem dX10_does_111 : decode cX10_does 111 = .ok (.iload_n 3, 1) := by decide +kernel
theorem dX10_does_112 : decode cX10_does 112 = .ok (.invokevirtual 148, 3) := by decide +kernel
theorem dX10_does_115 : decode cX10_does 115 = .ok (.ireturn, 1) := by decide +kernel
theorem dX10_does_116 : decode cX10_does 116 = .ok (.aload_n 0, 1) := by decide +kernel
theorem dX10_does_117 : decode cX10_does 117 = .ok (.iload_n 2, 1) := by decide +kernel
theorem dX10_does_118 : decode cX10_does 118 = .ok (.iload_n 3, 1) := by decide +kernel
theorem dX10_does_119 : decode cX10_does 119 = .ok (.aload_n 0, 1) := by decide +kernel
theorem dX10_does_120 : decode cX10_does 120 = .ok (.getfield 32, 3) := by decide +kernel
theorem dX10_does_123 : decode cX10_does 123 = .ok (.iload_n 1, 1) := by decide +kernel
theorem dX10_does_124 : decode cX10_does 124 = .ok (.iconst 3, 1) := by decide +kernel
theorem dX10_does_125 : decode cX10_does 125 = .ok (.iadd, 1) := by decide +kernel
theorem dX10_does_126 : decode cX10_does 126 = .ok (.iaload, 1) := by decide +kernel
theorem dX10_does_127 : decode cX10_does 127 = .ok (.invokevirtual 154, 3) := by decide +kernel
theorem dX10_does_130 : decode cX10_does 130 = .ok (.ireturn, 1) := by decide +kernel
theorem dX10_does_131 : decode cX10_does 131 = .ok (.aload_n 0, 1) := by decide +kernel
theorem dX10_does_132 : decode cX10_does 132 = .ok (.iload_n 2, 1) := by decide +kernel
theorem dX10_does_133 : decode cX10_does 133 = .ok (.iload_n 3, 1) := by decide +kernel
theorem dX10_does_134 : decode cX10_does 134 = .ok (.invokevirtual 167, 3) := by decide +kernel
theorem dX10_does_137 : decode cX10_does 137 = .ok (.ireturn, 1) := by decide +kernel
theorem dX10_does_138 : decode cX10_does 138 = .ok (.aload_n 0, 1) := by decide +kernel
theorem dX10_does_139 : decode cX10_does 139 = .ok (.iload_n 2, 1) := by decide +kernel
theorem dX10_does_140 : decode cX10_does 140 = .ok (.invokevirtual 170, 3) := by decide +kernel
theorem dX10_does_143 : decode cX10_does 143 = .ok (.ireturn, 1) := by decide +kernel
theorem dX10_does_144 : decode cX10_does 144 = .ok (.aload_n 0, 1) := by decide +kernel
theorem dX10_does_145 : decode cX10_does 145 = .ok (.invokevirtual 173, 3) := by decide +kernel
theorem dX10_does_148 : decode cX10_does 148 = .ok (.ireturn, 1) := by decide +kernel
theorem vm_X10_does : aVm yX10_does RX10 cX10_does 4 (some .int) 1 := ⟨tw_1948, tw_1947, List.mem_append_left _ (List.mem_of_getElem? (i := 70) (by decide +kernel)), tw_15, rfl, by decide +kernel, by decide +kernel, by decide +kernel⟩
theorem dX10_run_0 : decode cX10_run 0 = .ok (.aload_n 0, 1) := by decide +kernel
theorem dX10_run_1 : decode cX10_run 1 = .ok (.invokevirtual 258, 3) := by decide +kernel
theorem dX10_run_4 : decode cX10_run 4 = .ok (.aload_n 0, 1) := by decide +kernel
theorem dX10_run_5 : decode cX10_run 5 = .ok (.aload_n 0, 1) := by decide +kernel
theorem dX10_run_6 : decode cX10_run 6 = .ok (.getfield 223, 3) := by decide +kernel
theorem dX10_run_9 : decode cX10_run 9 = .ok (.putfield 22, 3) := by decide +kernel
theorem dX10_run_12 : decode cX10_run 12 = .ok (.aload_n 0, 1) := by decide +kernel
theorem dX10_run_13 : decode cX10_run 13 = .ok (.aload_n 0, 1) := by decide +kernel
theorem dX10_run_14 : decode cX10_run 14 = .ok (.getfield 223, 3) := by decide +kernel
theorem dX10_run_17 : decode cX10_run 17 = .ok (.iconst (-1), 1) := by decide +kernel
theorem dX10_run_18 : decode cX10_run 18 = .ok (.if_icmp .ne 7, 3) := by decide +kernel
theorem dX10_run_21 : decode cX10_run 21 = .ok (.iconst 0, 1) := by decide +kernel
theorem dX10_run_22 : decode cX10_run 22 = .ok (.goto 4, 3) := by decide +kernel
theorem dX10_run_25 : decode cX10_run 25 = .ok (.iconst 1, 1) := by decide +kernel
theorem dX10_run_26 : decode cX10_run 26 = .ok (.putfield 35, 3) := by decide +kernel
theorem dX10_run_29 : decode cX10_run 29 = .ok (.aload_n 0, 1) := by decide +kernel
theorem dX10_run_30 : decode cX10_run 30 = .ok (.getfield 223, 3) := by decide +kernel
theorem dX10_run_33 : decode cX10_run 33 = .ok (.iconst (-1), 1) := by decide +kernel
theorem dX10_run_34 : decode cX10_run 34 = .ok (.if_icmp .eq 5, 3) := by decide +kernel
theorem dX10_run_37 : decode cX10_run 37 = .ok (.iconst 0, 1) := by decide +kernel
theorem dX10_run_38 : decode cX10_run 38 = .ok (.ireturn, 1) := by decide +kernel
theorem dX10_run_39 : decode cX10_run 39 = .ok (.aload_n 0, 1) := by decide +kernel
theorem dX10_run_40 : decode cX10_run 40 = .ok (.invokevirtual 110, 3) := by decide +kernel
theorem dX10_run_43 : decode cX10_run 43 = .ok (.iconst 0, 1) := by decide +kernel
theorem dX10_run_44 : decode cX10_run 44 = .ok (.istore_n 1, 1) := by decide +kernel
theorem dX10_run_45 : decode cX10_run 45 = .ok (.iload_n 1, 1) := by decide +kernel
theorem dX10_run_46 : decode cX10_run 46 = .ok (.aload_n 0, 1) := by decide +kernel
theorem dX10_run_47 : decode cX10_run 47 = .ok (.getfield 246, 3) := by decide +kernel
theorem dX10_run_50 : decode cX10_run 50 = .ok (.if_icmp .ge 41, 3) := by decide +kernel
theorem dX10_run_53 : decode cX10_run 53 = .ok (.aload_n 0, 1) := by decide +kernel
theorem dX10_run_54 : decode cX10_run 54 = .ok (.iconst 4, 1) := by decide +kernel
theorem dX10_run_55 : decode cX10_run 55 = .ok (.iload_n 1, 1) := by decide +kernel
theorem dX10_run_56 : decode cX10_run 56 = .ok (.imul, 1) := by decide +kernel
theorem dX10_run_57 : decode cX10_run 57 = .ok (.invokevirtual 261, 3) := by decide +kernel
theorem dX10_run_60 : decode cX10_run 60 = .ok (.istore_n 2, 1) := by decide +kernel
theorem dX10_run_61 : decode cX10_run 61 = .ok (.aload_n 0, 1) := by decide +kernel
theorem dX10_run_62 : decode cX10_run 62 = .ok (.getfield 38, 3) := by decide +kernel
theorem dX10_run_65 : decode cX10_run 65 = .ok (.ifCond .eq 20, 3) := by decide +kernel
theorem dX10_run_68 : decode cX10_run 68 = .ok (.aload_n 0, 1) := by decide +kernel
theorem dX10_run_69 : decode cX10_run 69 = .ok (.bipush 12, 2) := by decide +kernel
theorem dX10_run_71 : decode cX10_run 71 = .ok (.iload_n 1, 1) := by decide +kernel
theorem dX10_run_72 : decode cX10_run 72 = .ok (.aload_n 0, 1) := by decide +kernel
theorem dX10_run_73 : decode cX10_run 73 = .ok (.getfield 38, 3) := by decide +kernel
theorem dX10_run_76 : decode cX10_run 76 = .ok (.aload_n 0, 1) := by decide +kernel
theorem dX10_run_77 : decode cX10_run 77 = .ok (.getfield 41, 3) := by decide +kernel
theorem dX10_run_80 : decode cX10_run 80 = .ok (.iconst 2, 1) := by decide +kernel
theorem dX10_run_81 : decode cX10_run 81 = .ok (.invokevirtual 63, 3) := by decide +kernel
theorem dX10_run_84 : decode cX10_run 84 = .ok (.ireturn, 1) := by decide +kernel
theorem dX10_run_85 : decode cX10_run 85 = .ok (.iinc 1 1, 3) := by decide +kernel
theorem dX10_run_88 : decode cX10_run 88 = .ok (.goto (-43), 3) := by decide +kernel
theorem dX10_run_91 : decode cX10_run 91 = .ok (.aload_n 0, 1) := by decide +kernel
theorem dX10_run_92 : decode cX10_run 92 = .ok (.aload_n 0, 1) := by decide +kernel
theorem dX10_run_93 : decode cX10_run 93 = .ok (.getfield 246, 3) := by decide +kernel
theorem dX10_run_96 : decode cX10_run 96 = .ok (.invokevirtual 116, 3) := by decide +kernel
theorem dX10_run_99 : decode cX10_run 99 = .ok (.ireturn, 1) := by decide +kernel
theorem vm_X10_run : aVm yX10_run RX10 cX10_run 3 (some .int) 0 := ⟨tw_1911, tw_1909, tw_1910, tw_15, rfl, by decide +kernel, by decide +kernel, by decide +kernel⟩
def LX10_kindHere_36 (c1 : Int32) (c2 : Int32) (c3 : Int32) (c4 : Int32) (P : Int32 → aS → Prop) (K : Int32 → aS → Prop) : Nat → Int32 → aS → Prop
  | 0, _, _ => False
  | N + 1, v5, q => ((c4 ≤ v5 → K v5 q) ∧ (¬ c4 ≤ v5 → (((q.1 0 18) ≤ ((q.1 0 19) + v5) → K v5 q) ∧ (¬ (q.1 0 18) ≤ ((q.1 0 19) + v5) → (vp_in ((q.1 0 19) + v5) 60 ∧ w_X10_startOf c3 q (fun r7 q8 => (vp_in (r7 + v5) (sLen.getD 10 0) ∧ ((¬ (q.1 5 (Int32.toNatClampNeg ((q.1 0 19) + v5))) = (sChr 10 (Int32.toNatClampNeg (r7 + v5))) → K v5 q8) ∧ ((q.1 5 (Int32.toNatClampNeg ((q.1 0 19) + v5))) = (sChr 10 (Int32.toNatClampNeg (r7 + v5))) → ∀ x9 : Int32, x9 = v5 + 1 → (LX10_kindHere_36 c1 c2 c3 c4 P K N) x9 q8)))))))))
def LX10_kindHere_9 (P : Int32 → aS → Prop) (K : Int32 → Int32 → aS → Prop) : Nat → Int32 → Int32 → Int32 → aS → Prop
  | 0, _, _, _, _ => False
  | N + 1, v1, v2, v3, q => ((10 ≤ v3 → K v1 v2 q) ∧ (¬ 10 ≤ v3 → ((¬ v2 = (-1) → K v1 v2 q) ∧ (v2 = (-1) → w_X10_startOf (v3 + 1) q (fun r2 q3 => w_X10_startOf v3 q3 (fun r4 q5 => ∀ x6 : Int32, x6 = (r2 - r4) → ∃ M15, LX10_kindHere_36 v1 v2 v3 x6 P (fun y10 q11 => ∀ x12 : Int32, x12 = (if v1 < ((q11.1 0 19) + y10) then ((q11.1 0 19) + y10) else v1) → ((¬ y10 = x6 → ∀ x13 : Int32, x13 = v3 + 1 → (LX10_kindHere_9 P K N) x12 v2 x13 q11) ∧ (y10 = x6 → ∀ x14 : Int32, x14 = v3 + 1 → (LX10_kindHere_9 P K N) x12 v3 x14 q11))) M15 0 q5))))))
def JX10_kindHere_135 (j2 : Int32) (s0 : Int32) (P : Int32 → aS → Prop) (q : aS) : Prop := ∀ q19 : aS, q19 = (up2 q.1 0 20 s0, q.2) → ((¬ j2 = (-1) → w_X10_startOf (j2 + 1) q19 (fun r20 q21 => w_X10_startOf j2 q21 (fun r22 q23 => ∀ q24 : aS, q24 = (up2 q23.1 0 19 ((q19.1 0 19) + (r20 - r22)), q23.2) → P j2 q24))) ∧ (j2 = (-1) → ∀ q25 : aS, q25 = (up2 q19.1 0 19 ((q19.1 0 19) + 0), q19.2) → P j2 q25))
def w_X10_kindHere (q : aS) (P : Int32 → aS → Prop) : Prop := ∀ x1 : Int32, x1 = (q.1 0 19) → ∃ M26, LX10_kindHere_9 P (fun y16 y17 q18 => ((¬ y17 = (-1) → JX10_kindHere_135 y17 (q18.1 0 20) P q18) ∧ (y17 = (-1) → JX10_kindHere_135 y17 y16 P q18))) M26 x1 (-1) 0 q
def JX10_readsCommand_148 (j1 : Int32) (j2 : Int32) (P : Int32 → aS → Prop) (q : aS) : Prop := ((¬ j2 = 6 → (vp_in (j1 + 3) 120 ∧ ∀ q10 : aS, q10 = (up2 q.1 7 (Int32.toNatClampNeg (j1 + 3)) 0, q.2) → P 0 q10)) ∧ (j2 = 6 → w_X10_behind q (fun r11 q12 => (vp_in (j1 + 3) 120 ∧ ∀ q13 : aS, q13 = (up2 q12.1 7 (Int32.toNatClampNeg (j1 + 3)) r11, q12.2) → P 0 q13))))
def JX10_readsCommand_96 (j1 : Int32) (j2 : Int32) (s0 : Int32) (s1 : Int32) (P : Int32 → aS → Prop) (q : aS) : Prop := (vp_in s1 120 ∧ ∀ q9 : aS, q9 = (up2 q.1 7 (Int32.toNatClampNeg s1) s0, q.2) → ((¬ j2 = 2 → JX10_readsCommand_148 j1 j2 P q9) ∧ (j2 = 2 → ((¬ (q9.1 0 20) = (-1) → JX10_readsCommand_148 j1 j2 P q9) ∧ ((q9.1 0 20) = (-1) → w_X10_letterHere q9 (fun r14 q15 => w_X10_isIn r14 48 57 q15 (fun r16 q17 => ((r16 = 0 → JX10_readsCommand_148 j1 j2 P q17) ∧ (¬ r16 = 0 → (vp_in (j1 + 2) 120 ∧ w_X10_digit q17 (fun r18 q19 => (vp_in (j1 + 2) 120 ∧ ∀ q20 : aS, q20 = (up2 q19.1 7 (Int32.toNatClampNeg (j1 + 2)) ((10 * (q17.1 7 (Int32.toNatClampNeg (j1 + 2)))) + r18), q19.2) → JX10_readsCommand_148 j1 j2 P q20))))))))))))
def JX10_readsCommand_76 (j1 : Int32) (j2 : Int32) (s0 : Int32) (P : Int32 → aS → Prop) (q : aS) : Prop := ((s0 = 0 → JX10_readsCommand_96 j1 j2 0 (j1 + 2) P q) ∧ (¬ s0 = 0 → w_X10_behind q (fun r21 q22 => JX10_readsCommand_96 j1 j2 r21 (j1 + 2) P q22)))
def JX10_readsCommand_75 (j1 : Int32) (j2 : Int32) (P : Int32 → aS → Prop) (q : aS) : Prop := JX10_readsCommand_76 j1 j2 0 P q
def w_X10_readsCommand (q : aS) (P : Int32 → aS → Prop) : Prop := ∀ x1 : Int32, x1 = (4 * (q.1 0 21)) → w_X10_kindHere q (fun r2 q3 => (vp_in x1 120 ∧ ∀ q4 : aS, q4 = (up2 q3.1 7 (Int32.toNatClampNeg x1) r2, q3.2) → ∀ q5 : aS, q5 = (up2 q4.1 0 21 ((q4.1 0 21) + 1), q4.2) → ((¬ (q5.1 0 20) = (-1) → P 0 q5) ∧ ((q5.1 0 20) = (-1) → ((¬ r2 = 9 → w_X10_digit q5 (fun r6 q7 => (vp_in (x1 + 1) 120 ∧ ∀ q8 : aS, q8 = (up2 q7.1 7 (Int32.toNatClampNeg (x1 + 1)) r6, q7.2) → ((r2 = 0 → JX10_readsCommand_75 x1 r2 P q8) ∧ (¬ r2 = 0 → ((r2 = 4 → JX10_readsCommand_75 x1 r2 P q8) ∧ (¬ r2 = 4 → ((r2 = 8 → JX10_readsCommand_75 x1 r2 P q8) ∧ (¬ r2 = 8 → JX10_readsCommand_76 x1 r2 1 P q8))))))))) ∧ (r2 = 9 → P 0 q5))))))
def LX10_readsAll_32 (P : Int32 → aS → Prop) (K : aS → Prop) : Nat → aS → Prop
  | 0, _ => False
  | N + 1, q => ((¬ (q.1 0 20) = (-1) → K  q) ∧ ((q.1 0 20) = (-1) → (((q.1 0 18) ≤ (q.1 0 19) → K  q) ∧ (¬ (q.1 0 18) ≤ (q.1 0 19) → w_X10_reads 59 59 q (fun r8 q9 => ((¬ (q9.1 0 20) = (-1) → (LX10_readsAll_32 P K N)  q9) ∧ ((q9.1 0 20) = (-1) → w_X10_readsCommand q9 (fun _ q11 => (LX10_readsAll_32 P K N)  q11))))))))
def w_X10_readsAll (q : aS) (P : Int32 → aS → Prop) : Prop := ∀ q1 : aS, q1 = (up2 q.1 0 18 (q.1 0 12), q.2) → ∀ q2 : aS, q2 = (up2 q1.1 0 12 0, q1.2) → ∀ q3 : aS, q3 = (up2 q2.1 0 19 0, q2.2) → ∀ q4 : aS, q4 = (up2 q3.1 0 20 (-1), q3.2) → ∀ q5 : aS, q5 = (up2 q4.1 0 21 0, q4.2) → w_X10_readsCommand q5 (fun _ q7 => ∃ M13, LX10_readsAll_32 P (fun q12 => P 0 q12) M13  q7)
def w_X10_does (x1 : Int32) (q : aS) (P : Int32 → aS → Prop) : Prop := (vp_in (x1 + 1) 120 ∧ ∀ x2 : Int32, x2 = (q.1 7 (Int32.toNatClampNeg (x1 + 1))) → (vp_in (x1 + 2) 120 ∧ ∀ x3 : Int32, x3 = (q.1 7 (Int32.toNatClampNeg (x1 + 2))) → (vp_in x1 120 ∧ (((q.1 7 (Int32.toNatClampNeg x1)) = 0 → w_X10_opens x2 q (fun r4 q5 => P r4 q5)) ∧ (¬ (q.1 7 (Int32.toNatClampNeg x1)) = 0 → (((q.1 7 (Int32.toNatClampNeg x1)) = 1 → w_X10_sounds x2 x3 q (fun r6 q7 => P r6 q7)) ∧ (¬ (q.1 7 (Int32.toNatClampNeg x1)) = 1 → (((q.1 7 (Int32.toNatClampNeg x1)) = 2 → w_X10_arrives x2 x3 q (fun r8 q9 => P r8 q9)) ∧ (¬ (q.1 7 (Int32.toNatClampNeg x1)) = 2 → (((q.1 7 (Int32.toNatClampNeg x1)) = 3 → w_X10_comesIn x2 x3 q (fun r10 q11 => P r10 q11)) ∧ (¬ (q.1 7 (Int32.toNatClampNeg x1)) = 3 → (((q.1 7 (Int32.toNatClampNeg x1)) = 4 → w_X10_goesOut x2 q (fun r12 q13 => P r12 q13)) ∧ (¬ (q.1 7 (Int32.toNatClampNeg x1)) = 4 → (((q.1 7 (Int32.toNatClampNeg x1)) = 5 → w_X10_carries x2 x3 q (fun r14 q15 => P r14 q15)) ∧ (¬ (q.1 7 (Int32.toNatClampNeg x1)) = 5 → (((q.1 7 (Int32.toNatClampNeg x1)) = 6 → (vp_in (x1 + 3) 120 ∧ w_X10_rents x2 x3 (q.1 7 (Int32.toNatClampNeg (x1 + 3))) q (fun r16 q17 => P r16 q17))) ∧ (¬ (q.1 7 (Int32.toNatClampNeg x1)) = 6 → (((q.1 7 (Int32.toNatClampNeg x1)) = 7 → w_X10_gives x2 x3 q (fun r18 q19 => P r18 q19)) ∧ (¬ (q.1 7 (Int32.toNatClampNeg x1)) = 7 → (((q.1 7 (Int32.toNatClampNeg x1)) = 8 → w_X10_sings x2 q (fun r20 q21 => P r20 q21)) ∧ (¬ (q.1 7 (Int32.toNatClampNeg x1)) = 8 → w_X10_passes q (fun r22 q23 => P r22 q23))))))))))))))))))))))
def LX10_run_45 (P : Int32 → aS → Prop) (K : aS → Prop) : Nat → Int32 → aS → Prop
  | 0, _, _ => False
  | N + 1, v1, q => (((q.1 0 21) ≤ v1 → K  q) ∧ (¬ (q.1 0 21) ≤ v1 → w_X10_does (4 * v1) q (fun r7 q8 => (((q8.1 0 16) = 0 → ∀ x9 : Int32, x9 = v1 + 1 → (LX10_run_45 P K N) x9 q8) ∧ (¬ (q8.1 0 16) = 0 → w_X10_refuses 12 v1 (q8.1 0 16) (q8.1 0 17) 2 q8 (fun r10 q11 => P r10 q11))))))
def JX10_run_26 (s0 : Int32) (P : Int32 → aS → Prop) (q : aS) : Prop := ∀ q4 : aS, q4 = (up2 q.1 0 15 s0, q.2) → (((q4.1 0 20) = (-1) → w_X10_begins q4 (fun _ q6 => ∃ M15, LX10_run_45 P (fun q12 => w_X10_ends (q12.1 0 21) q12 (fun r13 q14 => P r13 q14)) M15 0 q6)) ∧ (¬ (q4.1 0 20) = (-1) → P 0 q4))
def w_X10_run (q : aS) (P : Int32 → aS → Prop) : Prop := w_X10_readsAll q (fun _ q2 => ∀ q3 : aS, q3 = (up2 q2.1 0 10 (q2.1 0 20), q2.2) → ((¬ (q3.1 0 20) = (-1) → JX10_run_26 1 P q3) ∧ ((q3.1 0 20) = (-1) → JX10_run_26 0 P q3)))
set_option maxRecDepth 20000 in
theorem tLX10_kindHere_36 {f : aF} {g : aG} (hX : isM g) (P : Int32 → aS → Prop) (hR : f_R f = aR 4 0 0) (hC : aOK f g cX10_kindHere 6 RX10) (hE : aEi f g .int P (fun _ _ => False) 0 0) (c1 : Int32) (c2 : Int32) (c3 : Int32) (c4 : Int32) {K : Int32 → aS → Prop} (hK : ∀ (w5 : Int32) (q : aS), K w5 q → AW f g 90 [some (.ref (gAd g 0)), some (.int c1), some (.int c2), some (.int c3), some (.int c4), some (.int w5)] [] q 0 0) : ∀ (N : Nat) (v5 : Int32) (q : aS), LX10_kindHere_36 c1 c2 c3 c4 P K N v5 q → AW f g 36 [some (.ref (gAd g 0)), some (.int c1), some (.int c2), some (.int c3), some (.int c4), some (.int v5)] [] q 0 0 := by
  intro N
  induction N with
  | zero =>
    intro v5 q h
    exact h.elim
  | succ N ih =>
    intro v5 q h
    unfold LX10_kindHere_36 at h
    refine a_iload (pc := 36) hC dX10_kindHere_36 rfl ?_
    refine a_iload (pc := 38) hC dX10_kindHere_38 rfl ?_
    refine a_icmp_ge (pc := 40) (tgt := 90) hC dX10_kindHere_40 (by decide) (fun c => ?_) (fun c => ?_)
    · replace h := h.1 c
      exact (hK _ _ h).forget ⟨rfl, rfl, rfl, rfl, rfl, rfl, trivial⟩
    · replace h := h.2 c
      refine a_aload_n (pc := 43) hC dX10_kindHere_43 rfl ?_
      refine a_get (pc := 44) hC cl_X10 (oM_0 hX) 19 (by decide) tw_1523 rfl dX10_kindHere_44 ?_
      refine a_iload (pc := 47) hC dX10_kindHere_47 rfl ?_
      refine a_iadd (pc := 49) hC dX10_kindHere_49 ?_
      refine a_aload_n (pc := 50) hC dX10_kindHere_50 rfl ?_
      refine a_get (pc := 51) hC cl_X10 (oM_0 hX) 18 (by decide) tw_1522 rfl dX10_kindHere_51 ?_
      refine a_icmp_ge (pc := 54) (tgt := 90) hC dX10_kindHere_54 (by decide) (fun c => ?_) (fun c => ?_)
      · replace h := h.1 c
        exact (hK _ _ h).forget ⟨rfl, rfl, rfl, rfl, rfl, rfl, trivial⟩
      · replace h := h.2 c
        refine a_aload_n (pc := 57) hC dX10_kindHere_57 rfl ?_
        refine a_get (pc := 58) hC cl_X10 (oM_0 hX) 11 (by decide) tw_1515 rfl dX10_kindHere_58 ?_
        refine a_aload_n (pc := 61) hC dX10_kindHere_61 rfl ?_
        refine a_get (pc := 62) hC cl_X10 (oM_0 hX) 19 (by decide) tw_1523 rfl dX10_kindHere_62 ?_
        refine a_iload (pc := 65) hC dX10_kindHere_65 rfl ?_
        refine a_iadd (pc := 67) hC dX10_kindHere_67 ?_
        refine a_iald (pc := 68) hC (oM_5 hX) h.1 dX10_kindHere_68 ?_
        replace h := h.2
        refine a_ldcM (pc := 69) hX hC dX10_kindHere_69 ?_
        refine a_iload_n (pc := 71) hC dX10_kindHere_71 rfl ?_
        refine a_callS (pc := 72) hC hR sm_X10_startOf tw_1924 ⟨(Nat.le_of_ble_eq_true rfl), (Nat.le_of_ble_eq_true rfl), (Nat.le_of_ble_eq_true rfl), (Nat.le_of_ble_eq_true rfl)⟩ dX10_kindHere_72 (t_X10_startOf hX hC.tr _ _ _ h) rfl rfl rfl (Nat.le_of_ble_eq_true rfl) (fun r7 q8 h => ?_)
        refine a_iload (pc := 75) hC dX10_kindHere_75 rfl ?_
        refine a_iadd (pc := 77) hC dX10_kindHere_77 ?_
        refine a_strchr (pc := 78) hX.toS hC hR (by decide) tw_1928 rfl ⟨(Nat.le_of_ble_eq_true rfl), (Nat.le_of_ble_eq_true rfl), (Nat.le_of_ble_eq_true rfl)⟩ (Nat.le_of_ble_eq_true rfl) h.1 dX10_kindHere_78 ?_
        replace h := h.2
        refine a_icmp_ne (pc := 81) (tgt := 90) hC dX10_kindHere_81 (by decide) (fun c => ?_) (fun c => ?_)
        · replace h := h.1 c
          exact (hK _ _ h).forget ⟨rfl, rfl, rfl, rfl, rfl, rfl, trivial⟩
        · replace h := h.2 c
          refine a_iinc (pc := 84) hC dX10_kindHere_84 rfl (c := 1) rfl ?_
          replace h := h _ rfl
          refine a_goto (pc := 87) (tgt := 36) hC dX10_kindHere_87 (by decide) ?_
          exact (ih _ _ h).forget ⟨rfl, rfl, rfl, rfl, rfl, rfl, trivial⟩
set_option maxRecDepth 20000 in
theorem tLX10_kindHere_9 {f : aF} {g : aG} (hX : isM g) (P : Int32 → aS → Prop) (hR : f_R f = aR 4 0 0) (hC : aOK f g cX10_kindHere 6 RX10) (hE : aEi f g .int P (fun _ _ => False) 0 0) {K : Int32 → Int32 → aS → Prop} (hK : ∀ (w1 : Int32) (w2 : Int32) (q : aS), K w1 w2 q → AW f g 121 [some (.ref (gAd g 0)), some (.int w1), some (.int w2), none, none, none] [] q 0 0) : ∀ (N : Nat) (v1 : Int32) (v2 : Int32) (v3 : Int32) (q : aS), LX10_kindHere_9 P K N v1 v2 v3 q → AW f g 9 [some (.ref (gAd g 0)), some (.int v1), some (.int v2), some (.int v3), none, none] [] q 0 0 := by
  intro N
  induction N with
  | zero =>
    intro v1 v2 v3 q h
    exact h.elim
  | succ N ih =>
    intro v1 v2 v3 q h
    unfold LX10_kindHere_9 at h
    refine a_iload_n (pc := 9) hC dX10_kindHere_9 rfl ?_
    refine a_bipush (pc := 10) hC dX10_kindHere_10 (v := 10) rfl ?_
    refine a_icmp_ge (pc := 12) (tgt := 121) hC dX10_kindHere_12 (by decide) (fun c => ?_) (fun c => ?_)
    · replace h := h.1 c
      exact (hK _ _ _ h).forget ⟨rfl, rfl, rfl, trivial⟩
    · replace h := h.2 c
      refine a_iload_n (pc := 15) hC dX10_kindHere_15 rfl ?_
      refine a_iconst (pc := 16) hC dX10_kindHere_16 (v := (-1)) rfl ?_
      refine a_icmp_ne (pc := 17) (tgt := 121) hC dX10_kindHere_17 (by decide) (fun c => ?_) (fun c => ?_)
      · replace h := h.1 c
        exact (hK _ _ _ h).forget ⟨rfl, rfl, rfl, trivial⟩
      · replace h := h.2 c
        refine a_iload_n (pc := 20) hC dX10_kindHere_20 rfl ?_
        refine a_iconst (pc := 21) hC dX10_kindHere_21 (v := 1) rfl ?_
        refine a_iadd (pc := 22) hC dX10_kindHere_22 ?_
        refine a_callS (pc := 23) hC hR sm_X10_startOf tw_1924 ⟨(Nat.le_of_ble_eq_true rfl), (Nat.le_of_ble_eq_true rfl), (Nat.le_of_ble_eq_true rfl), (Nat.le_of_ble_eq_true rfl)⟩ dX10_kindHere_23 (t_X10_startOf hX hC.tr _ _ _ h) rfl rfl rfl (Nat.le_of_ble_eq_true rfl) (fun r2 q3 h => ?_)
        refine a_iload_n (pc := 26) hC dX10_kindHere_26 rfl ?_
        refine a_callS (pc := 27) hC hR sm_X10_startOf tw_1924 ⟨(Nat.le_of_ble_eq_true rfl), (Nat.le_of_ble_eq_true rfl), (Nat.le_of_ble_eq_true rfl), (Nat.le_of_ble_eq_true rfl)⟩ dX10_kindHere_27 (t_X10_startOf hX hC.tr _ _ _ h) rfl rfl rfl (Nat.le_of_ble_eq_true rfl) (fun r4 q5 h => ?_)
        refine a_isub (pc := 30) hC dX10_kindHere_30 ?_
        refine a_istore (pc := 31) hC dX10_kindHere_31 (Nat.le_of_ble_eq_true rfl) ?_
        replace h := h _ rfl
        refine a_iconst (pc := 33) hC dX10_kindHere_33 (v := 0) rfl ?_
        refine a_istore (pc := 34) hC dX10_kindHere_34 (Nat.le_of_ble_eq_true rfl) ?_
        obtain ⟨N, h⟩ := h
        refine (tLX10_kindHere_36 hX P hR hC hE _ _ _ _ (fun y10 q11 h => ?_) N _ _ h).forget ⟨rfl, rfl, rfl, rfl, rfl, rfl, trivial⟩
        refine a_iload_n (pc := 90) hC dX10_kindHere_90 rfl ?_
        refine a_aload_n (pc := 91) hC dX10_kindHere_91 rfl ?_
        refine a_get (pc := 92) hC cl_X10 (oM_0 hX) 19 (by decide) tw_1523 rfl dX10_kindHere_92 ?_
        refine a_iload (pc := 95) hC dX10_kindHere_95 rfl ?_
        refine a_iadd (pc := 97) hC dX10_kindHere_97 ?_
        refine a_mmax (pc := 98) hC hR ⟨(Nat.le_of_ble_eq_true rfl), (Nat.le_of_ble_eq_true rfl), (Nat.le_of_ble_eq_true rfl)⟩ rfl tw_1727 tw_368 tw_24 tw_369 (Nat.le_of_ble_eq_true rfl) dX10_kindHere_98 ?_
        refine a_istore_n (pc := 101) hC dX10_kindHere_101 (Nat.le_of_ble_eq_true rfl) ?_
        replace h := h _ rfl
        refine a_iload (pc := 102) hC dX10_kindHere_102 rfl ?_
        refine a_iload (pc := 104) hC dX10_kindHere_104 rfl ?_
        refine a_icmp_ne (pc := 106) (tgt := 113) hC dX10_kindHere_106 (by decide) (fun c => ?_) (fun c => ?_)
        · replace h := h.1 c
          refine a_iload_n (pc := 113) hC dX10_kindHere_113 rfl ?_
          refine a_istore_n (pc := 114) hC dX10_kindHere_114 (Nat.le_of_ble_eq_true rfl) ?_
          refine a_iinc (pc := 115) hC dX10_kindHere_115 rfl (c := 1) rfl ?_
          replace h := h _ rfl
          refine a_goto (pc := 118) (tgt := 9) hC dX10_kindHere_118 (by decide) ?_
          exact (ih _ _ _ _ h).forget ⟨rfl, rfl, rfl, rfl, trivial⟩
        · replace h := h.2 c
          refine a_iload_n (pc := 109) hC dX10_kindHere_109 rfl ?_
          refine a_goto (pc := 110) (tgt := 114) hC dX10_kindHere_110 (by decide) ?_
          refine a_istore_n (pc := 114) hC dX10_kindHere_114 (Nat.le_of_ble_eq_true rfl) ?_
          refine a_iinc (pc := 115) hC dX10_kindHere_115 rfl (c := 1) rfl ?_
          replace h := h _ rfl
          refine a_goto (pc := 118) (tgt := 9) hC dX10_kindHere_118 (by decide) ?_
          exact (ih _ _ _ _ h).forget ⟨rfl, rfl, rfl, rfl, trivial⟩
set_option maxRecDepth 20000 in
theorem tJX10_kindHere_135 {f : aF} {g : aG} (hX : isM g) (P : Int32 → aS → Prop) (hR : f_R f = aR 4 0 0) (hC : aOK f g cX10_kindHere 6 RX10) (hE : aEi f g .int P (fun _ _ => False) 0 0) (j2 : Int32) (s0 : Int32) (q : aS) (h : JX10_kindHere_135 j2 s0 P q) : AW f g 135 [some (.ref (gAd g 0)), none, some (.int j2), none, none, none] [.int s0, .ref (gAd g 0)] q 0 0 := by
  unfold JX10_kindHere_135 at h
  refine a_put (pc := 135) hC cl_X10 (oM_0 hX) 20 (by decide) tw_1524 tyX10 tyX10_ok rfl rfl rfl (Nat.le_of_ble_eq_true rfl) rfl dX10_kindHere_135 ?_
  replace h := h _ rfl
  refine a_aload_n (pc := 138) hC dX10_kindHere_138 rfl ?_
  refine a_dup (pc := 139) hC dX10_kindHere_139 rfl ?_
  refine a_get (pc := 140) hC cl_X10 (oM_0 hX) 19 (by decide) tw_1523 rfl dX10_kindHere_140 ?_
  refine a_iload_n (pc := 143) hC dX10_kindHere_143 rfl ?_
  refine a_iconst (pc := 144) hC dX10_kindHere_144 (v := (-1)) rfl ?_
  refine a_icmp_ne (pc := 145) (tgt := 152) hC dX10_kindHere_145 (by decide) (fun c => ?_) (fun c => ?_)
  · replace h := h.1 c
    refine a_iload_n (pc := 152) hC dX10_kindHere_152 rfl ?_
    refine a_iconst (pc := 153) hC dX10_kindHere_153 (v := 1) rfl ?_
    refine a_iadd (pc := 154) hC dX10_kindHere_154 ?_
    refine a_callS (pc := 155) hC hR sm_X10_startOf tw_1924 ⟨(Nat.le_of_ble_eq_true rfl), (Nat.le_of_ble_eq_true rfl), (Nat.le_of_ble_eq_true rfl), (Nat.le_of_ble_eq_true rfl)⟩ dX10_kindHere_155 (t_X10_startOf hX hC.tr _ _ _ h) rfl rfl rfl (Nat.le_of_ble_eq_true rfl) (fun r20 q21 h => ?_)
    refine a_iload_n (pc := 158) hC dX10_kindHere_158 rfl ?_
    refine a_callS (pc := 159) hC hR sm_X10_startOf tw_1924 ⟨(Nat.le_of_ble_eq_true rfl), (Nat.le_of_ble_eq_true rfl), (Nat.le_of_ble_eq_true rfl), (Nat.le_of_ble_eq_true rfl)⟩ dX10_kindHere_159 (t_X10_startOf hX hC.tr _ _ _ h) rfl rfl rfl (Nat.le_of_ble_eq_true rfl) (fun r22 q23 h => ?_)
    refine a_isub (pc := 162) hC dX10_kindHere_162 ?_
    refine a_iadd (pc := 163) hC dX10_kindHere_163 ?_
    refine a_put (pc := 164) hC cl_X10 (oM_0 hX) 19 (by decide) tw_1523 tyX10 tyX10_ok rfl rfl rfl (Nat.le_of_ble_eq_true rfl) rfl dX10_kindHere_164 ?_
    replace h := h _ rfl
    refine a_iload_n (pc := 167) hC dX10_kindHere_167 rfl ?_
    exact a_iret (pc := 168) hC hE h (Nat.le_of_ble_eq_true rfl) (Nat.le_of_ble_eq_true rfl) dX10_kindHere_168
  · replace h := h.2 c
    refine a_iconst (pc := 148) hC dX10_kindHere_148 (v := 0) rfl ?_
    refine a_goto (pc := 149) (tgt := 163) hC dX10_kindHere_149 (by decide) ?_
    refine a_iadd (pc := 163) hC dX10_kindHere_163 ?_
    refine a_put (pc := 164) hC cl_X10 (oM_0 hX) 19 (by decide) tw_1523 tyX10 tyX10_ok rfl rfl rfl (Nat.le_of_ble_eq_true rfl) rfl dX10_kindHere_164 ?_
    replace h := h _ rfl
    refine a_iload_n (pc := 167) hC dX10_kindHere_167 rfl ?_
    exact a_iret (pc := 168) hC hE h (Nat.le_of_ble_eq_true rfl) (Nat.le_of_ble_eq_true rfl) dX10_kindHere_168
set_option maxRecDepth 20000 in
theorem t_X10_kindHere {l : Launch} {g : aG} (hX : isM g) (hl : l.stackTraces = false) (q : aS) (P : Int32 → aS → Prop) (h : w_X10_kindHere q P) : aMi l g yX10_kindHere (aWs yX10_kindHere cX10_kindHere 6 (some .int)) 4 0 0 [.ref (gAd g 0)] q P (fun _ _ => False) := by
  refine aMi_of RX10 ⟨by decide +kernel, rfl⟩ (cat_all rfl) (Nat.le_of_ble_eq_true rfl) hl hX.cl (fun f hR hC hE => ?_)
  show AW f g 0 [some (.ref (gAd g 0)), none, none, none, none, none] [] q 0 0
  unfold w_X10_kindHere at h
  refine a_aload_n (pc := 0) hC dX10_kindHere_0 rfl ?_
  refine a_get (pc := 1) hC cl_X10 (oM_0 hX) 19 (by decide) tw_1523 rfl dX10_kindHere_1 ?_
  refine a_istore_n (pc := 4) hC dX10_kindHere_4 (Nat.le_of_ble_eq_true rfl) ?_
  replace h := h _ rfl
  refine a_iconst (pc := 5) hC dX10_kindHere_5 (v := (-1)) rfl ?_
  refine a_istore_n (pc := 6) hC dX10_kindHere_6 (Nat.le_of_ble_eq_true rfl) ?_
  refine a_iconst (pc := 7) hC dX10_kindHere_7 (v := 0) rfl ?_
  refine a_istore_n (pc := 8) hC dX10_kindHere_8 (Nat.le_of_ble_eq_true rfl) ?_
  obtain ⟨N, h⟩ := h
  refine (tLX10_kindHere_9 hX P hR hC hE (fun y16 y17 q18 h => ?_) N _ _ _ _ h).forget ⟨rfl, rfl, rfl, rfl, trivial⟩
  refine a_aload_n (pc := 121) hC dX10_kindHere_121 rfl ?_
  refine a_iload_n (pc := 122) hC dX10_kindHere_122 rfl ?_
  refine a_iconst (pc := 123) hC dX10_kindHere_123 (v := (-1)) rfl ?_
  refine a_icmp_ne (pc := 124) (tgt := 131) hC dX10_kindHere_124 (by decide) (fun c => ?_) (fun c => ?_)
  · replace h := h.1 c
    refine a_aload_n (pc := 131) hC dX10_kindHere_131 rfl ?_
    refine a_get (pc := 132) hC cl_X10 (oM_0 hX) 20 (by decide) tw_1524 rfl dX10_kindHere_132 ?_
    exact (tJX10_kindHere_135 hX P hR hC hE _ _ _ h).forget ⟨rfl, rfl, trivial⟩
  · replace h := h.2 c
    refine a_iload_n (pc := 127) hC dX10_kindHere_127 rfl ?_
    refine a_goto (pc := 128) (tgt := 135) hC dX10_kindHere_128 (by decide) ?_
    exact (tJX10_kindHere_135 hX P hR hC hE _ _ _ h).forget ⟨rfl, rfl, trivial⟩
set_option maxRecDepth 20000 in
theorem tJX10_readsCommand_148 {f : aF} {g : aG} (hX : isM g) (P : Int32 → aS → Prop) (hR : f_R f = aR 5 0 0) (hC : aOK f g cX10_readsCommand 4 RX10) (hE : aEv f g P (fun _ _ => False) 0 0) (j1 : Int32) (j2 : Int32) (q : aS) (h : JX10_readsCommand_148 j1 j2 P q) : AW f g 148 [some (.ref (gAd g 0)), some (.int j1), some (.int j2), none] [] q 0 0 := by
  unfold JX10_readsCommand_148 at h
  refine a_aload_n (pc := 148) hC dX10_readsCommand_148 rfl ?_
  refine a_get (pc := 149) hC cl_X10 (oM_0 hX) 22 (by decide) tw_1526 rfl dX10_readsCommand_149 ?_
  refine a_iload_n (pc := 152) hC dX10_readsCommand_152 rfl ?_
  refine a_iconst (pc := 153) hC dX10_readsCommand_153 (v := 3) rfl ?_
  refine a_iadd (pc := 154) hC dX10_readsCommand_154 ?_
  refine a_iload_n (pc := 155) hC dX10_readsCommand_155 rfl ?_
  refine a_bipush (pc := 156) hC dX10_readsCommand_156 (v := 6) rfl ?_
  refine a_icmp_ne (pc := 158) (tgt := 168) hC dX10_readsCommand_158 (by decide) (fun c => ?_) (fun c => ?_)
  · replace h := h.1 c
    refine a_iconst (pc := 168) hC dX10_readsCommand_168 (v := 0) rfl ?_
    refine a_iast (pc := 169) hC (oM_7 hX) h.1 dX10_readsCommand_169 ?_
    replace h := h.2
    replace h := h _ rfl
    exact a_vret (pc := 170) hC hE h (Nat.le_of_ble_eq_true rfl) (Nat.le_of_ble_eq_true rfl) dX10_readsCommand_170
  · replace h := h.2 c
    refine a_aload_n (pc := 161) hC dX10_readsCommand_161 rfl ?_
    refine a_callV (pc := 162) hC hR vm_X10_behind tw_1941 cl_X10 (oM_0 hX) ⟨(Nat.le_of_ble_eq_true rfl), (Nat.le_of_ble_eq_true rfl), (Nat.le_of_ble_eq_true rfl), (Nat.le_of_ble_eq_true rfl)⟩ dX10_readsCommand_162 (t_X10_behind hX hC.tr _ _ h) rfl rfl rfl (Nat.le_of_ble_eq_true rfl) (fun r11 q12 h => ?_)
    refine a_goto (pc := 165) (tgt := 169) hC dX10_readsCommand_165 (by decide) ?_
    refine a_iast (pc := 169) hC (oM_7 hX) h.1 dX10_readsCommand_169 ?_
    replace h := h.2
    replace h := h _ rfl
    exact a_vret (pc := 170) hC hE h (Nat.le_of_ble_eq_true rfl) (Nat.le_of_ble_eq_true rfl) dX10_readsCommand_170
set_option maxRecDepth 20000 in
theorem tJX10_readsCommand_96 {f : aF} {g : aG} (hX : isM g) (P : Int32 → aS → Prop) (hR : f_R f = aR 5 0 0) (hC : aOK f g cX10_readsCommand 4 RX10) (hE : aEv f g P (fun _ _ => False) 0 0) (j1 : Int32) (j2 : Int32) (s0 : Int32) (s1 : Int32) (q : aS) (h : JX10_readsCommand_96 j1 j2 s0 s1 P q) : AW f g 96 [some (.ref (gAd g 0)), some (.int j1), some (.int j2), none] [.int s0, .int s1, .ref (gAd g 7)] q 0 0 := by
  unfold JX10_readsCommand_96 at h
  refine a_iast (pc := 96) hC (oM_7 hX) h.1 dX10_readsCommand_96 ?_
  replace h := h.2
  replace h := h _ rfl
  refine a_iload_n (pc := 97) hC dX10_readsCommand_97 rfl ?_
  refine a_iconst (pc := 98) hC dX10_readsCommand_98 (v := 2) rfl ?_
  refine a_icmp_ne (pc := 99) (tgt := 148) hC dX10_readsCommand_99 (by decide) (fun c => ?_) (fun c => ?_)
  · replace h := h.1 c
    exact (tJX10_readsCommand_148 hX P hR hC hE _ _ _ h).forget ⟨rfl, rfl, rfl, trivial⟩
  · replace h := h.2 c
    refine a_aload_n (pc := 102) hC dX10_readsCommand_102 rfl ?_
    refine a_get (pc := 103) hC cl_X10 (oM_0 hX) 20 (by decide) tw_1524 rfl dX10_readsCommand_103 ?_
    refine a_iconst (pc := 106) hC dX10_readsCommand_106 (v := (-1)) rfl ?_
    refine a_icmp_ne (pc := 107) (tgt := 148) hC dX10_readsCommand_107 (by decide) (fun c => ?_) (fun c => ?_)
    · replace h := h.1 c
      exact (tJX10_readsCommand_148 hX P hR hC hE _ _ _ h).forget ⟨rfl, rfl, rfl, trivial⟩
    · replace h := h.2 c
      refine a_aload_n (pc := 110) hC dX10_readsCommand_110 rfl ?_
      refine a_callV (pc := 111) hC hR vm_X10_letterHere tw_1937 cl_X10 (oM_0 hX) ⟨(Nat.le_of_ble_eq_true rfl), (Nat.le_of_ble_eq_true rfl), (Nat.le_of_ble_eq_true rfl), (Nat.le_of_ble_eq_true rfl)⟩ dX10_readsCommand_111 (t_X10_letterHere hX hC.tr _ _ h) rfl rfl rfl (Nat.le_of_ble_eq_true rfl) (fun r14 q15 h => ?_)
      refine a_bipush (pc := 114) hC dX10_readsCommand_114 (v := 48) rfl ?_
      refine a_bipush (pc := 116) hC dX10_readsCommand_116 (v := 57) rfl ?_
      refine a_callS (pc := 118) hC hR sm_X10_isIn tw_1582 ⟨(Nat.le_of_ble_eq_true rfl), (Nat.le_of_ble_eq_true rfl), (Nat.le_of_ble_eq_true rfl), (Nat.le_of_ble_eq_true rfl)⟩ dX10_readsCommand_118 (t_X10_isIn hX hC.tr _ _ _ _ _ h) rfl rfl rfl (Nat.le_of_ble_eq_true rfl) (fun r16 q17 h => ?_)
      have z_r16 := h.1
      replace h := h.2
      refine a_if_eq (pc := 121) (tgt := 148) hC dX10_readsCommand_121 (by decide) (fun c => ?_) (fun c => ?_)
      · replace h := h.1 c
        exact (tJX10_readsCommand_148 hX P hR hC hE _ _ _ h).forget ⟨rfl, rfl, rfl, trivial⟩
      · replace h := h.2 c
        refine a_aload_n (pc := 124) hC dX10_readsCommand_124 rfl ?_
        refine a_get (pc := 125) hC cl_X10 (oM_0 hX) 22 (by decide) tw_1526 rfl dX10_readsCommand_125 ?_
        refine a_iload_n (pc := 128) hC dX10_readsCommand_128 rfl ?_
        refine a_iconst (pc := 129) hC dX10_readsCommand_129 (v := 2) rfl ?_
        refine a_iadd (pc := 130) hC dX10_readsCommand_130 ?_
        refine a_bipush (pc := 131) hC dX10_readsCommand_131 (v := 10) rfl ?_
        refine a_aload_n (pc := 133) hC dX10_readsCommand_133 rfl ?_
        refine a_get (pc := 134) hC cl_X10 (oM_0 hX) 22 (by decide) tw_1526 rfl dX10_readsCommand_134 ?_
        refine a_iload_n (pc := 137) hC dX10_readsCommand_137 rfl ?_
        refine a_iconst (pc := 138) hC dX10_readsCommand_138 (v := 2) rfl ?_
        refine a_iadd (pc := 139) hC dX10_readsCommand_139 ?_
        refine a_iald (pc := 140) hC (oM_7 hX) h.1 dX10_readsCommand_140 ?_
        replace h := h.2
        refine a_imul (pc := 141) hC dX10_readsCommand_141 ?_
        refine a_aload_n (pc := 142) hC dX10_readsCommand_142 rfl ?_
        refine a_callV (pc := 143) hC hR vm_X10_digit tw_1929 cl_X10 (oM_0 hX) ⟨(Nat.le_of_ble_eq_true rfl), (Nat.le_of_ble_eq_true rfl), (Nat.le_of_ble_eq_true rfl), (Nat.le_of_ble_eq_true rfl)⟩ dX10_readsCommand_143 (t_X10_digit hX hC.tr _ _ h) rfl rfl rfl (Nat.le_of_ble_eq_true rfl) (fun r18 q19 h => ?_)
        refine a_iadd (pc := 146) hC dX10_readsCommand_146 ?_
        refine a_iast (pc := 147) hC (oM_7 hX) h.1 dX10_readsCommand_147 ?_
        replace h := h.2
        replace h := h _ rfl
        exact (tJX10_readsCommand_148 hX P hR hC hE _ _ _ h).forget ⟨rfl, rfl, rfl, trivial⟩
set_option maxRecDepth 20000 in
theorem tJX10_readsCommand_76 {f : aF} {g : aG} (hX : isM g) (P : Int32 → aS → Prop) (hR : f_R f = aR 5 0 0) (hC : aOK f g cX10_readsCommand 4 RX10) (hE : aEv f g P (fun _ _ => False) 0 0) (j1 : Int32) (j2 : Int32) (s0 : Int32) (q : aS) (h : JX10_readsCommand_76 j1 j2 s0 P q) : AW f g 76 [some (.ref (gAd g 0)), some (.int j1), some (.int j2), none] [.int s0] q 0 0 := by
  unfold JX10_readsCommand_76 at h
  refine a_istore_n (pc := 76) hC dX10_readsCommand_76 (Nat.le_of_ble_eq_true rfl) ?_
  refine a_aload_n (pc := 77) hC dX10_readsCommand_77 rfl ?_
  refine a_get (pc := 78) hC cl_X10 (oM_0 hX) 22 (by decide) tw_1526 rfl dX10_readsCommand_78 ?_
  refine a_iload_n (pc := 81) hC dX10_readsCommand_81 rfl ?_
  refine a_iconst (pc := 82) hC dX10_readsCommand_82 (v := 2) rfl ?_
  refine a_iadd (pc := 83) hC dX10_readsCommand_83 ?_
  refine a_iload_n (pc := 84) hC dX10_readsCommand_84 rfl ?_
  refine a_if_eq (pc := 85) (tgt := 95) hC dX10_readsCommand_85 (by decide) (fun c => ?_) (fun c => ?_)
  · replace h := h.1 c
    refine a_iconst (pc := 95) hC dX10_readsCommand_95 (v := 0) rfl ?_
    exact (tJX10_readsCommand_96 hX P hR hC hE _ _ _ _ _ h).forget ⟨rfl, rfl, rfl, trivial⟩
  · replace h := h.2 c
    refine a_aload_n (pc := 88) hC dX10_readsCommand_88 rfl ?_
    refine a_callV (pc := 89) hC hR vm_X10_behind tw_1941 cl_X10 (oM_0 hX) ⟨(Nat.le_of_ble_eq_true rfl), (Nat.le_of_ble_eq_true rfl), (Nat.le_of_ble_eq_true rfl), (Nat.le_of_ble_eq_true rfl)⟩ dX10_readsCommand_89 (t_X10_behind hX hC.tr _ _ h) rfl rfl rfl (Nat.le_of_ble_eq_true rfl) (fun r21 q22 h => ?_)
    refine a_goto (pc := 92) (tgt := 96) hC dX10_readsCommand_92 (by decide) ?_
    exact (tJX10_readsCommand_96 hX P hR hC hE _ _ _ _ _ h).forget ⟨rfl, rfl, rfl, trivial⟩
set_option maxRecDepth 20000 in
theorem tJX10_readsCommand_75 {f : aF} {g : aG} (hX : isM g) (P : Int32 → aS → Prop) (hR : f_R f = aR 5 0 0) (hC : aOK f g cX10_readsCommand 4 RX10) (hE : aEv f g P (fun _ _ => False) 0 0) (j1 : Int32) (j2 : Int32) (q : aS) (h : JX10_readsCommand_75 j1 j2 P q) : AW f g 75 [some (.ref (gAd g 0)), some (.int j1), some (.int j2), none] [] q 0 0 := by
  unfold JX10_readsCommand_75 at h
  refine a_iconst (pc := 75) hC dX10_readsCommand_75 (v := 0) rfl ?_
  exact (tJX10_readsCommand_76 hX P hR hC hE _ _ _ _ h).forget ⟨rfl, rfl, rfl, trivial⟩
set_option maxRecDepth 20000 in
theorem t_X10_readsCommand {l : Launch} {g : aG} (hX : isM g) (hl : l.stackTraces = false) (q : aS) (P : Int32 → aS → Prop) (h : w_X10_readsCommand q P) : aMv l g yX10_readsCommand (aWs yX10_readsCommand cX10_readsCommand 4 none) 5 0 0 [.ref (gAd g 0)] q P (fun _ _ => False) := by
  refine aMv_of RX10 ⟨by decide +kernel, rfl⟩ (cat_all rfl) (Nat.le_of_ble_eq_true rfl) hl hX.cl (fun f hR hC hE => ?_)
  show AW f g 0 [some (.ref (gAd g 0)), none, none, none] [] q 0 0
  unfold w_X10_readsCommand at h
  refine a_iconst (pc := 0) hC dX10_readsCommand_0 (v := 4) rfl ?_
  refine a_aload_n (pc := 1) hC dX10_readsCommand_1 rfl ?_
  refine a_get (pc := 2) hC cl_X10 (oM_0 hX) 21 (by decide) tw_1525 rfl dX10_readsCommand_2 ?_
  refine a_imul (pc := 5) hC dX10_readsCommand_5 ?_
  refine a_istore_n (pc := 6) hC dX10_readsCommand_6 (Nat.le_of_ble_eq_true rfl) ?_
  replace h := h _ rfl
  refine a_aload_n (pc := 7) hC dX10_readsCommand_7 rfl ?_
  refine a_callV (pc := 8) hC hR vm_X10_kindHere tw_1920 cl_X10 (oM_0 hX) ⟨(Nat.le_of_ble_eq_true rfl), (Nat.le_of_ble_eq_true rfl), (Nat.le_of_ble_eq_true rfl), (Nat.le_of_ble_eq_true rfl)⟩ dX10_readsCommand_8 (t_X10_kindHere hX hC.tr _ _ h) rfl rfl rfl (Nat.le_of_ble_eq_true rfl) (fun r2 q3 h => ?_)
  refine a_istore_n (pc := 11) hC dX10_readsCommand_11 (Nat.le_of_ble_eq_true rfl) ?_
  refine a_aload_n (pc := 12) hC dX10_readsCommand_12 rfl ?_
  refine a_get (pc := 13) hC cl_X10 (oM_0 hX) 22 (by decide) tw_1526 rfl dX10_readsCommand_13 ?_
  refine a_iload_n (pc := 16) hC dX10_readsCommand_16 rfl ?_
  refine a_iload_n (pc := 17) hC dX10_readsCommand_17 rfl ?_
  refine a_iast (pc := 18) hC (oM_7 hX) h.1 dX10_readsCommand_18 ?_
  replace h := h.2
  replace h := h _ rfl
  refine a_aload_n (pc := 19) hC dX10_readsCommand_19 rfl ?_
  refine a_dup (pc := 20) hC dX10_readsCommand_20 rfl ?_
  refine a_get (pc := 21) hC cl_X10 (oM_0 hX) 21 (by decide) tw_1525 rfl dX10_readsCommand_21 ?_
  refine a_iconst (pc := 24) hC dX10_readsCommand_24 (v := 1) rfl ?_
  refine a_iadd (pc := 25) hC dX10_readsCommand_25 ?_
  refine a_put (pc := 26) hC cl_X10 (oM_0 hX) 21 (by decide) tw_1525 tyX10 tyX10_ok rfl rfl rfl (Nat.le_of_ble_eq_true rfl) rfl dX10_readsCommand_26 ?_
  replace h := h _ rfl
  refine a_aload_n (pc := 29) hC dX10_readsCommand_29 rfl ?_
  refine a_get (pc := 30) hC cl_X10 (oM_0 hX) 20 (by decide) tw_1524 rfl dX10_readsCommand_30 ?_
  refine a_iconst (pc := 33) hC dX10_readsCommand_33 (v := (-1)) rfl ?_
  refine a_icmp_ne (pc := 34) (tgt := 43) hC dX10_readsCommand_34 (by decide) (fun c => ?_) (fun c => ?_)
  · replace h := h.1 c
    exact a_vret (pc := 43) hC hE h (Nat.le_of_ble_eq_true rfl) (Nat.le_of_ble_eq_true rfl) dX10_readsCommand_43
  · replace h := h.2 c
    refine a_iload_n (pc := 37) hC dX10_readsCommand_37 rfl ?_
    refine a_bipush (pc := 38) hC dX10_readsCommand_38 (v := 9) rfl ?_
    refine a_icmp_ne (pc := 40) (tgt := 44) hC dX10_readsCommand_40 (by decide) (fun c => ?_) (fun c => ?_)
    · replace h := h.1 c
      refine a_aload_n (pc := 44) hC dX10_readsCommand_44 rfl ?_
      refine a_get (pc := 45) hC cl_X10 (oM_0 hX) 22 (by decide) tw_1526 rfl dX10_readsCommand_45 ?_
      refine a_iload_n (pc := 48) hC dX10_readsCommand_48 rfl ?_
      refine a_iconst (pc := 49) hC dX10_readsCommand_49 (v := 1) rfl ?_
      refine a_iadd (pc := 50) hC dX10_readsCommand_50 ?_
      refine a_aload_n (pc := 51) hC dX10_readsCommand_51 rfl ?_
      refine a_callV (pc := 52) hC hR vm_X10_digit tw_1929 cl_X10 (oM_0 hX) ⟨(Nat.le_of_ble_eq_true rfl), (Nat.le_of_ble_eq_true rfl), (Nat.le_of_ble_eq_true rfl), (Nat.le_of_ble_eq_true rfl)⟩ dX10_readsCommand_52 (t_X10_digit hX hC.tr _ _ h) rfl rfl rfl (Nat.le_of_ble_eq_true rfl) (fun r6 q7 h => ?_)
      refine a_iast (pc := 55) hC (oM_7 hX) h.1 dX10_readsCommand_55 ?_
      replace h := h.2
      replace h := h _ rfl
      refine a_iload_n (pc := 56) hC dX10_readsCommand_56 rfl ?_
      refine a_if_eq (pc := 57) (tgt := 75) hC dX10_readsCommand_57 (by decide) (fun c => ?_) (fun c => ?_)
      · replace h := h.1 c
        exact (tJX10_readsCommand_75 hX P hR hC hE _ _ _ h).forget ⟨rfl, rfl, rfl, trivial⟩
      · replace h := h.2 c
        refine a_iload_n (pc := 60) hC dX10_readsCommand_60 rfl ?_
        refine a_iconst (pc := 61) hC dX10_readsCommand_61 (v := 4) rfl ?_
        refine a_icmp_eq (pc := 62) (tgt := 75) hC dX10_readsCommand_62 (by decide) (fun c => ?_) (fun c => ?_)
        · replace h := h.1 c
          exact (tJX10_readsCommand_75 hX P hR hC hE _ _ _ h).forget ⟨rfl, rfl, rfl, trivial⟩
        · replace h := h.2 c
          refine a_iload_n (pc := 65) hC dX10_readsCommand_65 rfl ?_
          refine a_bipush (pc := 66) hC dX10_readsCommand_66 (v := 8) rfl ?_
          refine a_icmp_eq (pc := 68) (tgt := 75) hC dX10_readsCommand_68 (by decide) (fun c => ?_) (fun c => ?_)
          · replace h := h.1 c
            exact (tJX10_readsCommand_75 hX P hR hC hE _ _ _ h).forget ⟨rfl, rfl, rfl, trivial⟩
          · replace h := h.2 c
            refine a_iconst (pc := 71) hC dX10_readsCommand_71 (v := 1) rfl ?_
            refine a_goto (pc := 72) (tgt := 76) hC dX10_readsCommand_72 (by decide) ?_
            exact (tJX10_readsCommand_76 hX P hR hC hE _ _ _ _ h).forget ⟨rfl, rfl, rfl, trivial⟩
    · replace h := h.2 c
      exact a_vret (pc := 43) hC hE h (Nat.le_of_ble_eq_true rfl) (Nat.le_of_ble_eq_true rfl) dX10_readsCommand_43
set_option maxRecDepth 20000 in
theorem tLX10_readsAll_32 {f : aF} {g : aG} (hX : isM g) (P : Int32 → aS → Prop) (hR : f_R f = aR 6 0 0) (hC : aOK f g cX10_readsAll 2 RX10) (hE : aEv f g P (fun _ _ => False) 0 0) {K : aS → Prop} (hK : ∀ (q : aS), K q → AW f g 75 [none, none] [] q 0 0) : ∀ (N : Nat) (q : aS), LX10_readsAll_32 P K N q → AW f g 32 [some (.ref (gAd g 0)), none] [] q 0 0 := by
  intro N
  induction N with
  | zero =>
    intro q h
    exact h.elim
  | succ N ih =>
    intro q h
    unfold LX10_readsAll_32 at h
    refine a_aload_n (pc := 32) hC dX10_readsAll_32 rfl ?_
    refine a_get (pc := 33) hC cl_X10 (oM_0 hX) 20 (by decide) tw_1524 rfl dX10_readsAll_33 ?_
    refine a_iconst (pc := 36) hC dX10_readsAll_36 (v := (-1)) rfl ?_
    refine a_icmp_ne (pc := 37) (tgt := 75) hC dX10_readsAll_37 (by decide) (fun c => ?_) (fun c => ?_)
    · replace h := h.1 c
      exact (hK _ h).forget trivial
    · replace h := h.2 c
      refine a_aload_n (pc := 40) hC dX10_readsAll_40 rfl ?_
      refine a_get (pc := 41) hC cl_X10 (oM_0 hX) 19 (by decide) tw_1523 rfl dX10_readsAll_41 ?_
      refine a_aload_n (pc := 44) hC dX10_readsAll_44 rfl ?_
      refine a_get (pc := 45) hC cl_X10 (oM_0 hX) 18 (by decide) tw_1522 rfl dX10_readsAll_45 ?_
      refine a_icmp_ge (pc := 48) (tgt := 75) hC dX10_readsAll_48 (by decide) (fun c => ?_) (fun c => ?_)
      · replace h := h.1 c
        exact (hK _ h).forget trivial
      · replace h := h.2 c
        refine a_aload_n (pc := 51) hC dX10_readsAll_51 rfl ?_
        refine a_bipush (pc := 52) hC dX10_readsAll_52 (v := 59) rfl ?_
        refine a_bipush (pc := 54) hC dX10_readsAll_54 (v := 59) rfl ?_
        refine a_callV (pc := 56) hC hR vm_X10_reads tw_1933 cl_X10 (oM_0 hX) ⟨(Nat.le_of_ble_eq_true rfl), (Nat.le_of_ble_eq_true rfl), (Nat.le_of_ble_eq_true rfl), (Nat.le_of_ble_eq_true rfl)⟩ dX10_readsAll_56 (t_X10_reads hX hC.tr _ _ _ _ h) rfl rfl rfl (Nat.le_of_ble_eq_true rfl) (fun r8 q9 h => ?_)
        refine a_istore_n (pc := 59) hC dX10_readsAll_59 (Nat.le_of_ble_eq_true rfl) ?_
        refine a_aload_n (pc := 60) hC dX10_readsAll_60 rfl ?_
        refine a_get (pc := 61) hC cl_X10 (oM_0 hX) 20 (by decide) tw_1524 rfl dX10_readsAll_61 ?_
        refine a_iconst (pc := 64) hC dX10_readsAll_64 (v := (-1)) rfl ?_
        refine a_icmp_ne (pc := 65) (tgt := 72) hC dX10_readsAll_65 (by decide) (fun c => ?_) (fun c => ?_)
        · replace h := h.1 c
          refine a_goto (pc := 72) (tgt := 32) hC dX10_readsAll_72 (by decide) ?_
          exact (ih _ h).forget ⟨rfl, trivial⟩
        · replace h := h.2 c
          refine a_aload_n (pc := 68) hC dX10_readsAll_68 rfl ?_
          refine a_callVv (pc := 69) hC hR vm_X10_readsCommand tw_1916 cl_X10 (oM_0 hX) ⟨(Nat.le_of_ble_eq_true rfl), (Nat.le_of_ble_eq_true rfl), (Nat.le_of_ble_eq_true rfl), (Nat.le_of_ble_eq_true rfl)⟩ dX10_readsAll_69 (t_X10_readsCommand hX hC.tr _ _ h) rfl rfl rfl (Nat.le_of_ble_eq_true rfl) (fun q11 h => ?_)
          refine a_goto (pc := 72) (tgt := 32) hC dX10_readsAll_72 (by decide) ?_
          exact (ih _ h).forget ⟨rfl, trivial⟩
set_option maxRecDepth 20000 in
theorem t_X10_readsAll {l : Launch} {g : aG} (hX : isM g) (hl : l.stackTraces = false) (q : aS) (P : Int32 → aS → Prop) (h : w_X10_readsAll q P) : aMv l g yX10_readsAll (aWs yX10_readsAll cX10_readsAll 2 none) 6 0 0 [.ref (gAd g 0)] q P (fun _ _ => False) := by
  refine aMv_of RX10 ⟨by decide +kernel, rfl⟩ (cat_all rfl) (Nat.le_of_ble_eq_true rfl) hl hX.cl (fun f hR hC hE => ?_)
  show AW f g 0 [some (.ref (gAd g 0)), none] [] q 0 0
  unfold w_X10_readsAll at h
  refine a_aload_n (pc := 0) hC dX10_readsAll_0 rfl ?_
  refine a_aload_n (pc := 1) hC dX10_readsAll_1 rfl ?_
  refine a_get (pc := 2) hC cl_X10 (oM_0 hX) 12 (by decide) tw_1516 rfl dX10_readsAll_2 ?_
  refine a_put (pc := 5) hC cl_X10 (oM_0 hX) 18 (by decide) tw_1522 tyX10 tyX10_ok rfl rfl rfl (Nat.le_of_ble_eq_true rfl) rfl dX10_readsAll_5 ?_
  replace h := h _ rfl
  refine a_aload_n (pc := 8) hC dX10_readsAll_8 rfl ?_
  refine a_iconst (pc := 9) hC dX10_readsAll_9 (v := 0) rfl ?_
  refine a_put (pc := 10) hC cl_X10 (oM_0 hX) 12 (by decide) tw_1516 tyX10 tyX10_ok rfl rfl rfl (Nat.le_of_ble_eq_true rfl) rfl dX10_readsAll_10 ?_
  replace h := h _ rfl
  refine a_aload_n (pc := 13) hC dX10_readsAll_13 rfl ?_
  refine a_iconst (pc := 14) hC dX10_readsAll_14 (v := 0) rfl ?_
  refine a_put (pc := 15) hC cl_X10 (oM_0 hX) 19 (by decide) tw_1523 tyX10 tyX10_ok rfl rfl rfl (Nat.le_of_ble_eq_true rfl) rfl dX10_readsAll_15 ?_
  replace h := h _ rfl
  refine a_aload_n (pc := 18) hC dX10_readsAll_18 rfl ?_
  refine a_iconst (pc := 19) hC dX10_readsAll_19 (v := (-1)) rfl ?_
  refine a_put (pc := 20) hC cl_X10 (oM_0 hX) 20 (by decide) tw_1524 tyX10 tyX10_ok rfl rfl rfl (Nat.le_of_ble_eq_true rfl) rfl dX10_readsAll_20 ?_
  replace h := h _ rfl
  refine a_aload_n (pc := 23) hC dX10_readsAll_23 rfl ?_
  refine a_iconst (pc := 24) hC dX10_readsAll_24 (v := 0) rfl ?_
  refine a_put (pc := 25) hC cl_X10 (oM_0 hX) 21 (by decide) tw_1525 tyX10 tyX10_ok rfl rfl rfl (Nat.le_of_ble_eq_true rfl) rfl dX10_readsAll_25 ?_
  replace h := h _ rfl
  refine a_aload_n (pc := 28) hC dX10_readsAll_28 rfl ?_
  refine a_callVv (pc := 29) hC hR vm_X10_readsCommand tw_1916 cl_X10 (oM_0 hX) ⟨(Nat.le_of_ble_eq_true rfl), (Nat.le_of_ble_eq_true rfl), (Nat.le_of_ble_eq_true rfl), (Nat.le_of_ble_eq_true rfl)⟩ dX10_readsAll_29 (t_X10_readsCommand hX hC.tr _ _ h) rfl rfl rfl (Nat.le_of_ble_eq_true rfl) (fun q7 h => ?_)
  obtain ⟨N, h⟩ := h
  refine (tLX10_readsAll_32 hX P hR hC hE (fun q12 h => ?_) N _ h).forget ⟨rfl, trivial⟩
  exact a_vret (pc := 75) hC hE h (Nat.le_of_ble_eq_true rfl) (Nat.le_of_ble_eq_true rfl) dX10_readsAll_75
set_option maxRecDepth 20000 in
theorem t_X10_does {l : Launch} {g : aG} (hX : isM g) (hl : l.stackTraces = false) (x1 : Int32) (q : aS) (P : Int32 → aS → Prop) (h : w_X10_does x1 q P) : aMi l g yX10_does (aWs yX10_does cX10_does 4 (some .int)) 5 0 0 [.ref (gAd g 0), .int x1] q P (fun _ _ => False) := by
  refine aMi_of RX10 ⟨by decide +kernel, rfl⟩ (cat_all rfl) (Nat.le_of_ble_eq_true rfl) hl hX.cl (fun f hR hC hE => ?_)
  show AW f g 0 [some (.ref (gAd g 0)), some (.int x1), none, none] [] q 0 0
  unfold w_X10_does at h
  refine a_aload_n (pc := 0) hC dX10_does_0 rfl ?_
  refine a_get (pc := 1) hC cl_X10 (oM_0 hX) 22 (by decide) tw_1526 rfl dX10_does_1 ?_
  refine a_iload_n (pc := 4) hC dX10_does_4 rfl ?_
  refine a_iconst (pc := 5) hC dX10_does_5 (v := 1) rfl ?_
  refine a_iadd (pc := 6) hC dX10_does_6 ?_
  refine a_iald (pc := 7) hC (oM_7 hX) h.1 dX10_does_7 ?_
  replace h := h.2
  refine a_istore_n (pc := 8) hC dX10_does_8 (Nat.le_of_ble_eq_true rfl) ?_
  replace h := h _ rfl
  refine a_aload_n (pc := 9) hC dX10_does_9 rfl ?_
  refine a_get (pc := 10) hC cl_X10 (oM_0 hX) 22 (by decide) tw_1526 rfl dX10_does_10 ?_
  refine a_iload_n (pc := 13) hC dX10_does_13 rfl ?_
  refine a_iconst (pc := 14) hC dX10_does_14 (v := 2) rfl ?_
  refine a_iadd (pc := 15) hC dX10_does_15 ?_
  refine a_iald (pc := 16) hC (oM_7 hX) h.1 dX10_does_16 ?_
  replace h := h.2
  refine a_istore_n (pc := 17) hC dX10_does_17 (Nat.le_of_ble_eq_true rfl) ?_
  replace h := h _ rfl
  refine a_aload_n (pc := 18) hC dX10_does_18 rfl ?_
  refine a_get (pc := 19) hC cl_X10 (oM_0 hX) 22 (by decide) tw_1526 rfl dX10_does_19 ?_
  refine a_iload_n (pc := 22) hC dX10_does_22 rfl ?_
  refine a_iald (pc := 23) hC (oM_7 hX) h.1 dX10_does_23 ?_
  replace h := h.2
  refine tab_or (fun c0 => ?_) (fun c0 => ?_) h
  · intro h
    refine a_tabIn (pc := 24) (tgt := 76) hC dX10_does_24 (by rw [c0]; decide) (by rw [c0]; decide) (by rw [c0]; rfl) (by decide) ?_
    refine a_aload_n (pc := 76) hC dX10_does_76 rfl ?_
    refine a_iload_n (pc := 77) hC dX10_does_77 rfl ?_
    refine a_callV (pc := 78) hC hR vm_X10_opens tw_1612 cl_X10 (oM_0 hX) ⟨(Nat.le_of_ble_eq_true rfl), (Nat.le_of_ble_eq_true rfl), (Nat.le_of_ble_eq_true rfl), (Nat.le_of_ble_eq_true rfl)⟩ dX10_does_78 (t_X10_opens hX hC.tr _ _ _ h) rfl rfl rfl (Nat.le_of_ble_eq_true rfl) (fun r4 q5 h => ?_)
    exact a_iret (pc := 81) hC hE h (Nat.le_of_ble_eq_true rfl) (Nat.le_of_ble_eq_true rfl) dX10_does_81
  intro h
  refine tab_or (fun c1 => ?_) (fun c1 => ?_) h
  · intro h
    refine a_tabIn (pc := 24) (tgt := 82) hC dX10_does_24 (by rw [c1]; decide) (by rw [c1]; decide) (by rw [c1]; rfl) (by decide) ?_
    refine a_aload_n (pc := 82) hC dX10_does_82 rfl ?_
    refine a_iload_n (pc := 83) hC dX10_does_83 rfl ?_
    refine a_iload_n (pc := 84) hC dX10_does_84 rfl ?_
    refine a_callV (pc := 85) hC hR vm_X10_sounds tw_1639 cl_X10 (oM_0 hX) ⟨(Nat.le_of_ble_eq_true rfl), (Nat.le_of_ble_eq_true rfl), (Nat.le_of_ble_eq_true rfl), (Nat.le_of_ble_eq_true rfl)⟩ dX10_does_85 (t_X10_sounds hX hC.tr _ _ _ _ h) rfl rfl rfl (Nat.le_of_ble_eq_true rfl) (fun r6 q7 h => ?_)
    exact a_iret (pc := 88) hC hE h (Nat.le_of_ble_eq_true rfl) (Nat.le_of_ble_eq_true rfl) dX10_does_88
  intro h
  refine tab_or (fun c2 => ?_) (fun c2 => ?_) h
  · intro h
    refine a_tabIn (pc := 24) (tgt := 89) hC dX10_does_24 (by rw [c2]; decide) (by rw [c2]; decide) (by rw [c2]; rfl) (by decide) ?_
    refine a_aload_n (pc := 89) hC dX10_does_89 rfl ?_
    refine a_iload_n (pc := 90) hC dX10_does_90 rfl ?_
    refine a_iload_n (pc := 91) hC dX10_does_91 rfl ?_
    refine a_callV (pc := 92) hC hR vm_X10_arrives tw_1654 cl_X10 (oM_0 hX) ⟨(Nat.le_of_ble_eq_true rfl), (Nat.le_of_ble_eq_true rfl), (Nat.le_of_ble_eq_true rfl), (Nat.le_of_ble_eq_true rfl)⟩ dX10_does_92 (t_X10_arrives hX hC.tr _ _ _ _ h) rfl rfl rfl (Nat.le_of_ble_eq_true rfl) (fun r8 q9 h => ?_)
    exact a_iret (pc := 95) hC hE h (Nat.le_of_ble_eq_true rfl) (Nat.le_of_ble_eq_true rfl) dX10_does_95
  intro h
  refine tab_or (fun c3 => ?_) (fun c3 => ?_) h
  · intro h
    refine a_tabIn (pc := 24) (tgt := 96) hC dX10_does_24 (by rw [c3]; decide) (by rw [c3]; decide) (by rw [c3]; rfl) (by decide) ?_
    refine a_aload_n (pc := 96) hC dX10_does_96 rfl ?_
    refine a_iload_n (pc := 97) hC dX10_does_97 rfl ?_
    refine a_iload_n (pc := 98) hC dX10_does_98 rfl ?_
    refine a_callV (pc := 99) hC hR vm_X10_comesIn tw_1665 cl_X10 (oM_0 hX) ⟨(Nat.le_of_ble_eq_true rfl), (Nat.le_of_ble_eq_true rfl), (Nat.le_of_ble_eq_true rfl), (Nat.le_of_ble_eq_true rfl)⟩ dX10_does_99 (t_X10_comesIn hX hC.tr _ _ _ _ h) rfl rfl rfl (Nat.le_of_ble_eq_true rfl) (fun r10 q11 h => ?_)
    exact a_iret (pc := 102) hC hE h (Nat.le_of_ble_eq_true rfl) (Nat.le_of_ble_eq_true rfl) dX10_does_102
  intro h
  refine tab_or (fun c4 => ?_) (fun c4 => ?_) h
  · intro h
    refine a_tabIn (pc := 24) (tgt := 103) hC dX10_does_24 (by rw [c4]; decide) (by rw [c4]; decide) (by rw [c4]; rfl) (by decide) ?_
    refine a_aload_n (pc := 103) hC dX10_does_103 rfl ?_
    refine a_iload_n (pc := 104) hC dX10_does_104 rfl ?_
    refine a_callV (pc := 105) hC hR vm_X10_goesOut tw_1690 cl_X10 (oM_0 hX) ⟨(Nat.le_of_ble_eq_true rfl), (Nat.le_of_ble_eq_true rfl), (Nat.le_of_ble_eq_true rfl), (Nat.le_of_ble_eq_true rfl)⟩ dX10_does_105 (t_X10_goesOut hX hC.tr _ _ _ h) rfl rfl rfl (Nat.le_of_ble_eq_true rfl) (fun r12 q13 h => ?_)
    exact a_iret (pc := 108) hC hE h (Nat.le_of_ble_eq_true rfl) (Nat.le_of_ble_eq_true rfl) dX10_does_108
  intro h
  refine tab_or (fun c5 => ?_) (fun c5 => ?_) h
  · intro h
    refine a_tabIn (pc := 24) (tgt := 109) hC dX10_does_24 (by rw [c5]; decide) (by rw [c5]; decide) (by rw [c5]; rfl) (by decide) ?_
    refine a_aload_n (pc := 109) hC dX10_does_109 rfl ?_
    refine a_iload_n (pc := 110) hC dX10_does_110 rfl ?_
    refine a_iload_n (pc := 111) hC dX10_does_111 rfl ?_
    refine a_callV (pc := 112) hC hR vm_X10_carries tw_1698 cl_X10 (oM_0 hX) ⟨(Nat.le_of_ble_eq_true rfl), (Nat.le_of_ble_eq_true rfl), (Nat.le_of_ble_eq_true rfl), (Nat.le_of_ble_eq_true rfl)⟩ dX10_does_112 (t_X10_carries hX hC.tr _ _ _ _ h) rfl rfl rfl (Nat.le_of_ble_eq_true rfl) (fun r14 q15 h => ?_)
    exact a_iret (pc := 115) hC hE h (Nat.le_of_ble_eq_true rfl) (Nat.le_of_ble_eq_true rfl) dX10_does_115
  intro h
  refine tab_or (fun c6 => ?_) (fun c6 => ?_) h
  · intro h
    refine a_tabIn (pc := 24) (tgt := 116) hC dX10_does_24 (by rw [c6]; decide) (by rw [c6]; decide) (by rw [c6]; rfl) (by decide) ?_
    refine a_aload_n (pc := 116) hC dX10_does_116 rfl ?_
    refine a_iload_n (pc := 117) hC dX10_does_117 rfl ?_
    refine a_iload_n (pc := 118) hC dX10_does_118 rfl ?_
    refine a_aload_n (pc := 119) hC dX10_does_119 rfl ?_
    refine a_get (pc := 120) hC cl_X10 (oM_0 hX) 22 (by decide) tw_1526 rfl dX10_does_120 ?_
    refine a_iload_n (pc := 123) hC dX10_does_123 rfl ?_
    refine a_iconst (pc := 124) hC dX10_does_124 (v := 3) rfl ?_
    refine a_iadd (pc := 125) hC dX10_does_125 ?_
    refine a_iald (pc := 126) hC (oM_7 hX) h.1 dX10_does_126 ?_
    replace h := h.2
    refine a_callV (pc := 127) hC hR vm_X10_rents tw_1710 cl_X10 (oM_0 hX) ⟨(Nat.le_of_ble_eq_true rfl), (Nat.le_of_ble_eq_true rfl), (Nat.le_of_ble_eq_true rfl), (Nat.le_of_ble_eq_true rfl)⟩ dX10_does_127 (t_X10_rents hX hC.tr _ _ _ _ _ h) rfl rfl rfl (Nat.le_of_ble_eq_true rfl) (fun r16 q17 h => ?_)
    exact a_iret (pc := 130) hC hE h (Nat.le_of_ble_eq_true rfl) (Nat.le_of_ble_eq_true rfl) dX10_does_130
  intro h
  refine tab_or (fun c7 => ?_) (fun c7 => ?_) h
  · intro h
    refine a_tabIn (pc := 24) (tgt := 131) hC dX10_does_24 (by rw [c7]; decide) (by rw [c7]; decide) (by rw [c7]; rfl) (by decide) ?_
    refine a_aload_n (pc := 131) hC dX10_does_131 rfl ?_
    refine a_iload_n (pc := 132) hC dX10_does_132 rfl ?_
    refine a_iload_n (pc := 133) hC dX10_does_133 rfl ?_
    refine a_callV (pc := 134) hC hR vm_X10_gives tw_1722 cl_X10 (oM_0 hX) ⟨(Nat.le_of_ble_eq_true rfl), (Nat.le_of_ble_eq_true rfl), (Nat.le_of_ble_eq_true rfl), (Nat.le_of_ble_eq_true rfl)⟩ dX10_does_134 (t_X10_gives hX hC.tr _ _ _ _ h) rfl rfl rfl (Nat.le_of_ble_eq_true rfl) (fun r18 q19 h => ?_)
    exact a_iret (pc := 137) hC hE h (Nat.le_of_ble_eq_true rfl) (Nat.le_of_ble_eq_true rfl) dX10_does_137
  intro h
  refine tab_or (fun c8 => ?_) (fun c8 => ?_) h
  · intro h
    refine a_tabIn (pc := 24) (tgt := 138) hC dX10_does_24 (by rw [c8]; decide) (by rw [c8]; decide) (by rw [c8]; rfl) (by decide) ?_
    refine a_aload_n (pc := 138) hC dX10_does_138 rfl ?_
    refine a_iload_n (pc := 139) hC dX10_does_139 rfl ?_
    refine a_callV (pc := 140) hC hR vm_X10_sings tw_1740 cl_X10 (oM_0 hX) ⟨(Nat.le_of_ble_eq_true rfl), (Nat.le_of_ble_eq_true rfl), (Nat.le_of_ble_eq_true rfl), (Nat.le_of_ble_eq_true rfl)⟩ dX10_does_140 (t_X10_sings hX hC.tr _ _ _ h) rfl rfl rfl (Nat.le_of_ble_eq_true rfl) (fun r20 q21 h => ?_)
    exact a_iret (pc := 143) hC hE h (Nat.le_of_ble_eq_true rfl) (Nat.le_of_ble_eq_true rfl) dX10_does_143
  intro h
  refine a_tabOut (pc := 24) (tgt := 144) hC dX10_does_24 (by have e0 := tab_ne (z := 0) rfl c0; have e1 := tab_ne (z := 1) rfl c1; have e2 := tab_ne (z := 2) rfl c2; have e3 := tab_ne (z := 3) rfl c3; have e4 := tab_ne (z := 4) rfl c4; have e5 := tab_ne (z := 5) rfl c5; have e6 := tab_ne (z := 6) rfl c6; have e7 := tab_ne (z := 7) rfl c7; have e8 := tab_ne (z := 8) rfl c8; omega) (by decide) ?_
  refine a_aload_n (pc := 144) hC dX10_does_144 rfl ?_
  refine a_callV (pc := 145) hC hR vm_X10_passes tw_1748 cl_X10 (oM_0 hX) ⟨(Nat.le_of_ble_eq_true rfl), (Nat.le_of_ble_eq_true rfl), (Nat.le_of_ble_eq_true rfl), (Nat.le_of_ble_eq_true rfl)⟩ dX10_does_145 (t_X10_passes hX hC.tr _ _ h) rfl rfl rfl (Nat.le_of_ble_eq_true rfl) (fun r22 q23 h => ?_)
  exact a_iret (pc := 148) hC hE h (Nat.le_of_ble_eq_true rfl) (Nat.le_of_ble_eq_true rfl) dX10_does_148
set_option maxRecDepth 20000 in
theorem tLX10_run_45 {f : aF} {g : aG} (hX : isM g) (P : Int32 → aS → Prop) (hR : f_R f = aR 7 0 0) (hC : aOK f g cX10_run 3 RX10) (hE : aEi f g .int P (fun _ _ => False) 0 0) {K : aS → Prop} (hK : ∀ (q : aS), K q → AW f g 91 [some (.ref (gAd g 0)), none, none] [] q 0 0) : ∀ (N : Nat) (v1 : Int32) (q : aS), LX10_run_45 P K N v1 q → AW f g 45 [some (.ref (gAd g 0)), some (.int v1), none] [] q 0 0 := by
  intro N
  induction N with
  | zero =>
    intro v1 q h
    exact h.elim
  | succ N ih =>
    intro v1 q h
    unfold LX10_run_45 at h
    refine a_iload_n (pc := 45) hC dX10_run_45 rfl ?_
    refine a_aload_n (pc := 46) hC dX10_run_46 rfl ?_
    refine a_get (pc := 47) hC cl_X10 (oM_0 hX) 21 (by decide) tw_1525 rfl dX10_run_47 ?_
    refine a_icmp_ge (pc := 50) (tgt := 91) hC dX10_run_50 (by decide) (fun c => ?_) (fun c => ?_)
    · replace h := h.1 c
      exact (hK _ h).forget ⟨rfl, trivial⟩
    · replace h := h.2 c
      refine a_aload_n (pc := 53) hC dX10_run_53 rfl ?_
      refine a_iconst (pc := 54) hC dX10_run_54 (v := 4) rfl ?_
      refine a_iload_n (pc := 55) hC dX10_run_55 rfl ?_
      refine a_imul (pc := 56) hC dX10_run_56 ?_
      refine a_callV (pc := 57) hC hR vm_X10_does tw_1945 cl_X10 (oM_0 hX) ⟨(Nat.le_of_ble_eq_true rfl), (Nat.le_of_ble_eq_true rfl), (Nat.le_of_ble_eq_true rfl), (Nat.le_of_ble_eq_true rfl)⟩ dX10_run_57 (t_X10_does hX hC.tr _ _ _ h) rfl rfl rfl (Nat.le_of_ble_eq_true rfl) (fun r7 q8 h => ?_)
      refine a_istore_n (pc := 60) hC dX10_run_60 (Nat.le_of_ble_eq_true rfl) ?_
      refine a_aload_n (pc := 61) hC dX10_run_61 rfl ?_
      refine a_get (pc := 62) hC cl_X10 (oM_0 hX) 16 (by decide) tw_1520 rfl dX10_run_62 ?_
      refine a_if_eq (pc := 65) (tgt := 85) hC dX10_run_65 (by decide) (fun c => ?_) (fun c => ?_)
      · replace h := h.1 c
        refine a_iinc (pc := 85) hC dX10_run_85 rfl (c := 1) rfl ?_
        replace h := h _ rfl
        refine a_goto (pc := 88) (tgt := 45) hC dX10_run_88 (by decide) ?_
        exact (ih _ _ h).forget ⟨rfl, rfl, trivial⟩
      · replace h := h.2 c
        refine a_aload_n (pc := 68) hC dX10_run_68 rfl ?_
        refine a_bipush (pc := 69) hC dX10_run_69 (v := 12) rfl ?_
        refine a_iload_n (pc := 71) hC dX10_run_71 rfl ?_
        refine a_aload_n (pc := 72) hC dX10_run_72 rfl ?_
        refine a_get (pc := 73) hC cl_X10 (oM_0 hX) 16 (by decide) tw_1520 rfl dX10_run_73 ?_
        refine a_aload_n (pc := 76) hC dX10_run_76 rfl ?_
        refine a_get (pc := 77) hC cl_X10 (oM_0 hX) 17 (by decide) tw_1521 rfl dX10_run_77 ?_
        refine a_iconst (pc := 80) hC dX10_run_80 (v := 2) rfl ?_
        refine a_callV (pc := 81) hC hR vm_X10_refuses tw_1627 cl_X10 (oM_0 hX) ⟨(Nat.le_of_ble_eq_true rfl), (Nat.le_of_ble_eq_true rfl), (Nat.le_of_ble_eq_true rfl), (Nat.le_of_ble_eq_true rfl)⟩ dX10_run_81 (t_X10_refuses hX hC.tr _ _ _ _ _ _ _ h) rfl rfl rfl (Nat.le_of_ble_eq_true rfl) (fun r10 q11 h => ?_)
        exact a_iret (pc := 84) hC hE h (Nat.le_of_ble_eq_true rfl) (Nat.le_of_ble_eq_true rfl) dX10_run_84
set_option maxRecDepth 20000 in
theorem tJX10_run_26 {f : aF} {g : aG} (hX : isM g) (P : Int32 → aS → Prop) (hR : f_R f = aR 7 0 0) (hC : aOK f g cX10_run 3 RX10) (hE : aEi f g .int P (fun _ _ => False) 0 0) (s0 : Int32) (q : aS) (h : JX10_run_26 s0 P q) : AW f g 26 [some (.ref (gAd g 0)), none, none] [.int s0, .ref (gAd g 0)] q 0 0 := by
  unfold JX10_run_26 at h
  refine a_put (pc := 26) hC cl_X10 (oM_0 hX) 15 (by decide) tw_1519 tyX10 tyX10_ok rfl rfl rfl (Nat.le_of_ble_eq_true rfl) rfl dX10_run_26 ?_
  replace h := h _ rfl
  refine a_aload_n (pc := 29) hC dX10_run_29 rfl ?_
  refine a_get (pc := 30) hC cl_X10 (oM_0 hX) 20 (by decide) tw_1524 rfl dX10_run_30 ?_
  refine a_iconst (pc := 33) hC dX10_run_33 (v := (-1)) rfl ?_
  refine a_icmp_eq (pc := 34) (tgt := 39) hC dX10_run_34 (by decide) (fun c => ?_) (fun c => ?_)
  · replace h := h.1 c
    refine a_aload_n (pc := 39) hC dX10_run_39 rfl ?_
    refine a_callVv (pc := 40) hC hR vm_X10_begins tw_1608 cl_X10 (oM_0 hX) ⟨(Nat.le_of_ble_eq_true rfl), (Nat.le_of_ble_eq_true rfl), (Nat.le_of_ble_eq_true rfl), (Nat.le_of_ble_eq_true rfl)⟩ dX10_run_40 (t_X10_begins hX hC.tr _ _ h) rfl rfl rfl (Nat.le_of_ble_eq_true rfl) (fun q6 h => ?_)
    refine a_iconst (pc := 43) hC dX10_run_43 (v := 0) rfl ?_
    refine a_istore_n (pc := 44) hC dX10_run_44 (Nat.le_of_ble_eq_true rfl) ?_
    obtain ⟨N, h⟩ := h
    refine (tLX10_run_45 hX P hR hC hE (fun q12 h => ?_) N _ _ h).forget ⟨rfl, rfl, trivial⟩
    refine a_aload_n (pc := 91) hC dX10_run_91 rfl ?_
    refine a_aload_n (pc := 92) hC dX10_run_92 rfl ?_
    refine a_get (pc := 93) hC cl_X10 (oM_0 hX) 21 (by decide) tw_1525 rfl dX10_run_93 ?_
    refine a_callV (pc := 96) hC hR vm_X10_ends tw_1623 cl_X10 (oM_0 hX) ⟨(Nat.le_of_ble_eq_true rfl), (Nat.le_of_ble_eq_true rfl), (Nat.le_of_ble_eq_true rfl), (Nat.le_of_ble_eq_true rfl)⟩ dX10_run_96 (t_X10_ends hX hC.tr _ _ _ h) rfl rfl rfl (Nat.le_of_ble_eq_true rfl) (fun r13 q14 h => ?_)
    exact a_iret (pc := 99) hC hE h (Nat.le_of_ble_eq_true rfl) (Nat.le_of_ble_eq_true rfl) dX10_run_99
  · replace h := h.2 c
    refine a_iconst (pc := 37) hC dX10_run_37 (v := 0) rfl ?_
    exact a_iret (pc := 38) hC hE h (Nat.le_of_ble_eq_true rfl) (Nat.le_of_ble_eq_true rfl) dX10_run_38
set_option maxRecDepth 20000 in
theorem t_X10_run {l : Launch} {g : aG} (hX : isM g) (hl : l.stackTraces = false) (q : aS) (P : Int32 → aS → Prop) (h : w_X10_run q P) : aMi l g yX10_run (aWs yX10_run cX10_run 3 (some .int)) 7 0 0 [.ref (gAd g 0)] q P (fun _ _ => False) := by
  refine aMi_of RX10 ⟨by decide +kernel, rfl⟩ (cat_all rfl) (Nat.le_of_ble_eq_true rfl) hl hX.cl (fun f hR hC hE => ?_)
  show AW f g 0 [some (.ref (gAd g 0)), none, none] [] q 0 0
  unfold w_X10_run at h
  refine a_aload_n (pc := 0) hC dX10_run_0 rfl ?_
  refine a_callVv (pc := 1) hC hR vm_X10_readsAll tw_1912 cl_X10 (oM_0 hX) ⟨(Nat.le_of_ble_eq_true rfl), (Nat.le_of_ble_eq_true rfl), (Nat.le_of_ble_eq_true rfl), (Nat.le_of_ble_eq_true rfl)⟩ dX10_run_1 (t_X10_readsAll hX hC.tr _ _ h) rfl rfl rfl (Nat.le_of_ble_eq_true rfl) (fun q2 h => ?_)
  refine a_aload_n (pc := 4) hC dX10_run_4 rfl ?_
  refine a_aload_n (pc := 5) hC dX10_run_5 rfl ?_
  refine a_get (pc := 6) hC cl_X10 (oM_0 hX) 20 (by decide) tw_1524 rfl dX10_run_6 ?_
  refine a_put (pc := 9) hC cl_X10 (oM_0 hX) 10 (by decide) tw_1514 tyX10 tyX10_ok rfl rfl rfl (Nat.le_of_ble_eq_true rfl) rfl dX10_run_9 ?_
  replace h := h _ rfl
  refine a_aload_n (pc := 12) hC dX10_run_12 rfl ?_
  refine a_aload_n (pc := 13) hC dX10_run_13 rfl ?_
  refine a_get (pc := 14) hC cl_X10 (oM_0 hX) 20 (by decide) tw_1524 rfl dX10_run_14 ?_
  refine a_iconst (pc := 17) hC dX10_run_17 (v := (-1)) rfl ?_
  refine a_icmp_ne (pc := 18) (tgt := 25) hC dX10_run_18 (by decide) (fun c => ?_) (fun c => ?_)
  · replace h := h.1 c
    refine a_iconst (pc := 25) hC dX10_run_25 (v := 1) rfl ?_
    exact (tJX10_run_26 hX P hR hC hE _ _ h).forget ⟨rfl, trivial⟩
  · replace h := h.2 c
    refine a_iconst (pc := 21) hC dX10_run_21 (v := 0) rfl ?_
    refine a_goto (pc := 22) (tgt := 26) hC dX10_run_22 (by decide) ?_
    exact (tJX10_run_26 hX P hR hC hE _ _ h).forget ⟨rfl, trivial⟩
