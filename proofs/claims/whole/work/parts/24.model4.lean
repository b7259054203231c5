theorem dX10_put_0 : decode cX10_put 0 = .ok (.aload_n 0, 1) := by decide +kernel
theorem dX10_put_1 : decode cX10_put 1 = .ok (.getfield 29, 3) := by decide +kernel
theorem dX10_put_4 : decode cX10_put 4 = .ok (.iload_n 1, 1) := by decide +kernel
theorem dX10_put_5 : decode cX10_put 5 = .ok (.iload_n 2, 1) := by decide +kernel
theorem dX10_put_6 : decode cX10_put 6 = .ok (.iastore, 1) := by decide +kernel
theorem dX10_put_7 : decode cX10_put 7 = .ok (.iload_n 1, 1) := by decide +kernel
theorem dX10_put_8 : decode cX10_put 8 = .ok (.iconst 1, 1) := by decide +kernel
theorem dX10_put_9 : decode cX10_put 9 = .ok (.iadd, 1) := by decide +kernel
theorem dX10_put_10 : decode cX10_put 10 = .ok (.ireturn, 1) := by decide +kernel
theorem vm_X10_put : aVm yX10_put RX10 cX10_put 3 (some .int) 2 := ⟨tw_1867, tw_1866, List.mem_append_left _ (List.mem_of_getElem? (i := 60) (by decide +kernel)), tw_15, rfl, by decide +kernel, by decide +kernel, by decide +kernel⟩
theorem dX10_writesNumber_0 : decode cX10_writesNumber 0 = .ok (.iload_n 2, 1) := by decide +kernel
theorem dX10_writesNumber_1 : decode cX10_writesNumber 1 = .ok (.bipush 10, 2) := by decide +kernel
theorem dX10_writesNumber_3 : decode cX10_writesNumber 3 = .ok (.if_icmp .ge 7, 3) := by decide +kernel
theorem dX10_writesNumber_6 : decode cX10_writesNumber 6 = .ok (.iload_n 1, 1) := by decide +kernel
theorem dX10_writesNumber_7 : decode cX10_writesNumber 7 = .ok (.goto 15, 3) := by decide +kernel
theorem dX10_writesNumber_10 : decode cX10_writesNumber 10 = .ok (.aload_n 0, 1) := by decide +kernel
theorem dX10_writesNumber_11 : decode cX10_writesNumber 11 = .ok (.iload_n 1, 1) := by decide +kernel
theorem dX10_writesNumber_12 : decode cX10_writesNumber 12 = .ok (.bipush 48, 2) := by decide +kernel
theorem dX10_writesNumber_14 : decode cX10_writesNumber 14 = .ok (.iload_n 2, 1) := by decide +kernel
theorem dX10_writesNumber_15 : decode cX10_writesNumber 15 = .ok (.bipush 10, 2) := by decide +kernel
theorem dX10_writesNumber_17 : decode cX10_writesNumber 17 = .ok (.idiv, 1) := by decide +kernel
theorem dX10_writesNumber_18 : decode cX10_writesNumber 18 = .ok (.iadd, 1) := by decide +kernel
theorem dX10_writesNumber_19 : decode cX10_writesNumber 19 = .ok (.invokevirtual 199, 3) := by decide +kernel
theorem dX10_writesNumber_22 : decode cX10_writesNumber 22 = .ok (.istore_n 3, 1) := by decide +kernel
theorem dX10_writesNumber_23 : decode cX10_writesNumber 23 = .ok (.aload_n 0, 1) := by decide +kernel
theorem dX10_writesNumber_24 : decode cX10_writesNumber 24 = .ok (.iload_n 3, 1) := by decide +kernel
theorem dX10_writesNumber_25 : decode cX10_writesNumber 25 = .ok (.bipush 48, 2) := by decide +kernel
theorem dX10_writesNumber_27 : decode cX10_writesNumber 27 = .ok (.iload_n 2, 1) := by decide +kernel
theorem dX10_writesNumber_28 : decode cX10_writesNumber 28 = .ok (.bipush 10, 2) := by decide +kernel
theorem dX10_writesNumber_30 : decode cX10_writesNumber 30 = .ok (.irem, 1) := by decide +kernel
theorem dX10_writesNumber_31 : decode cX10_writesNumber 31 = .ok (.iadd, 1) := by decide +kernel
theorem dX10_writesNumber_32 : decode cX10_writesNumber 32 = .ok (.invokevirtual 199, 3) := by decide +kernel
theorem dX10_writesNumber_35 : decode cX10_writesNumber 35 = .ok (.ireturn, 1) := by decide +kernel
theorem vm_X10_writesNumber : aVm yX10_writesNumber RX10 cX10_writesNumber 4 (some .int) 2 := ⟨tw_1863, tw_1862, List.mem_append_left _ (List.mem_of_getElem? (i := 59) (by decide +kernel)), tw_15, rfl, by decide +kernel, by decide +kernel, by decide +kernel⟩
theorem dX10_tellRoom_0 : decode cX10_tellRoom 0 = .ok (.aload_n 0, 1) := by decide +kernel
theorem dX10_tellRoom_1 : decode cX10_tellRoom 1 = .ok (.aload_n 0, 1) := by decide +kernel
theorem dX10_tellRoom_2 : decode cX10_tellRoom 2 = .ok (.iload_n 1, 1) := by decide +kernel
theorem dX10_tellRoom_3 : decode cX10_tellRoom 3 = .ok (.invokevirtual 119, 3) := by decide +kernel
theorem dX10_tellRoom_6 : decode cX10_tellRoom 6 = .ok (.iconst 1, 1) := by decide +kernel
theorem dX10_tellRoom_7 : decode cX10_tellRoom 7 = .ok (.invokevirtual 74, 3) := by decide +kernel
theorem dX10_tellRoom_10 : decode cX10_tellRoom 10 = .ok (.ifCond .ne 5, 3) := by decide +kernel
theorem dX10_tellRoom_13 : decode cX10_tellRoom 13 = .ok (.iconst 0, 1) := by decide +kernel
theorem dX10_tellRoom_14 : decode cX10_tellRoom 14 = .ok (.ireturn, 1) := by decide +kernel
theorem dX10_tellRoom_15 : decode cX10_tellRoom 15 = .ok (.aload_n 0, 1) := by decide +kernel
theorem dX10_tellRoom_16 : decode cX10_tellRoom 16 = .ok (.aload_n 0, 1) := by decide +kernel
theorem dX10_tellRoom_17 : decode cX10_tellRoom 17 = .ok (.iconst 0, 1) := by decide +kernel
theorem dX10_tellRoom_18 : decode cX10_tellRoom 18 = .ok (.iload_n 1, 1) := by decide +kernel
theorem dX10_tellRoom_19 : decode cX10_tellRoom 19 = .ok (.invokevirtual 202, 3) := by decide +kernel
theorem dX10_tellRoom_22 : decode cX10_tellRoom 22 = .ok (.bipush 91, 2) := by decide +kernel
theorem dX10_tellRoom_24 : decode cX10_tellRoom 24 = .ok (.invokevirtual 199, 3) := by decide +kernel
theorem dX10_tellRoom_27 : decode cX10_tellRoom 27 = .ok (.istore_n 2, 1) := by decide +kernel
theorem dX10_tellRoom_28 : decode cX10_tellRoom 28 = .ok (.aload_n 0, 1) := by decide +kernel
theorem dX10_tellRoom_29 : decode cX10_tellRoom 29 = .ok (.aload_n 0, 1) := by decide +kernel
theorem dX10_tellRoom_30 : decode cX10_tellRoom 30 = .ok (.iload_n 2, 1) := by decide +kernel
theorem dX10_tellRoom_31 : decode cX10_tellRoom 31 = .ok (.aload_n 0, 1) := by decide +kernel
theorem dX10_tellRoom_32 : decode cX10_tellRoom 32 = .ok (.getfield 9, 3) := by decide +kernel
theorem dX10_tellRoom_35 : decode cX10_tellRoom 35 = .ok (.iload_n 1, 1) := by decide +kernel
theorem dX10_tellRoom_36 : decode cX10_tellRoom 36 = .ok (.invokestatic 97, 3) := by decide +kernel
theorem dX10_tellRoom_39 : decode cX10_tellRoom 39 = .ok (.iconst 0, 1) := by decide +kernel
theorem dX10_tellRoom_40 : decode cX10_tellRoom 40 = .ok (.iadd, 1) := by decide +kernel
theorem dX10_tellRoom_41 : decode cX10_tellRoom 41 = .ok (.iaload, 1) := by decide +kernel
theorem dX10_tellRoom_42 : decode cX10_tellRoom 42 = .ok (.invokevirtual 202, 3) := by decide +kernel
theorem dX10_tellRoom_45 : decode cX10_tellRoom 45 = .ok (.bipush 126, 2) := by decide +kernel
theorem dX10_tellRoom_47 : decode cX10_tellRoom 47 = .ok (.invokevirtual 199, 3) := by decide +kernel
theorem dX10_tellRoom_50 : decode cX10_tellRoom 50 = .ok (.istore_n 2, 1) := by decide +kernel
theorem dX10_tellRoom_51 : decode cX10_tellRoom 51 = .ok (.aload_n 0, 1) := by decide +kernel
theorem dX10_tellRoom_52 : decode cX10_tellRoom 52 = .ok (.aload_n 0, 1) := by decide +kernel
theorem dX10_tellRoom_53 : decode cX10_tellRoom 53 = .ok (.iload_n 2, 1) := by decide +kernel
theorem dX10_tellRoom_54 : decode cX10_tellRoom 54 = .ok (.aload_n 0, 1) := by decide +kernel
theorem dX10_tellRoom_55 : decode cX10_tellRoom 55 = .ok (.getfield 9, 3) := by decide +kernel
theorem dX10_tellRoom_58 : decode cX10_tellRoom 58 = .ok (.iload_n 1, 1) := by decide +kernel
theorem dX10_tellRoom_59 : decode cX10_tellRoom 59 = .ok (.invokestatic 97, 3) := by decide +kernel
theorem dX10_tellRoom_62 : decode cX10_tellRoom 62 = .ok (.iconst 1, 1) := by decide +kernel
theorem dX10_tellRoom_63 : decode cX10_tellRoom 63 = .ok (.iadd, 1) := by decide +kernel
theorem dX10_tellRoom_64 : decode cX10_tellRoom 64 = .ok (.iaload, 1) := by decide +kernel
theorem dX10_tellRoom_65 : decode cX10_tellRoom 65 = .ok (.invokevirtual 202, 3) := by decide +kernel
theorem dX10_tellRoom_68 : decode cX10_tellRoom 68 = .ok (.bipush 93, 2) := by decide +kernel
theorem dX10_tellRoom_70 : decode cX10_tellRoom 70 = .ok (.invokevirtual 199, 3) := by decide +kernel
theorem dX10_tellRoom_73 : decode cX10_tellRoom 73 = .ok (.istore_n 2, 1) := by decide +kernel
theorem dX10_tellRoom_74 : decode cX10_tellRoom 74 = .ok (.iconst 0, 1) := by decide +kernel
theorem dX10_tellRoom_75 : decode cX10_tellRoom 75 = .ok (.istore_n 3, 1) := by decide +kernel
theorem dX10_tellRoom_76 : decode cX10_tellRoom 76 = .ok (.iload_n 3, 1) := by decide +kernel
theorem dX10_tellRoom_77 : decode cX10_tellRoom 77 = .ok (.aload_n 0, 1) := by decide +kernel
theorem dX10_tellRoom_78 : decode cX10_tellRoom 78 = .ok (.getfield 9, 3) := by decide +kernel
theorem dX10_tellRoom_81 : decode cX10_tellRoom 81 = .ok (.iconst 1, 1) := by decide +kernel
theorem dX10_tellRoom_82 : decode cX10_tellRoom 82 = .ok (.iaload, 1) := by decide +kernel
theorem dX10_tellRoom_83 : decode cX10_tellRoom 83 = .ok (.if_icmp .ge 58, 3) := by decide +kernel
theorem dX10_tellRoom_86 : decode cX10_tellRoom 86 = .ok (.aload_n 0, 1) := by decide +kernel
theorem dX10_tellRoom_87 : decode cX10_tellRoom 87 = .ok (.getfield 9, 3) := by decide +kernel
theorem dX10_tellRoom_90 : decode cX10_tellRoom 90 = .ok (.iload_n 3, 1) := by decide +kernel
theorem dX10_tellRoom_91 : decode cX10_tellRoom 91 = .ok (.invokestatic 86, 3) := by decide +kernel
theorem dX10_tellRoom_94 : decode cX10_tellRoom 94 = .ok (.iconst 0, 1) := by decide +kernel
theorem dX10_tellRoom_95 : decode cX10_tellRoom 95 = .ok (.iadd, 1) := by decide +kernel
theorem dX10_tellRoom_96 : decode cX10_tellRoom 96 = .ok (.iaload, 1) := by decide +kernel
theorem dX10_tellRoom_97 : decode cX10_tellRoom 97 = .ok (.iload_n 1, 1) := by decide +kernel
theorem dX10_tellRoom_98 : decode cX10_tellRoom 98 = .ok (.if_icmp .ne 37, 3) := by decide +kernel
theorem dX10_tellRoom_101 : decode cX10_tellRoom 101 = .ok (.aload_n 0, 1) := by decide +kernel
theorem dX10_tellRoom_102 : decode cX10_tellRoom 102 = .ok (.iload_n 2, 1) := by decide +kernel
theorem dX10_tellRoom_103 : decode cX10_tellRoom 103 = .ok (.iload_n 3, 1) := by decide +kernel
theorem dX10_tellRoom_104 : decode cX10_tellRoom 104 = .ok (.invokevirtual 202, 3) := by decide +kernel
theorem dX10_tellRoom_107 : decode cX10_tellRoom 107 = .ok (.istore_n 2, 1) := by decide +kernel
theorem dX10_tellRoom_108 : decode cX10_tellRoom 108 = .ok (.aload_n 0, 1) := by decide +kernel
theorem dX10_tellRoom_109 : decode cX10_tellRoom 109 = .ok (.getfield 9, 3) := by decide +kernel
theorem dX10_tellRoom_112 : decode cX10_tellRoom 112 = .ok (.iload_n 3, 1) := by decide +kernel
theorem dX10_tellRoom_113 : decode cX10_tellRoom 113 = .ok (.invokestatic 86, 3) := by decide +kernel
theorem dX10_tellRoom_116 : decode cX10_tellRoom 116 = .ok (.iconst 2, 1) := by decide +kernel
theorem dX10_tellRoom_117 : decode cX10_tellRoom 117 = .ok (.iadd, 1) := by decide +kernel
theorem dX10_tellRoom_118 : decode cX10_tellRoom 118 = .ok (.iaload, 1) := by decide +kernel
theorem dX10_tellRoom_119 : decode cX10_tellRoom 119 = .ok (.iconst (-1), 1) := by decide +kernel
theorem dX10_tellRoom_120 : decode cX10_tellRoom 120 = .ok (.if_icmp .ne 7, 3) := by decide +kernel
theorem dX10_tellRoom_123 : decode cX10_tellRoom 123 = .ok (.iload_n 2, 1) := by decide +kernel
theorem dX10_tellRoom_124 : decode cX10_tellRoom 124 = .ok (.goto 10, 3) := by decide +kernel
theorem dX10_tellRoom_127 : decode cX10_tellRoom 127 = .ok (.aload_n 0, 1) := by decide +kernel
theorem dX10_tellRoom_128 : decode cX10_tellRoom 128 = .ok (.iload_n 2, 1) := by decide +kernel
theorem dX10_tellRoom_129 : decode cX10_tellRoom 129 = .ok (.bipush 42, 2) := by decide +kernel
theorem dX10_tellRoom_131 : decode cX10_tellRoom 131 = .ok (.invokevirtual 199, 3) := by decide +kernel
theorem dX10_tellRoom_134 : decode cX10_tellRoom 134 = .ok (.istore_n 2, 1) := by decide +kernel
theorem dX10_tellRoom_135 : decode cX10_tellRoom 135 = .ok (.iinc 3 1, 3) := by decide +kernel
theorem dX10_tellRoom_138 : decode cX10_tellRoom 138 = .ok (.goto (-62), 3) := by decide +kernel
theorem dX10_tellRoom_141 : decode cX10_tellRoom 141 = .ok (.iconst 0, 1) := by decide +kernel
theorem dX10_tellRoom_142 : decode cX10_tellRoom 142 = .ok (.istore_n 3, 1) := by decide +kernel
theorem dX10_tellRoom_143 : decode cX10_tellRoom 143 = .ok (.iload_n 3, 1) := by decide +kernel
theorem dX10_tellRoom_144 : decode cX10_tellRoom 144 = .ok (.aload_n 0, 1) := by decide +kernel
theorem dX10_tellRoom_145 : decode cX10_tellRoom 145 = .ok (.getfield 9, 3) := by decide +kernel
theorem dX10_tellRoom_148 : decode cX10_tellRoom 148 = .ok (.iconst 2, 1) := by decide +kernel
theorem dX10_tellRoom_149 : decode cX10_tellRoom 149 = .ok (.iaload, 1) := by decide +kernel
theorem dX10_tellRoom_150 : decode cX10_tellRoom 150 = .ok (.if_icmp .ge 41, 3) := by decide +kernel
theorem dX10_tellRoom_153 : decode cX10_tellRoom 153 = .ok (.aload_n 0, 1) := by decide +kernel
theorem dX10_tellRoom_154 : decode cX10_tellRoom 154 = .ok (.getfield 9, 3) := by decide +kernel
theorem dX10_tellRoom_157 : decode cX10_tellRoom 157 = .ok (.iload_n 3, 1) := by decide +kernel
theorem dX10_tellRoom_158 : decode cX10_tellRoom 158 = .ok (.invokestatic 82, 3) := by decide +kernel
theorem dX10_tellRoom_161 : decode cX10_tellRoom 161 = .ok (.iconst 2, 1) := by decide +kernel
theorem dX10_tellRoom_162 : decode cX10_tellRoom 162 = .ok (.iadd, 1) := by decide +kernel
theorem dX10_tellRoom_163 : decode cX10_tellRoom 163 = .ok (.iaload, 1) := by decide +kernel
theorem dX10_tellRoom_164 : decode cX10_tellRoom 164 = .ok (.iload_n 1, 1) := by decide +kernel
theorem dX10_tellRoom_165 : decode cX10_tellRoom 165 = .ok (.if_icmp .ne 18, 3) := by decide +kernel
theorem dX10_tellRoom_168 : decode cX10_tellRoom 168 = .ok (.aload_n 0, 1) := by decide +kernel
theorem dX10_tellRoom_169 : decode cX10_tellRoom 169 = .ok (.aload_n 0, 1) := by decide +kernel
theorem dX10_tellRoom_170 : decode cX10_tellRoom 170 = .ok (.iload_n 2, 1) := by decide +kernel
theorem dX10_tellRoom_171 : decode cX10_tellRoom 171 = .ok (.bipush 115, 2) := by decide +kernel
theorem dX10_tellRoom_173 : decode cX10_tellRoom 173 = .ok (.invokevirtual 199, 3) := by decide +kernel
theorem dX10_tellRoom_176 : decode cX10_tellRoom 176 = .ok (.iload_n 3, 1) := by decide +kernel
theorem dX10_tellRoom_177 : decode cX10_tellRoom 177 = .ok (.invokevirtual 202, 3) := by decide +kernel
theorem dX10_tellRoom_180 : decode cX10_tellRoom 180 = .ok (.goto 4, 3) := by decide +kernel
theorem dX10_tellRoom_183 : decode cX10_tellRoom 183 = .ok (.iload_n 2, 1) := by decide +kernel
theorem dX10_tellRoom_184 : decode cX10_tellRoom 184 = .ok (.istore_n 2, 1) := by decide +kernel
theorem dX10_tellRoom_185 : decode cX10_tellRoom 185 = .ok (.iinc 3 1, 3) := by decide +kernel
theorem dX10_tellRoom_188 : decode cX10_tellRoom 188 = .ok (.goto (-45), 3) := by decide +kernel
theorem dX10_tellRoom_191 : decode cX10_tellRoom 191 = .ok (.aload_n 0, 1) := by decide +kernel
theorem dX10_tellRoom_192 : decode cX10_tellRoom 192 = .ok (.iload_n 2, 1) := by decide +kernel
theorem dX10_tellRoom_193 : decode cX10_tellRoom 193 = .ok (.putfield 205, 3) := by decide +kernel
theorem dX10_tellRoom_196 : decode cX10_tellRoom 196 = .ok (.iload_n 2, 1) := by decide +kernel
theorem dX10_tellRoom_197 : decode cX10_tellRoom 197 = .ok (.ireturn, 1) := by decide +kernel
theorem vm_X10_tellRoom : aVm yX10_tellRoom RX10 cX10_tellRoom 4 (some .int) 1 := ⟨tw_1859, tw_1857, tw_1858, tw_15, rfl, by decide +kernel, by decide +kernel, by decide +kernel⟩
theorem dX10_tellEcho_0 : decode cX10_tellEcho 0 = .ok (.aload_n 0, 1) := by decide +kernel
theorem dX10_tellEcho_1 : decode cX10_tellEcho 1 = .ok (.aload_n 0, 1) := by decide +kernel
theorem dX10_tellEcho_2 : decode cX10_tellEcho 2 = .ok (.iload_n 1, 1) := by decide +kernel
theorem dX10_tellEcho_3 : decode cX10_tellEcho 3 = .ok (.invokevirtual 145, 3) := by decide +kernel
theorem dX10_tellEcho_6 : decode cX10_tellEcho 6 = .ok (.iconst 1, 1) := by decide +kernel
theorem dX10_tellEcho_7 : decode cX10_tellEcho 7 = .ok (.invokevirtual 74, 3) := by decide +kernel
theorem dX10_tellEcho_10 : decode cX10_tellEcho 10 = .ok (.ifCond .ne 5, 3) := by decide +kernel
theorem dX10_tellEcho_13 : decode cX10_tellEcho 13 = .ok (.iconst 0, 1) := by decide +kernel
theorem dX10_tellEcho_14 : decode cX10_tellEcho 14 = .ok (.ireturn, 1) := by decide +kernel
theorem dX10_tellEcho_15 : decode cX10_tellEcho 15 = .ok (.iload_n 1, 1) := by decide +kernel
theorem dX10_tellEcho_16 : decode cX10_tellEcho 16 = .ok (.invokestatic 86, 3) := by decide +kernel
theorem dX10_tellEcho_19 : decode cX10_tellEcho 19 = .ok (.istore_n 2, 1) := by decide +kernel
theorem dX10_tellEcho_20 : decode cX10_tellEcho 20 = .ok (.aload_n 0, 1) := by decide +kernel
theorem dX10_tellEcho_21 : decode cX10_tellEcho 21 = .ok (.aload_n 0, 1) := by decide +kernel
theorem dX10_tellEcho_22 : decode cX10_tellEcho 22 = .ok (.iconst 0, 1) := by decide +kernel
theorem dX10_tellEcho_23 : decode cX10_tellEcho 23 = .ok (.iload_n 1, 1) := by decide +kernel
theorem dX10_tellEcho_24 : decode cX10_tellEcho 24 = .ok (.invokevirtual 202, 3) := by decide +kernel
theorem dX10_tellEcho_27 : decode cX10_tellEcho 27 = .ok (.bipush 94, 2) := by decide +kernel
theorem dX10_tellEcho_29 : decode cX10_tellEcho 29 = .ok (.invokevirtual 199, 3) := by decide +kernel
theorem dX10_tellEcho_32 : decode cX10_tellEcho 32 = .ok (.istore_n 3, 1) := by decide +kernel
theorem dX10_tellEcho_33 : decode cX10_tellEcho 33 = .ok (.aload_n 0, 1) := by decide +kernel
theorem dX10_tellEcho_34 : decode cX10_tellEcho 34 = .ok (.aload_n 0, 1) := by decide +kernel
theorem dX10_tellEcho_35 : decode cX10_tellEcho 35 = .ok (.iload_n 3, 1) := by decide +kernel
theorem dX10_tellEcho_36 : decode cX10_tellEcho 36 = .ok (.aload_n 0, 1) := by decide +kernel
theorem dX10_tellEcho_37 : decode cX10_tellEcho 37 = .ok (.getfield 9, 3) := by decide +kernel
theorem dX10_tellEcho_40 : decode cX10_tellEcho 40 = .ok (.iload_n 2, 1) := by decide +kernel
theorem dX10_tellEcho_41 : decode cX10_tellEcho 41 = .ok (.iconst 1, 1) := by decide +kernel
theorem dX10_tellEcho_42 : decode cX10_tellEcho 42 = .ok (.iadd, 1) := by decide +kernel
theorem dX10_tellEcho_43 : decode cX10_tellEcho 43 = .ok (.iaload, 1) := by decide +kernel
theorem dX10_tellEcho_44 : decode cX10_tellEcho 44 = .ok (.invokevirtual 202, 3) := by decide +kernel
theorem dX10_tellEcho_47 : decode cX10_tellEcho 47 = .ok (.bipush 64, 2) := by decide +kernel
theorem dX10_tellEcho_49 : decode cX10_tellEcho 49 = .ok (.invokevirtual 199, 3) := by decide +kernel
theorem dX10_tellEcho_52 : decode cX10_tellEcho 52 = .ok (.istore_n 3, 1) := by decide +kernel
theorem dX10_tellEcho_53 : decode cX10_tellEcho 53 = .ok (.aload_n 0, 1) := by decide +kernel
theorem dX10_tellEcho_54 : decode cX10_tellEcho 54 = .ok (.iload_n 3, 1) := by decide +kernel
theorem dX10_tellEcho_55 : decode cX10_tellEcho 55 = .ok (.aload_n 0, 1) := by decide +kernel
theorem dX10_tellEcho_56 : decode cX10_tellEcho 56 = .ok (.getfield 9, 3) := by decide +kernel
theorem dX10_tellEcho_59 : decode cX10_tellEcho 59 = .ok (.iload_n 2, 1) := by decide +kernel
theorem dX10_tellEcho_60 : decode cX10_tellEcho 60 = .ok (.iconst 0, 1) := by decide +kernel
theorem dX10_tellEcho_61 : decode cX10_tellEcho 61 = .ok (.iadd, 1) := by decide +kernel
theorem dX10_tellEcho_62 : decode cX10_tellEcho 62 = .ok (.iaload, 1) := by decide +kernel
theorem dX10_tellEcho_63 : decode cX10_tellEcho 63 = .ok (.invokevirtual 202, 3) := by decide +kernel
theorem dX10_tellEcho_66 : decode cX10_tellEcho 66 = .ok (.istore_n 3, 1) := by decide +kernel
theorem dX10_tellEcho_67 : decode cX10_tellEcho 67 = .ok (.aload_n 0, 1) := by decide +kernel
theorem dX10_tellEcho_68 : decode cX10_tellEcho 68 = .ok (.getfield 9, 3) := by decide +kernel
theorem dX10_tellEcho_71 : decode cX10_tellEcho 71 = .ok (.iload_n 2, 1) := by decide +kernel
theorem dX10_tellEcho_72 : decode cX10_tellEcho 72 = .ok (.iconst 2, 1) := by decide +kernel
theorem dX10_tellEcho_73 : decode cX10_tellEcho 73 = .ok (.iadd, 1) := by decide +kernel
theorem dX10_tellEcho_74 : decode cX10_tellEcho 74 = .ok (.iaload, 1) := by decide +kernel
theorem dX10_tellEcho_75 : decode cX10_tellEcho 75 = .ok (.iconst (-1), 1) := by decide +kernel
theorem dX10_tellEcho_76 : decode cX10_tellEcho 76 = .ok (.if_icmp .eq 43, 3) := by decide +kernel
theorem dX10_tellEcho_79 : decode cX10_tellEcho 79 = .ok (.aload_n 0, 1) := by decide +kernel
theorem dX10_tellEcho_80 : decode cX10_tellEcho 80 = .ok (.aload_n 0, 1) := by decide +kernel
theorem dX10_tellEcho_81 : decode cX10_tellEcho 81 = .ok (.aload_n 0, 1) := by decide +kernel
theorem dX10_tellEcho_82 : decode cX10_tellEcho 82 = .ok (.iload_n 3, 1) := by decide +kernel
theorem dX10_tellEcho_83 : decode cX10_tellEcho 83 = .ok (.bipush 61, 2) := by decide +kernel
theorem dX10_tellEcho_85 : decode cX10_tellEcho 85 = .ok (.invokevirtual 199, 3) := by decide +kernel
theorem dX10_tellEcho_88 : decode cX10_tellEcho 88 = .ok (.aload_n 0, 1) := by decide +kernel
theorem dX10_tellEcho_89 : decode cX10_tellEcho 89 = .ok (.getfield 9, 3) := by decide +kernel
theorem dX10_tellEcho_92 : decode cX10_tellEcho 92 = .ok (.iload_n 2, 1) := by decide +kernel
theorem dX10_tellEcho_93 : decode cX10_tellEcho 93 = .ok (.iconst 2, 1) := by decide +kernel
theorem dX10_tellEcho_94 : decode cX10_tellEcho 94 = .ok (.iadd, 1) := by decide +kernel
theorem dX10_tellEcho_95 : decode cX10_tellEcho 95 = .ok (.iaload, 1) := by decide +kernel
theorem dX10_tellEcho_96 : decode cX10_tellEcho 96 = .ok (.invokevirtual 202, 3) := by decide +kernel
theorem dX10_tellEcho_99 : decode cX10_tellEcho 99 = .ok (.bipush 47, 2) := by decide +kernel
theorem dX10_tellEcho_101 : decode cX10_tellEcho 101 = .ok (.invokevirtual 199, 3) := by decide +kernel
theorem dX10_tellEcho_104 : decode cX10_tellEcho 104 = .ok (.istore_n 3, 1) := by decide +kernel
theorem dX10_tellEcho_105 : decode cX10_tellEcho 105 = .ok (.aload_n 0, 1) := by decide +kernel
theorem dX10_tellEcho_106 : decode cX10_tellEcho 106 = .ok (.iload_n 3, 1) := by decide +kernel
theorem dX10_tellEcho_107 : decode cX10_tellEcho 107 = .ok (.aload_n 0, 1) := by decide +kernel
theorem dX10_tellEcho_108 : decode cX10_tellEcho 108 = .ok (.getfield 9, 3) := by decide +kernel
theorem dX10_tellEcho_111 : decode cX10_tellEcho 111 = .ok (.iload_n 2, 1) := by decide +kernel
theorem dX10_tellEcho_112 : decode cX10_tellEcho 112 = .ok (.iconst 3, 1) := by decide +kernel
theorem dX10_tellEcho_113 : decode cX10_tellEcho 113 = .ok (.iadd, 1) := by decide +kernel
theorem dX10_tellEcho_114 : decode cX10_tellEcho 114 = .ok (.iaload, 1) := by decide +kernel
theorem dX10_tellEcho_115 : decode cX10_tellEcho 115 = .ok (.invokevirtual 202, 3) := by decide +kernel
theorem dX10_tellEcho_118 : decode cX10_tellEcho 118 = .ok (.istore_n 3, 1) := by decide +kernel
theorem dX10_tellEcho_119 : decode cX10_tellEcho 119 = .ok (.aload_n 0, 1) := by decide +kernel
theorem dX10_tellEcho_120 : decode cX10_tellEcho 120 = .ok (.iload_n 3, 1) := by decide +kernel
theorem dX10_tellEcho_121 : decode cX10_tellEcho 121 = .ok (.putfield 205, 3) := by decide +kernel
theorem dX10_tellEcho_124 : decode cX10_tellEcho 124 = .ok (.iload_n 3, 1) := by decide +kernel
theorem dX10_tellEcho_125 : decode cX10_tellEcho 125 = .ok (.ireturn, 1) := by decide +kernel
theorem vm_X10_tellEcho : aVm yX10_tellEcho RX10 cX10_tellEcho 4 (some .int) 1 := ⟨tw_1871, tw_1869, tw_1870, tw_15, rfl, by decide +kernel, by decide +kernel, by decide +kernel⟩
theorem dX10_tellSinger_0 : decode cX10_tellSinger 0 = .ok (.aload_n 0, 1) := by decide +kernel
theorem dX10_tellSinger_1 : decode cX10_tellSinger 1 = .ok (.aload_n 0, 1) := by decide +kernel
theorem dX10_tellSinger_2 : decode cX10_tellSinger 2 = .ok (.iload_n 1, 1) := by decide +kernel
theorem dX10_tellSinger_3 : decode cX10_tellSinger 3 = .ok (.invokevirtual 132, 3) := by decide +kernel
theorem dX10_tellSinger_6 : decode cX10_tellSinger 6 = .ok (.iconst 1, 1) := by decide +kernel
theorem dX10_tellSinger_7 : decode cX10_tellSinger 7 = .ok (.invokevirtual 74, 3) := by decide +kernel
theorem dX10_tellSinger_10 : decode cX10_tellSinger 10 = .ok (.ifCond .ne 5, 3) := by decide +kernel
theorem dX10_tellSinger_13 : decode cX10_tellSinger 13 = .ok (.iconst 0, 1) := by decide +kernel
theorem dX10_tellSinger_14 : decode cX10_tellSinger 14 = .ok (.ireturn, 1) := by decide +kernel
theorem dX10_tellSinger_15 : decode cX10_tellSinger 15 = .ok (.iload_n 1, 1) := by decide +kernel
theorem dX10_tellSinger_16 : decode cX10_tellSinger 16 = .ok (.invokestatic 82, 3) := by decide +kernel
theorem dX10_tellSinger_19 : decode cX10_tellSinger 19 = .ok (.istore_n 2, 1) := by decide +kernel
theorem dX10_tellSinger_20 : decode cX10_tellSinger 20 = .ok (.aload_n 0, 1) := by decide +kernel
theorem dX10_tellSinger_21 : decode cX10_tellSinger 21 = .ok (.aload_n 0, 1) := by decide +kernel
theorem dX10_tellSinger_22 : decode cX10_tellSinger 22 = .ok (.iconst 0, 1) := by decide +kernel
theorem dX10_tellSinger_23 : decode cX10_tellSinger 23 = .ok (.iload_n 1, 1) := by decide +kernel
theorem dX10_tellSinger_24 : decode cX10_tellSinger 24 = .ok (.invokevirtual 202, 3) := by decide +kernel
theorem dX10_tellSinger_27 : decode cX10_tellSinger 27 = .ok (.bipush 33, 2) := by decide +kernel
theorem dX10_tellSinger_29 : decode cX10_tellSinger 29 = .ok (.invokevirtual 199, 3) := by decide +kernel
theorem dX10_tellSinger_32 : decode cX10_tellSinger 32 = .ok (.istore_n 3, 1) := by decide +kernel
theorem dX10_tellSinger_33 : decode cX10_tellSinger 33 = .ok (.aload_n 0, 1) := by decide +kernel
theorem dX10_tellSinger_34 : decode cX10_tellSinger 34 = .ok (.aload_n 0, 1) := by decide +kernel
theorem dX10_tellSinger_35 : decode cX10_tellSinger 35 = .ok (.iload_n 3, 1) := by decide +kernel
theorem dX10_tellSinger_36 : decode cX10_tellSinger 36 = .ok (.aload_n 0, 1) := by decide +kernel
theorem dX10_tellSinger_37 : decode cX10_tellSinger 37 = .ok (.getfield 9, 3) := by decide +kernel
theorem dX10_tellSinger_40 : decode cX10_tellSinger 40 = .ok (.iload_n 2, 1) := by decide +kernel
theorem dX10_tellSinger_41 : decode cX10_tellSinger 41 = .ok (.iconst 0, 1) := by decide +kernel
theorem dX10_tellSinger_42 : decode cX10_tellSinger 42 = .ok (.iadd, 1) := by decide +kernel
theorem dX10_tellSinger_43 : decode cX10_tellSinger 43 = .ok (.iaload, 1) := by decide +kernel
theorem dX10_tellSinger_44 : decode cX10_tellSinger 44 = .ok (.invokevirtual 202, 3) := by decide +kernel
theorem dX10_tellSinger_47 : decode cX10_tellSinger 47 = .ok (.bipush 37, 2) := by decide +kernel
theorem dX10_tellSinger_49 : decode cX10_tellSinger 49 = .ok (.invokevirtual 199, 3) := by decide +kernel
theorem dX10_tellSinger_52 : decode cX10_tellSinger 52 = .ok (.istore_n 3, 1) := by decide +kernel
theorem dX10_tellSinger_53 : decode cX10_tellSinger 53 = .ok (.aload_n 0, 1) := by decide +kernel
theorem dX10_tellSinger_54 : decode cX10_tellSinger 54 = .ok (.iload_n 3, 1) := by decide +kernel
theorem dX10_tellSinger_55 : decode cX10_tellSinger 55 = .ok (.aload_n 0, 1) := by decide +kernel
theorem dX10_tellSinger_56 : decode cX10_tellSinger 56 = .ok (.getfield 9, 3) := by decide +kernel
theorem dX10_tellSinger_59 : decode cX10_tellSinger 59 = .ok (.iload_n 2, 1) := by decide +kernel
theorem dX10_tellSinger_60 : decode cX10_tellSinger 60 = .ok (.iconst 1, 1) := by decide +kernel
theorem dX10_tellSinger_61 : decode cX10_tellSinger 61 = .ok (.iadd, 1) := by decide +kernel
theorem dX10_tellSinger_62 : decode cX10_tellSinger 62 = .ok (.iaload, 1) := by decide +kernel
theorem dX10_tellSinger_63 : decode cX10_tellSinger 63 = .ok (.invokevirtual 202, 3) := by decide +kernel
theorem dX10_tellSinger_66 : decode cX10_tellSinger 66 = .ok (.istore_n 3, 1) := by decide +kernel
theorem dX10_tellSinger_67 : decode cX10_tellSinger 67 = .ok (.aload_n 0, 1) := by decide +kernel
theorem dX10_tellSinger_68 : decode cX10_tellSinger 68 = .ok (.aload_n 0, 1) := by decide +kernel
theorem dX10_tellSinger_69 : decode cX10_tellSinger 69 = .ok (.getfield 9, 3) := by decide +kernel
theorem dX10_tellSinger_72 : decode cX10_tellSinger 72 = .ok (.iload_n 2, 1) := by decide +kernel
theorem dX10_tellSinger_73 : decode cX10_tellSinger 73 = .ok (.iconst 2, 1) := by decide +kernel
theorem dX10_tellSinger_74 : decode cX10_tellSinger 74 = .ok (.iadd, 1) := by decide +kernel
theorem dX10_tellSinger_75 : decode cX10_tellSinger 75 = .ok (.iaload, 1) := by decide +kernel
theorem dX10_tellSinger_76 : decode cX10_tellSinger 76 = .ok (.iconst (-1), 1) := by decide +kernel
theorem dX10_tellSinger_77 : decode cX10_tellSinger 77 = .ok (.if_icmp .ne 7, 3) := by decide +kernel
theorem dX10_tellSinger_80 : decode cX10_tellSinger 80 = .ok (.iload_n 3, 1) := by decide +kernel
theorem dX10_tellSinger_81 : decode cX10_tellSinger 81 = .ok (.goto 22, 3) := by decide +kernel
theorem dX10_tellSinger_84 : decode cX10_tellSinger 84 = .ok (.aload_n 0, 1) := by decide +kernel
theorem dX10_tellSinger_85 : decode cX10_tellSinger 85 = .ok (.aload_n 0, 1) := by decide +kernel
theorem dX10_tellSinger_86 : decode cX10_tellSinger 86 = .ok (.iload_n 3, 1) := by decide +kernel
theorem dX10_tellSinger_87 : decode cX10_tellSinger 87 = .ok (.bipush 64, 2) := by decide +kernel
theorem dX10_tellSinger_89 : decode cX10_tellSinger 89 = .ok (.invokevirtual 199, 3) := by decide +kernel
theorem dX10_tellSinger_92 : decode cX10_tellSinger 92 = .ok (.aload_n 0, 1) := by decide +kernel
theorem dX10_tellSinger_93 : decode cX10_tellSinger 93 = .ok (.getfield 9, 3) := by decide +kernel
theorem dX10_tellSinger_96 : decode cX10_tellSinger 96 = .ok (.iload_n 2, 1) := by decide +kernel
theorem dX10_tellSinger_97 : decode cX10_tellSinger 97 = .ok (.iconst 2, 1) := by decide +kernel
theorem dX10_tellSinger_98 : decode cX10_tellSinger 98 = .ok (.iadd, 1) := by decide +kernel
theorem dX10_tellSinger_99 : decode cX10_tellSinger 99 = .ok (.iaload, 1) := by decide +kernel
theorem dX10_tellSinger_100 : decode cX10_tellSinger 100 = .ok (.invokevirtual 202, 3) := by decide +kernel
theorem dX10_tellSinger_103 : decode cX10_tellSinger 103 = .ok (.putfield 205, 3) := by decide +kernel
theorem dX10_tellSinger_106 : decode cX10_tellSinger 106 = .ok (.aload_n 0, 1) := by decide +kernel
theorem dX10_tellSinger_107 : decode cX10_tellSinger 107 = .ok (.getfield 205, 3) := by decide +kernel
theorem dX10_tellSinger_110 : decode cX10_tellSinger 110 = .ok (.ireturn, 1) := by decide +kernel
theorem vm_X10_tellSinger : aVm yX10_tellSinger RX10 cX10_tellSinger 4 (some .int) 1 := ⟨tw_1875, tw_1873, tw_1874, tw_15, rfl, by decide +kernel, by decide +kernel, by decide +kernel⟩
theorem dX10_character_0 : decode cX10_character 0 = .ok (.aload_n 0, 1) := by decide +kernel
theorem dX10_character_1 : decode cX10_character 1 = .ok (.iload_n 1, 1) := by decide +kernel
theorem dX10_character_2 : decode cX10_character 2 = .ok (.iconst 0, 1) := by decide +kernel
theorem dX10_character_3 : decode cX10_character 3 = .ok (.aload_n 0, 1) := by decide +kernel
theorem dX10_character_4 : decode cX10_character 4 = .ok (.getfield 205, 3) := by decide +kernel
theorem dX10_character_7 : decode cX10_character 7 = .ok (.iconst 1, 1) := by decide +kernel
theorem dX10_character_8 : decode cX10_character 8 = .ok (.isub, 1) := by decide +kernel
theorem dX10_character_9 : decode cX10_character 9 = .ok (.invokestatic 70, 3) := by decide +kernel
theorem dX10_character_12 : decode cX10_character 12 = .ok (.iconst 1, 1) := by decide +kernel
theorem dX10_character_13 : decode cX10_character 13 = .ok (.invokevirtual 74, 3) := by decide +kernel
theorem dX10_character_16 : decode cX10_character 16 = .ok (.ifCond .eq 13, 3) := by decide +kernel
theorem dX10_character_19 : decode cX10_character 19 = .ok (.aload_n 0, 1) := by decide +kernel
theorem dX10_character_20 : decode cX10_character 20 = .ok (.getfield 29, 3) := by decide +kernel
theorem dX10_character_23 : decode cX10_character 23 = .ok (.iload_n 1, 1) := by decide +kernel
theorem dX10_character_24 : decode cX10_character 24 = .ok (.iaload, 1) := by decide +kernel
theorem dX10_character_25 : decode cX10_character 25 = .ok (.i2c, 1) := by decide +kernel
theorem dX10_character_26 : decode cX10_character 26 = .ok (.goto 4, 3) := by decide +kernel
theorem dX10_character_29 : decode cX10_character 29 = .ok (.iconst 0, 1) := by decide +kernel
theorem dX10_character_30 : decode cX10_character 30 = .ok (.ireturn, 1) := by decide +kernel
theorem vm_X10_character : aVm yX10_character RX10 cX10_character 2 (some .char) 1 := ⟨tw_1879, tw_1877, tw_1878, tw_15, rfl, by decide +kernel, by decide +kernel, by decide +kernel⟩
theorem dX10_allDamp_0 : decode cX10_allDamp 0 = .ok (.iconst 0, 1) := by decide +kernel
theorem dX10_allDamp_1 : decode cX10_allDamp 1 = .ok (.istore_n 1, 1) := by decide +kernel
theorem dX10_allDamp_2 : decode cX10_allDamp 2 = .ok (.iconst 0, 1) := by decide +kernel
theorem dX10_allDamp_3 : decode cX10_allDamp 3 = .ok (.istore_n 2, 1) := by decide +kernel
theorem dX10_allDamp_4 : decode cX10_allDamp 4 = .ok (.iload_n 2, 1) := by decide +kernel
theorem dX10_allDamp_5 : decode cX10_allDamp 5 = .ok (.aload_n 0, 1) := by decide +kernel
theorem dX10_allDamp_6 : decode cX10_allDamp 6 = .ok (.getfield 9, 3) := by decide +kernel
theorem dX10_allDamp_9 : decode cX10_allDamp 9 = .ok (.iconst 0, 1) := by decide +kernel
theorem dX10_allDamp_10 : decode cX10_allDamp 10 = .ok (.iaload, 1) := by decide +kernel
theorem dX10_allDamp_11 : decode cX10_allDamp 11 = .ok (.if_icmp .ge 23, 3) := by decide +kernel
theorem dX10_allDamp_14 : decode cX10_allDamp 14 = .ok (.iload_n 1, 1) := by decide +kernel
theorem dX10_allDamp_15 : decode cX10_allDamp 15 = .ok (.aload_n 0, 1) := by decide +kernel
theorem dX10_allDamp_16 : decode cX10_allDamp 16 = .ok (.getfield 9, 3) := by decide +kernel
theorem dX10_allDamp_19 : decode cX10_allDamp 19 = .ok (.iload_n 2, 1) := by decide +kernel
theorem dX10_allDamp_20 : decode cX10_allDamp 20 = .ok (.invokestatic 97, 3) := by decide +kernel
theorem dX10_allDamp_23 : decode cX10_allDamp 23 = .ok (.iconst 1, 1) := by decide +kernel
theorem dX10_allDamp_24 : decode cX10_allDamp 24 = .ok (.iadd, 1) := by decide +kernel
theorem dX10_allDamp_25 : decode cX10_allDamp 25 = .ok (.iaload, 1) := by decide +kernel
theorem dX10_allDamp_26 : decode cX10_allDamp 26 = .ok (.iadd, 1) := by decide +kernel
theorem dX10_allDamp_27 : decode cX10_allDamp 27 = .ok (.istore_n 1, 1) := by decide +kernel
theorem dX10_allDamp_28 : decode cX10_allDamp 28 = .ok (.iinc 2 1, 3) := by decide +kernel
theorem dX10_allDamp_31 : decode cX10_allDamp 31 = .ok (.goto (-27), 3) := by decide +kernel
theorem dX10_allDamp_34 : decode cX10_allDamp 34 = .ok (.iload_n 1, 1) := by decide +kernel
theorem dX10_allDamp_35 : decode cX10_allDamp 35 = .ok (.ireturn, 1) := by decide +kernel
theorem vm_X10_allDamp : aVm yX10_allDamp RX10 cX10_allDamp 3 (some .int) 0 := ⟨tw_1891, tw_1890, List.mem_append_left _ (List.mem_of_getElem? (i := 62) (by decide +kernel)), tw_15, rfl, by decide +kernel, by decide +kernel, by decide +kernel⟩
theorem dX10_allLet_0 : decode cX10_allLet 0 = .ok (.iconst 0, 1) := by decide +kernel
theorem dX10_allLet_1 : decode cX10_allLet 1 = .ok (.istore_n 1, 1) := by decide +kernel
theorem dX10_allLet_2 : decode cX10_allLet 2 = .ok (.iconst 0, 1) := by decide +kernel
theorem dX10_allLet_3 : decode cX10_allLet 3 = .ok (.istore_n 2, 1) := by decide +kernel
theorem dX10_allLet_4 : decode cX10_allLet 4 = .ok (.iload_n 2, 1) := by decide +kernel
theorem dX10_allLet_5 : decode cX10_allLet 5 = .ok (.aload_n 0, 1) := by decide +kernel
theorem dX10_allLet_6 : decode cX10_allLet 6 = .ok (.getfield 9, 3) := by decide +kernel
theorem dX10_allLet_9 : decode cX10_allLet 9 = .ok (.iconst 2, 1) := by decide +kernel
theorem dX10_allLet_10 : decode cX10_allLet 10 = .ok (.iaload, 1) := by decide +kernel
theorem dX10_allLet_11 : decode cX10_allLet 11 = .ok (.if_icmp .ge 18, 3) := by decide +kernel
theorem dX10_allLet_14 : decode cX10_allLet 14 = .ok (.iload_n 1, 1) := by decide +kernel
theorem dX10_allLet_15 : decode cX10_allLet 15 = .ok (.aload_n 0, 1) := by decide +kernel
theorem dX10_allLet_16 : decode cX10_allLet 16 = .ok (.iload_n 2, 1) := by decide +kernel
theorem dX10_allLet_17 : decode cX10_allLet 17 = .ok (.iconst 0, 1) := by decide +kernel
theorem dX10_allLet_18 : decode cX10_allLet 18 = .ok (.invokevirtual 181, 3) := by decide +kernel
theorem dX10_allLet_21 : decode cX10_allLet 21 = .ok (.iadd, 1) := by decide +kernel
theorem dX10_allLet_22 : decode cX10_allLet 22 = .ok (.istore_n 1, 1) := by decide +kernel
theorem dX10_allLet_23 : decode cX10_allLet 23 = .ok (.iinc 2 1, 3) := by decide +kernel
theorem dX10_allLet_26 : decode cX10_allLet 26 = .ok (.goto (-22), 3) := by decide +kernel
theorem dX10_allLet_29 : decode cX10_allLet 29 = .ok (.iload_n 1, 1) := by decide +kernel
theorem dX10_allLet_30 : decode cX10_allLet 30 = .ok (.ireturn, 1) := by decide +kernel
theorem vm_X10_allLet : aVm yX10_allLet RX10 cX10_allLet 3 (some .int) 0 := ⟨tw_1887, tw_1886, List.mem_append_left _ (List.mem_of_getElem? (i := 61) (by decide +kernel)), tw_15, rfl, by decide +kernel, by decide +kernel, by decide +kernel⟩
theorem dX10_account_0 : decode cX10_account 0 = .ok (.aload_n 0, 1) := by decide +kernel
theorem dX10_account_1 : decode cX10_account 1 = .ok (.iload_n 1, 1) := by decide +kernel
theorem dX10_account_2 : decode cX10_account 2 = .ok (.iconst 0, 1) := by decide +kernel
theorem dX10_account_3 : decode cX10_account 3 = .ok (.bipush 13, 2) := by decide +kernel
theorem dX10_account_5 : decode cX10_account 5 = .ok (.invokestatic 70, 3) := by decide +kernel
theorem dX10_account_8 : decode cX10_account 8 = .ok (.ifCond .eq 7, 3) := by decide +kernel
theorem dX10_account_11 : decode cX10_account 11 = .ok (.iconst 0, 1) := by decide +kernel
theorem dX10_account_12 : decode cX10_account 12 = .ok (.goto 4, 3) := by decide +kernel
theorem dX10_account_15 : decode cX10_account 15 = .ok (.iconst 1, 1) := by decide +kernel
theorem dX10_account_16 : decode cX10_account 16 = .ok (.putfield 35, 3) := by decide +kernel
theorem dX10_account_19 : decode cX10_account 19 = .ok (.iload_n 1, 1) := by decide +kernel
theorem dX10_account_20 : decode cX10_account 20 = .ok (.tableswitch 142 0 13 #[72, 72, 72, 79, 84, 91, 96, 96, 96, 96, 96, 108, 132, 137], 72) := by decide +kernel
theorem dX10_account_92 : decode cX10_account 92 = .ok (.aload_n 0, 1) := by decide +kernel
theorem dX10_account_93 : decode cX10_account 93 = .ok (.getfield 9, 3) := by decide +kernel
theorem dX10_account_96 : decode cX10_account 96 = .ok (.iload_n 1, 1) := by decide +kernel
theorem dX10_account_97 : decode cX10_account 97 = .ok (.iaload, 1) := by decide +kernel
theorem dX10_account_98 : decode cX10_account 98 = .ok (.ireturn, 1) := by decide +kernel
theorem dX10_account_99 : decode cX10_account 99 = .ok (.aload_n 0, 1) := by decide +kernel
theorem dX10_account_100 : decode cX10_account 100 = .ok (.invokevirtual 208, 3) := by decide +kernel
theorem dX10_account_103 : decode cX10_account 103 = .ok (.ireturn, 1) := by decide +kernel
theorem dX10_account_104 : decode cX10_account 104 = .ok (.aload_n 0, 1) := by decide +kernel
theorem dX10_account_105 : decode cX10_account 105 = .ok (.getfield 9, 3) := by decide +kernel
theorem dX10_account_108 : decode cX10_account 108 = .ok (.iconst 3, 1) := by decide +kernel
theorem dX10_account_109 : decode cX10_account 109 = .ok (.iaload, 1) := by decide +kernel
theorem dX10_account_110 : decode cX10_account 110 = .ok (.ireturn, 1) := by decide +kernel
theorem dX10_account_111 : decode cX10_account 111 = .ok (.aload_n 0, 1) := by decide +kernel
theorem dX10_account_112 : decode cX10_account 112 = .ok (.invokevirtual 211, 3) := by decide +kernel
theorem dX10_account_115 : decode cX10_account 115 = .ok (.ireturn, 1) := by decide +kernel
theorem dX10_account_116 : decode cX10_account 116 = .ok (.aload_n 0, 1) := by decide +kernel
theorem dX10_account_117 : decode cX10_account 117 = .ok (.getfield 9, 3) := by decide +kernel
theorem dX10_account_120 : decode cX10_account 120 = .ok (.iconst 4, 1) := by decide +kernel
theorem dX10_account_121 : decode cX10_account 121 = .ok (.iload_n 1, 1) := by decide +kernel
theorem dX10_account_122 : decode cX10_account 122 = .ok (.iadd, 1) := by decide +kernel
theorem dX10_account_123 : decode cX10_account 123 = .ok (.bipush 6, 2) := by decide +kernel
theorem dX10_account_125 : decode cX10_account 125 = .ok (.isub, 1) := by decide +kernel
theorem dX10_account_126 : decode cX10_account 126 = .ok (.iaload, 1) := by decide +kernel
theorem dX10_account_127 : decode cX10_account 127 = .ok (.ireturn, 1) := by decide +kernel
theorem dX10_account_128 : decode cX10_account 128 = .ok (.aload_n 0, 1) := by decide +kernel
theorem dX10_account_129 : decode cX10_account 129 = .ok (.getfield 9, 3) := by decide +kernel
theorem dX10_account_132 : decode cX10_account 132 = .ok (.bipush 6, 2) := by decide +kernel
theorem dX10_account_134 : decode cX10_account 134 = .ok (.iaload, 1) := by decide +kernel
theorem dX10_account_135 : decode cX10_account 135 = .ok (.aload_n 0, 1) := by decide +kernel
theorem dX10_account_136 : decode cX10_account 136 = .ok (.getfield 9, 3) := by decide +kernel
theorem dX10_account_139 : decode cX10_account 139 = .ok (.bipush 7, 2) := by decide +kernel
theorem dX10_account_141 : decode cX10_account 141 = .ok (.iaload, 1) := by decide +kernel
theorem dX10_account_142 : decode cX10_account 142 = .ok (.isub, 1) := by decide +kernel
theorem dX10_account_143 : decode cX10_account 143 = .ok (.aload_n 0, 1) := by decide +kernel
theorem dX10_account_144 : decode cX10_account 144 = .ok (.getfield 9, 3) := by decide +kernel
theorem dX10_account_147 : decode cX10_account 147 = .ok (.bipush 8, 2) := by decide +kernel
theorem dX10_account_149 : decode cX10_account 149 = .ok (.iaload, 1) := by decide +kernel
theorem dX10_account_150 : decode cX10_account 150 = .ok (.isub, 1) := by decide +kernel
theorem dX10_account_151 : decode cX10_account 151 = .ok (.ireturn, 1) := by decide +kernel
theorem dX10_account_152 : decode cX10_account 152 = .ok (.aload_n 0, 1) := by decide +kernel
theorem dX10_account_153 : decode cX10_account 153 = .ok (.getfield 214, 3) := by decide +kernel
theorem dX10_account_156 : decode cX10_account 156 = .ok (.ireturn, 1) := by decide +kernel
theorem dX10_account_157 : decode cX10_account 157 = .ok (.aload_n 0, 1) := by decide +kernel
theorem dX10_account_158 : decode cX10_account 158 = .ok (.getfield 48, 3) := by decide +kernel
theorem dX10_account_161 : decode cX10_account 161 = .ok (.ireturn, 1) := by decide +kernel
theorem dX10_account_162 : decode cX10_account 162 = .ok (.iconst 0, 1) := by decide +kernel
theorem dX10_account_163 : decode cX10_account 163 = .ok (.ireturn, 1) := by decide +kernel
theorem vm_X10_account : aVm yX10_account RX10 cX10_account 2 (some .int) 1 := ⟨tw_1883, tw_1881, tw_1882, tw_15, rfl, by decide +kernel, by decide +kernel, by decide +kernel⟩
theorem dX10_meanDamp_0 : decode cX10_meanDamp 0 = .ok (.aload_n 0, 1) := by decide +kernel
theorem dX10_meanDamp_1 : decode cX10_meanDamp 1 = .ok (.aload_n 0, 1) := by decide +kernel
theorem dX10_meanDamp_2 : decode cX10_meanDamp 2 = .ok (.getfield 9, 3) := by decide +kernel
theorem dX10_meanDamp_5 : decode cX10_meanDamp 5 = .ok (.iconst 0, 1) := by decide +kernel
theorem dX10_meanDamp_6 : decode cX10_meanDamp 6 = .ok (.iaload, 1) := by decide +kernel
theorem dX10_meanDamp_7 : decode cX10_meanDamp 7 = .ok (.ifCond .le 7, 3) := by decide +kernel
theorem dX10_meanDamp_10 : decode cX10_meanDamp 10 = .ok (.iconst 1, 1) := by decide +kernel
theorem dX10_meanDamp_11 : decode cX10_meanDamp 11 = .ok (.goto 4, 3) := by decide +kernel
theorem dX10_meanDamp_14 : decode cX10_meanDamp 14 = .ok (.iconst 0, 1) := by decide +kernel
theorem dX10_meanDamp_15 : decode cX10_meanDamp 15 = .ok (.iconst 1, 1) := by decide +kernel
theorem dX10_meanDamp_16 : decode cX10_meanDamp 16 = .ok (.invokevirtual 74, 3) := by decide +kernel
theorem dX10_meanDamp_19 : decode cX10_meanDamp 19 = .ok (.ifCond .eq 19, 3) := by decide +kernel
theorem dX10_meanDamp_22 : decode cX10_meanDamp 22 = .ok (.aload_n 0, 1) := by decide +kernel
theorem dX10_meanDamp_23 : decode cX10_meanDamp 23 = .ok (.invokevirtual 211, 3) := by decide +kernel
theorem dX10_meanDamp_26 : decode cX10_meanDamp 26 = .ok (.i2d, 1) := by decide +kernel
theorem dX10_meanDamp_27 : decode cX10_meanDamp 27 = .ok (.aload_n 0, 1) := by decide +kernel
theorem dX10_meanDamp_28 : decode cX10_meanDamp 28 = .ok (.getfield 9, 3) := by decide +kernel
theorem dX10_meanDamp_31 : decode cX10_meanDamp 31 = .ok (.iconst 0, 1) := by decide +kernel
theorem dX10_meanDamp_32 : decode cX10_meanDamp 32 = .ok (.iaload, 1) := by decide +kernel
theorem dX10_meanDamp_33 : decode cX10_meanDamp 33 = .ok (.i2d, 1) := by decide +kernel
theorem dX10_meanDamp_34 : decode cX10_meanDamp 34 = .ok (.ddiv, 1) := by decide +kernel
theorem dX10_meanDamp_35 : decode cX10_meanDamp 35 = .ok (.goto 4, 3) := by decide +kernel
theorem dX10_meanDamp_38 : decode cX10_meanDamp 38 = .ok (.dconst 0, 1) := by decide +kernel
theorem dX10_meanDamp_39 : decode cX10_meanDamp 39 = .ok (.dreturn, 1) := by decide +kernel
theorem vm_X10_meanDamp : aVm yX10_meanDamp RX10 cX10_meanDamp 1 (some .double) 0 := ⟨tw_1895, tw_1893, tw_1894, tw_15, rfl, by decide +kernel, by decide +kernel, by decide +kernel⟩
theorem dX10_letShare_0 : decode cX10_letShare 0 = .ok (.aload_n 0, 1) := by decide +kernel
theorem dX10_letShare_1 : decode cX10_letShare 1 = .ok (.aload_n 0, 1) := by decide +kernel
theorem dX10_letShare_2 : decode cX10_letShare 2 = .ok (.getfield 9, 3) := by decide +kernel
theorem dX10_letShare_5 : decode cX10_letShare 5 = .ok (.iconst 1, 1) := by decide +kernel
theorem dX10_letShare_6 : decode cX10_letShare 6 = .ok (.iaload, 1) := by decide +kernel
theorem dX10_letShare_7 : decode cX10_letShare 7 = .ok (.ifCond .le 7, 3) := by decide +kernel
theorem dX10_letShare_10 : decode cX10_letShare 10 = .ok (.iconst 1, 1) := by decide +kernel
theorem dX10_letShare_11 : decode cX10_letShare 11 = .ok (.goto 4, 3) := by decide +kernel
theorem dX10_letShare_14 : decode cX10_letShare 14 = .ok (.iconst 0, 1) := by decide +kernel
theorem dX10_letShare_15 : decode cX10_letShare 15 = .ok (.iconst 1, 1) := by decide +kernel
theorem dX10_letShare_16 : decode cX10_letShare 16 = .ok (.invokevirtual 74, 3) := by decide +kernel
theorem dX10_letShare_19 : decode cX10_letShare 19 = .ok (.ifCond .eq 19, 3) := by decide +kernel
theorem dX10_letShare_22 : decode cX10_letShare 22 = .ok (.aload_n 0, 1) := by decide +kernel
theorem dX10_letShare_23 : decode cX10_letShare 23 = .ok (.invokevirtual 208, 3) := by decide +kernel
theorem dX10_letShare_26 : decode cX10_letShare 26 = .ok (.i2f, 1) := by decide +kernel
theorem dX10_letShare_27 : decode cX10_letShare 27 = .ok (.aload_n 0, 1) := by decide +kernel
theorem dX10_letShare_28 : decode cX10_letShare 28 = .ok (.getfield 9, 3) := by decide +kernel
theorem dX10_letShare_31 : decode cX10_letShare 31 = .ok (.iconst 1, 1) := by decide +kernel
theorem dX10_letShare_32 : decode cX10_letShare 32 = .ok (.iaload, 1) := by decide +kernel
theorem dX10_letShare_33 : decode cX10_letShare 33 = .ok (.i2f, 1) := by decide +kernel
theorem dX10_letShare_34 : decode cX10_letShare 34 = .ok (.fdiv, 1) := by decide +kernel
theorem dX10_letShare_35 : decode cX10_letShare 35 = .ok (.goto 4, 3) := by decide +kernel
theorem dX10_letShare_38 : decode cX10_letShare 38 = .ok (.fconst 0, 1) := by decide +kernel
theorem dX10_letShare_39 : decode cX10_letShare 39 = .ok (.freturn, 1) := by decide +kernel
theorem vm_X10_letShare : aVm yX10_letShare RX10 cX10_letShare 1 (some .float) 0 := ⟨tw_1899, tw_1897, tw_1898, tw_15, rfl, by decide +kernel, by decide +kernel, by decide +kernel⟩
theorem dX10_append_0 : decode cX10_append 0 = .ok (.aload_n 0, 1) := by decide +kernel
theorem dX10_append_1 : decode cX10_append 1 = .ok (.iload_n 1, 1) := by decide +kernel
theorem dX10_append_2 : decode cX10_append 2 = .ok (.bipush 32, 2) := by decide +kernel
theorem dX10_append_4 : decode cX10_append 4 = .ok (.bipush 126, 2) := by decide +kernel
theorem dX10_append_6 : decode cX10_append 6 = .ok (.invokestatic 70, 3) := by decide +kernel
theorem dX10_append_9 : decode cX10_append 9 = .ok (.aload_n 0, 1) := by decide +kernel
theorem dX10_append_10 : decode cX10_append 10 = .ok (.getfield 214, 3) := by decide +kernel
theorem dX10_append_13 : decode cX10_append 13 = .ok (.bipush 60, 2) := by decide +kernel
theorem dX10_append_15 : decode cX10_append 15 = .ok (.if_icmp .ge 7, 3) := by decide +kernel
theorem dX10_append_18 : decode cX10_append 18 = .ok (.iconst 1, 1) := by decide +kernel
theorem dX10_append_19 : decode cX10_append 19 = .ok (.goto 4, 3) := by decide +kernel
theorem dX10_append_22 : decode cX10_append 22 = .ok (.iconst 0, 1) := by decide +kernel
theorem dX10_append_23 : decode cX10_append 23 = .ok (.invokevirtual 74, 3) := by decide +kernel
theorem dX10_append_26 : decode cX10_append 26 = .ok (.ifCond .ne 5, 3) := by decide +kernel
theorem dX10_append_29 : decode cX10_append 29 = .ok (.iconst 0, 1) := by decide +kernel
theorem dX10_append_30 : decode cX10_append 30 = .ok (.ireturn, 1) := by decide +kernel
theorem dX10_append_31 : decode cX10_append 31 = .ok (.aload_n 0, 1) := by decide +kernel
theorem dX10_append_32 : decode cX10_append 32 = .ok (.getfield 26, 3) := by decide +kernel
theorem dX10_append_35 : decode cX10_append 35 = .ok (.aload_n 0, 1) := by decide +kernel
theorem dX10_append_36 : decode cX10_append 36 = .ok (.getfield 214, 3) := by decide +kernel
theorem dX10_append_39 : decode cX10_append 39 = .ok (.iload_n 1, 1) := by decide +kernel
theorem dX10_append_40 : decode cX10_append 40 = .ok (.iastore, 1) := by decide +kernel
theorem dX10_append_41 : decode cX10_append 41 = .ok (.aload_n 0, 1) := by decide +kernel
theorem dX10_append_42 : decode cX10_append 42 = .ok (.dup, 1) := by decide +kernel
theorem dX10_append_43 : decode cX10_append 43 = .ok (.getfield 214, 3) := by decide +kernel
theorem dX10_append_46 : decode cX10_append 46 = .ok (.iconst 1, 1) := by decide +kernel
theorem dX10_append_47 : decode cX10_append 47 = .ok (.iadd, 1) := by decide +kernel
theorem dX10_append_48 : decode cX10_append 48 = .ok (.putfield 214, 3) := by decide +kernel
theorem dX10_append_51 : decode cX10_append 51 = .ok (.aload_n 0, 1) := by decide +kernel
theorem dX10_append_52 : decode cX10_append 52 = .ok (.getfield 214, 3) := by decide +kernel
theorem dX10_append_55 : decode cX10_append 55 = .ok (.ireturn, 1) := by decide +kernel
theorem vm_X10_append : aVm yX10_append RX10 cX10_append 2 (some .int) 1 := ⟨tw_1903, tw_1901, tw_1902, tw_15, rfl, by decide +kernel, by decide +kernel, by decide +kernel⟩
theorem dX10_faultPosition_0 : decode cX10_faultPosition 0 = .ok (.aload_n 0, 1) := by decide +kernel
theorem dX10_faultPosition_1 : decode cX10_faultPosition 1 = .ok (.iconst 0, 1) := by decide +kernel
theorem dX10_faultPosition_2 : decode cX10_faultPosition 2 = .ok (.putfield 35, 3) := by decide +kernel
theorem dX10_faultPosition_5 : decode cX10_faultPosition 5 = .ok (.aload_n 0, 1) := by decide +kernel
theorem dX10_faultPosition_6 : decode cX10_faultPosition 6 = .ok (.getfield 22, 3) := by decide +kernel
theorem dX10_faultPosition_9 : decode cX10_faultPosition 9 = .ok (.ireturn, 1) := by decide +kernel
theorem vm_X10_faultPosition : aVm yX10_faultPosition RX10 cX10_faultPosition 1 (some .int) 0 := ⟨tw_1907, tw_1905, tw_1906, tw_15, rfl, by decide +kernel, by decide +kernel, by decide +kernel⟩
theorem dX10_letterHere_0 : decode cX10_letterHere 0 = .ok (.aload_n 0, 1) := by decide +kernel
theorem dX10_letterHere_1 : decode cX10_letterHere 1 = .ok (.getfield 217, 3) := by decide +kernel
theorem dX10_letterHere_4 : decode cX10_letterHere 4 = .ok (.aload_n 0, 1) := by decide +kernel
theorem dX10_letterHere_5 : decode cX10_letterHere 5 = .ok (.getfield 220, 3) := by decide +kernel
theorem dX10_letterHere_8 : decode cX10_letterHere 8 = .ok (.if_icmp .ge 15, 3) := by decide +kernel
theorem dX10_letterHere_11 : decode cX10_letterHere 11 = .ok (.aload_n 0, 1) := by decide +kernel
theorem dX10_letterHere_12 : decode cX10_letterHere 12 = .ok (.getfield 26, 3) := by decide +kernel
theorem dX10_letterHere_15 : decode cX10_letterHere 15 = .ok (.aload_n 0, 1) := by decide +kernel
theorem dX10_letterHere_16 : decode cX10_letterHere 16 = .ok (.getfield 217, 3) := by decide +kernel
theorem dX10_letterHere_19 : decode cX10_letterHere 19 = .ok (.iaload, 1) := by decide +kernel
theorem dX10_letterHere_20 : decode cX10_letterHere 20 = .ok (.goto 4, 3) := by decide +kernel
theorem dX10_letterHere_23 : decode cX10_letterHere 23 = .ok (.iconst (-1), 1) := by decide +kernel
theorem dX10_letterHere_24 : decode cX10_letterHere 24 = .ok (.ireturn, 1) := by decide +kernel
theorem vm_X10_letterHere : aVm yX10_letterHere RX10 cX10_letterHere 1 (some .int) 0 := ⟨tw_1940, tw_1939, List.mem_append_left _ (List.mem_of_getElem? (i := 68) (by decide +kernel)), tw_15, rfl, by decide +kernel, by decide +kernel, by decide +kernel⟩
theorem dX10_reads_0 : decode cX10_reads 0 = .ok (.aload_n 0, 1) := by decide +kernel
theorem dX10_reads_1 : decode cX10_reads 1 = .ok (.getfield 223, 3) := by decide +kernel
theorem dX10_reads_4 : decode cX10_reads 4 = .ok (.iconst (-1), 1) := by decide +kernel
theorem dX10_reads_5 : decode cX10_reads 5 = .ok (.if_icmp .ne 39, 3) := by decide +kernel
theorem dX10_reads_8 : decode cX10_reads 8 = .ok (.aload_n 0, 1) := by decide +kernel
theorem dX10_reads_9 : decode cX10_reads 9 = .ok (.invokevirtual 226, 3) := by decide +kernel
theorem dX10_reads_12 : decode cX10_reads 12 = .ok (.iload_n 1, 1) := by decide +kernel
theorem dX10_reads_13 : decode cX10_reads 13 = .ok (.iload_n 2, 1) := by decide +kernel
theorem dX10_reads_14 : decode cX10_reads 14 = .ok (.invokestatic 70, 3) := by decide +kernel
theorem dX10_reads_17 : decode cX10_reads 17 = .ok (.ifCond .eq 27, 3) := by decide +kernel
theorem dX10_reads_20 : decode cX10_reads 20 = .ok (.aload_n 0, 1) := by decide +kernel
theorem dX10_reads_21 : decode cX10_reads 21 = .ok (.dup, 1) := by decide +kernel
theorem dX10_reads_22 : decode cX10_reads 22 = .ok (.getfield 217, 3) := by decide +kernel
theorem dX10_reads_25 : decode cX10_reads 25 = .ok (.iconst 1, 1) := by decide +kernel
theorem dX10_reads_26 : decode cX10_reads 26 = .ok (.iadd, 1) := by decide +kernel
theorem dX10_reads_27 : decode cX10_reads 27 = .ok (.putfield 217, 3) := by decide +kernel
theorem dX10_reads_30 : decode cX10_reads 30 = .ok (.aload_n 0, 1) := by decide +kernel
theorem dX10_reads_31 : decode cX10_reads 31 = .ok (.getfield 26, 3) := by decide +kernel
theorem dX10_reads_34 : decode cX10_reads 34 = .ok (.aload_n 0, 1) := by decide +kernel
theorem dX10_reads_35 : decode cX10_reads 35 = .ok (.getfield 217, 3) := by decide +kernel
theorem dX10_reads_38 : decode cX10_reads 38 = .ok (.iconst 1, 1) := by decide +kernel
theorem dX10_reads_39 : decode cX10_reads 39 = .ok (.isub, 1) := by decide +kernel
theorem dX10_reads_40 : decode cX10_reads 40 = .ok (.iaload, 1) := by decide +kernel
theorem dX10_reads_41 : decode cX10_reads 41 = .ok (.iload_n 1, 1) := by decide +kernel
theorem dX10_reads_42 : decode cX10_reads 42 = .ok (.isub, 1) := by decide +kernel
theorem dX10_reads_43 : decode cX10_reads 43 = .ok (.ireturn, 1) := by decide +kernel
theorem dX10_reads_44 : decode cX10_reads 44 = .ok (.aload_n 0, 1) := by decide +kernel
theorem dX10_reads_45 : decode cX10_reads 45 = .ok (.aload_n 0, 1) := by decide +kernel
theorem dX10_reads_46 : decode cX10_reads 46 = .ok (.getfield 223, 3) := by decide +kernel
theorem dX10_reads_49 : decode cX10_reads 49 = .ok (.iconst (-1), 1) := by decide +kernel
theorem dX10_reads_50 : decode cX10_reads 50 = .ok (.if_icmp .ne 10, 3) := by decide +kernel
theorem dX10_reads_53 : decode cX10_reads 53 = .ok (.aload_n 0, 1) := by decide +kernel
theorem dX10_reads_54 : decode cX10_reads 54 = .ok (.getfield 217, 3) := by decide +kernel
theorem dX10_reads_57 : decode cX10_reads 57 = .ok (.goto 7, 3) := by decide +kernel
theorem dX10_reads_60 : decode cX10_reads 60 = .ok (.aload_n 0, 1) := by decide +kernel
theorem dX10_reads_61 : decode cX10_reads 61 = .ok (.getfield 223, 3) := by decide +kernel
theorem dX10_reads_64 : decode cX10_reads 64 = .ok (.putfield 223, 3) := by decide +kernel
theorem dX10_reads_67 : decode cX10_reads 67 = .ok (.iconst 0, 1) := by decide +kernel
theorem dX10_reads_68 : decode cX10_reads 68 = .ok (.ireturn, 1) := by decide +kernel
theorem vm_X10_reads : aVm yX10_reads RX10 cX10_reads 3 (some .int) 2 := ⟨tw_1936, tw_1935, List.mem_append_left _ (List.mem_of_getElem? (i := 67) (by decide +kernel)), tw_15, rfl, by decide +kernel, by decide +kernel, by decide +kernel⟩
theorem dX10_digit_0 : decode cX10_digit 0 = .ok (.aload_n 0, 1) := by decide +kernel
theorem dX10_digit_1 : decode cX10_digit 1 = .ok (.bipush 48, 2) := by decide +kernel
theorem dX10_digit_3 : decode cX10_digit 3 = .ok (.bipush 57, 2) := by decide +kernel
theorem dX10_digit_5 : decode cX10_digit 5 = .ok (.invokevirtual 229, 3) := by decide +kernel
theorem dX10_digit_8 : decode cX10_digit 8 = .ok (.ireturn, 1) := by decide +kernel
theorem vm_X10_digit : aVm yX10_digit RX10 cX10_digit 1 (some .int) 0 := ⟨tw_1932, tw_1931, List.mem_append_left _ (List.mem_of_getElem? (i := 66) (by decide +kernel)), tw_15, rfl, by decide +kernel, by decide +kernel, by decide +kernel⟩
theorem dX10_behind_0 : decode cX10_behind 0 = .ok (.aload_n 0, 1) := by decide +kernel
theorem dX10_behind_1 : decode cX10_behind 1 = .ok (.bipush 32, 2) := by decide +kernel
theorem dX10_behind_3 : decode cX10_behind 3 = .ok (.bipush 32, 2) := by decide +kernel
theorem dX10_behind_5 : decode cX10_behind 5 = .ok (.invokevirtual 229, 3) := by decide +kernel
theorem dX10_behind_8 : decode cX10_behind 8 = .ok (.istore_n 1, 1) := by decide +kernel
theorem dX10_behind_9 : decode cX10_behind 9 = .ok (.aload_n 0, 1) := by decide +kernel
theorem dX10_behind_10 : decode cX10_behind 10 = .ok (.invokevirtual 232, 3) := by decide +kernel
theorem dX10_behind_13 : decode cX10_behind 13 = .ok (.ireturn, 1) := by decide +kernel
theorem vm_X10_behind : aVm yX10_behind RX10 cX10_behind 2 (some .int) 0 := ⟨tw_1944, tw_1943, List.mem_append_left _ (List.mem_of_getElem? (i := 69) (by decide +kernel)), tw_15, rfl, by decide +kernel, by decide +kernel, by decide +kernel⟩
theorem dX10_startOf_0 : decode cX10_startOf 0 = .ok (.iload_n 0, 1) := by decide +kernel
theorem dX10_startOf_1 : decode cX10_startOf 1 = .ok (.tableswitch 83 0 9 #[55, 57, 59, 62, 65, 68, 71, 74, 77, 80], 55) := by decide +kernel
theorem dX10_startOf_56 : decode cX10_startOf 56 = .ok (.iconst 0, 1) := by decide +kernel
theorem dX10_startOf_57 : decode cX10_startOf 57 = .ok (.ireturn, 1) := by decide +kernel
theorem dX10_startOf_58 : decode cX10_startOf 58 = .ok (.iconst 5, 1) := by decide +kernel
theorem dX10_startOf_59 : decode cX10_startOf 59 = .ok (.ireturn, 1) := by decide +kernel
theorem dX10_startOf_60 : decode cX10_startOf 60 = .ok (.bipush 10, 2) := by decide +kernel
theorem dX10_startOf_62 : decode cX10_startOf 62 = .ok (.ireturn, 1) := by decide +kernel
theorem dX10_startOf_63 : decode cX10_startOf 63 = .ok (.bipush 17, 2) := by decide +kernel
theorem dX10_startOf_65 : decode cX10_startOf 65 = .ok (.ireturn, 1) := by decide +kernel
theorem dX10_startOf_66 : decode cX10_startOf 66 = .ok (.bipush 23, 2) := by decide +kernel
theorem dX10_startOf_68 : decode cX10_startOf 68 = .ok (.ireturn, 1) := by decide +kernel
theorem dX10_startOf_69 : decode cX10_startOf 69 = .ok (.bipush 27, 2) := by decide +kernel
theorem dX10_startOf_71 : decode cX10_startOf 71 = .ok (.ireturn, 1) := by decide +kernel
theorem dX10_startOf_72 : decode cX10_startOf 72 = .ok (.bipush 33, 2) := by decide +kernel
theorem dX10_startOf_74 : decode cX10_startOf 74 = .ok (.ireturn, 1) := by decide +kernel
theorem dX10_startOf_75 : decode cX10_startOf 75 = .ok (.bipush 38, 2) := by decide +kernel
theorem dX10_startOf_77 : decode cX10_startOf 77 = .ok (.ireturn, 1) := by decide +kernel
theorem dX10_startOf_78 : decode cX10_startOf 78 = .ok (.bipush 43, 2) := by decide +kernel
theorem dX10_startOf_80 : decode cX10_startOf 80 = .ok (.ireturn, 1) := by decide +kernel
theorem dX10_startOf_81 : decode cX10_startOf 81 = .ok (.bipush 48, 2) := by decide +kernel
theorem dX10_startOf_83 : decode cX10_startOf 83 = .ok (.ireturn, 1) := by decide +kernel
theorem dX10_startOf_84 : decode cX10_startOf 84 = .ok (.bipush 53, 2) := by decide +kernel
theorem dX10_startOf_86 : decode cX10_startOf 86 = .ok (.ireturn, 1) := by decide +kernel
theorem sm_X10_startOf : aSm yX10_startOf cX10_startOf 1 (some .int) 1 := ⟨tw_1926, tw_1925, tw_15, by decide +kernel, by decide +kernel, by decide +kernel⟩
def w_X10_put (x1 : Int32) (x2 : Int32) (q : aS) (P : Int32 → aS → Prop) : Prop := (vp_in x1 60 ∧ ∀ q3 : aS, q3 = (up2 q.1 6 (Int32.toNatClampNeg x1) x2, q.2) → P (x1 + 1) q3)
def JX10_writesNumber_22 (j2 : Int32) (s0 : Int32) (P : Int32 → aS → Prop) (q : aS) : Prop := w_X10_put s0 (48 + (j2 - j2 / 10 * 10)) q (fun r5 q6 => P r5 q6)
def w_X10_writesNumber (x1 : Int32) (x2 : Int32) (q : aS) (P : Int32 → aS → Prop) : Prop := ((10 ≤ x2 → w_X10_put x1 (48 + (x2 / 10)) q (fun r3 q4 => JX10_writesNumber_22 x2 r3 P q4)) ∧ (¬ 10 ≤ x2 → JX10_writesNumber_22 x2 x1 P q))
def LX10_tellRoom_76 (c1 : Int32) (P : Int32 → aS → Prop) (K : Int32 → aS → Prop) : Nat → Int32 → Int32 → aS → Prop
  | 0, _, _, _ => False
  | N + 1, v2, v3, q => (vp_in 1 97 ∧ (((q.1 1 (Int32.toNatClampNeg 1)) ≤ v3 → K v2 q) ∧ (¬ (q.1 1 (Int32.toNatClampNeg 1)) ≤ v3 → w_X10_echoAt v3 q (fun r22 q23 => (vp_in (r22 + 0) 97 ∧ ((¬ (q23.1 1 (Int32.toNatClampNeg (r22 + 0))) = c1 → ∀ x24 : Int32, x24 = v3 + 1 → (LX10_tellRoom_76 c1 P K N) v2 x24 q23) ∧ ((q23.1 1 (Int32.toNatClampNeg (r22 + 0))) = c1 → w_X10_writesNumber v2 v3 q23 (fun r25 q26 => w_X10_echoAt v3 q26 (fun r27 q28 => (vp_in (r27 + 2) 97 ∧ ((¬ (q28.1 1 (Int32.toNatClampNeg (r27 + 2))) = (-1) → w_X10_put r25 42 q28 (fun r29 q30 => ∀ x31 : Int32, x31 = v3 + 1 → (LX10_tellRoom_76 c1 P K N) r29 x31 q30)) ∧ ((q28.1 1 (Int32.toNatClampNeg (r27 + 2))) = (-1) → ∀ x32 : Int32, x32 = v3 + 1 → (LX10_tellRoom_76 c1 P K N) r25 x32 q28))))))))))))
def LX10_tellRoom_143 (c1 : Int32) (P : Int32 → aS → Prop) (K : Int32 → aS → Prop) : Nat → Int32 → Int32 → aS → Prop
  | 0, _, _, _ => False
  | N + 1, v2, v3, q => (vp_in 2 97 ∧ (((q.1 1 (Int32.toNatClampNeg 2)) ≤ v3 → K v2 q) ∧ (¬ (q.1 1 (Int32.toNatClampNeg 2)) ≤ v3 → w_X10_singerAt v3 q (fun r35 q36 => (vp_in (r35 + 2) 97 ∧ ((¬ (q36.1 1 (Int32.toNatClampNeg (r35 + 2))) = c1 → ∀ x37 : Int32, x37 = v3 + 1 → (LX10_tellRoom_143 c1 P K N) v2 x37 q36) ∧ ((q36.1 1 (Int32.toNatClampNeg (r35 + 2))) = c1 → w_X10_put v2 115 q36 (fun r38 q39 => w_X10_writesNumber r38 v3 q39 (fun r40 q41 => ∀ x42 : Int32, x42 = v3 + 1 → (LX10_tellRoom_143 c1 P K N) r40 x42 q41)))))))))
def w_X10_tellRoom (x1 : Int32) (q : aS) (P : Int32 → aS → Prop) : Prop := w_X10_isRoom x1 q (fun r2 q3 => w_X10_goes r2 1 q3 (fun r4 q5 => ((¬ r4 = 0 → w_X10_writesNumber 0 x1 q5 (fun r6 q7 => w_X10_put r6 91 q7 (fun r8 q9 => w_X10_roomAt x1 q9 (fun r10 q11 => (vp_in (r10 + 0) 97 ∧ w_X10_writesNumber r8 (q11.1 1 (Int32.toNatClampNeg (r10 + 0))) q11 (fun r12 q13 => w_X10_put r12 126 q13 (fun r14 q15 => w_X10_roomAt x1 q15 (fun r16 q17 => (vp_in (r16 + 1) 97 ∧ w_X10_writesNumber r14 (q17.1 1 (Int32.toNatClampNeg (r16 + 1))) q17 (fun r18 q19 => w_X10_put r18 93 q19 (fun r20 q21 => ∃ M47, LX10_tellRoom_76 x1 P (fun y33 q34 => ∃ M46, LX10_tellRoom_143 x1 P (fun y43 q44 => ∀ q45 : aS, q45 = (up2 q44.1 0 14 y43, q44.2) → P y43 q45) M46 y33 0 q34) M47 r20 0 q21))))))))))) ∧ (r4 = 0 → P 0 q5))))
def w_X10_tellEcho (x1 : Int32) (q : aS) (P : Int32 → aS → Prop) : Prop := w_X10_isEcho x1 q (fun r2 q3 => w_X10_goes r2 1 q3 (fun r4 q5 => ((¬ r4 = 0 → w_X10_echoAt x1 q5 (fun r6 q7 => w_X10_writesNumber 0 x1 q7 (fun r8 q9 => w_X10_put r8 94 q9 (fun r10 q11 => (vp_in (r6 + 1) 97 ∧ w_X10_writesNumber r10 (q11.1 1 (Int32.toNatClampNeg (r6 + 1))) q11 (fun r12 q13 => w_X10_put r12 64 q13 (fun r14 q15 => (vp_in (r6 + 0) 97 ∧ w_X10_writesNumber r14 (q15.1 1 (Int32.toNatClampNeg (r6 + 0))) q15 (fun r16 q17 => (vp_in (r6 + 2) 97 ∧ (((q17.1 1 (Int32.toNatClampNeg (r6 + 2))) = (-1) → ∀ q18 : aS, q18 = (up2 q17.1 0 14 r16, q17.2) → P r16 q18) ∧ (¬ (q17.1 1 (Int32.toNatClampNeg (r6 + 2))) = (-1) → w_X10_put r16 61 q17 (fun r19 q20 => (vp_in (r6 + 2) 97 ∧ w_X10_writesNumber r19 (q20.1 1 (Int32.toNatClampNeg (r6 + 2))) q20 (fun r21 q22 => w_X10_put r21 47 q22 (fun r23 q24 => (vp_in (r6 + 3) 97 ∧ w_X10_writesNumber r23 (q24.1 1 (Int32.toNatClampNeg (r6 + 3))) q24 (fun r25 q26 => ∀ q27 : aS, q27 = (up2 q26.1 0 14 r25, q26.2) → P r25 q27)))))))))))))))))) ∧ (r4 = 0 → P 0 q5))))
def w_X10_tellSinger (x1 : Int32) (q : aS) (P : Int32 → aS → Prop) : Prop := w_X10_isSinger x1 q (fun r2 q3 => w_X10_goes r2 1 q3 (fun r4 q5 => ((¬ r4 = 0 → w_X10_singerAt x1 q5 (fun r6 q7 => w_X10_writesNumber 0 x1 q7 (fun r8 q9 => w_X10_put r8 33 q9 (fun r10 q11 => (vp_in (r6 + 0) 97 ∧ w_X10_writesNumber r10 (q11.1 1 (Int32.toNatClampNeg (r6 + 0))) q11 (fun r12 q13 => w_X10_put r12 37 q13 (fun r14 q15 => (vp_in (r6 + 1) 97 ∧ w_X10_writesNumber r14 (q15.1 1 (Int32.toNatClampNeg (r6 + 1))) q15 (fun r16 q17 => (vp_in (r6 + 2) 97 ∧ ((¬ (q17.1 1 (Int32.toNatClampNeg (r6 + 2))) = (-1) → w_X10_put r16 64 q17 (fun r18 q19 => (vp_in (r6 + 2) 97 ∧ w_X10_writesNumber r18 (q19.1 1 (Int32.toNatClampNeg (r6 + 2))) q19 (fun r20 q21 => ∀ q22 : aS, q22 = (up2 q21.1 0 14 r20, q21.2) → P (q22.1 0 14) q22)))) ∧ ((q17.1 1 (Int32.toNatClampNeg (r6 + 2))) = (-1) → ∀ q23 : aS, q23 = (up2 q17.1 0 14 r16, q17.2) → P (q23.1 0 14) q23)))))))))))) ∧ (r4 = 0 → P 0 q5))))
def w_X10_character (x1 : Int32) (q : aS) (P : Int32 → aS → Prop) : Prop := w_X10_isIn x1 0 ((q.1 0 14) - 1) q (fun r2 q3 => w_X10_goes r2 1 q3 (fun r4 q5 => ((r4 = 0 → (narrow .char (.int 0) = .int 0 ∧ P 0 q5)) ∧ (¬ r4 = 0 → (vp_in x1 60 ∧ (narrow .char (.int ((Int32.toUInt32 (q5.1 6 (Int32.toNatClampNeg x1)) % 65536).toInt32)) = .int ((Int32.toUInt32 (q5.1 6 (Int32.toNatClampNeg x1)) % 65536).toInt32) ∧ P ((Int32.toUInt32 (q5.1 6 (Int32.toNatClampNeg x1)) % 65536).toInt32) q5))))))
def LX10_allDamp_4 (P : Int32 → aS → Prop) (K : Int32 → aS → Prop) : Nat → Int32 → Int32 → aS → Prop
  | 0, _, _, _ => False
  | N + 1, v1, v2, q => (vp_in 0 97 ∧ (((q.1 1 (Int32.toNatClampNeg 0)) ≤ v2 → K v1 q) ∧ (¬ (q.1 1 (Int32.toNatClampNeg 0)) ≤ v2 → w_X10_roomAt v2 q (fun r1 q2 => (vp_in (r1 + 1) 97 ∧ ∀ x3 : Int32, x3 = (v1 + (q2.1 1 (Int32.toNatClampNeg (r1 + 1)))) → ∀ x4 : Int32, x4 = v2 + 1 → (LX10_allDamp_4 P K N) x3 x4 q2)))))
def w_X10_allDamp (q : aS) (P : Int32 → aS → Prop) : Prop := ∃ M7, LX10_allDamp_4 P (fun y5 q6 => P y5 q6) M7 0 0 q
def LX10_allLet_4 (P : Int32 → aS → Prop) (K : Int32 → aS → Prop) : Nat → Int32 → Int32 → aS → Prop
  | 0, _, _, _ => False
  | N + 1, v1, v2, q => (vp_in 2 97 ∧ (((q.1 1 (Int32.toNatClampNeg 2)) ≤ v2 → K v1 q) ∧ (¬ (q.1 1 (Int32.toNatClampNeg 2)) ≤ v2 → w_X10_letTo v2 0 q (fun r1 q2 => ∀ x3 : Int32, x3 = (v1 + r1) → ∀ x4 : Int32, x4 = v2 + 1 → (LX10_allLet_4 P K N) x3 x4 q2))))
def w_X10_allLet (q : aS) (P : Int32 → aS → Prop) : Prop := ∃ M7, LX10_allLet_4 P (fun y5 q6 => P y5 q6) M7 0 0 q
def JX10_account_116 (j1 : Int32) (P : Int32 → aS → Prop) (q : aS) : Prop := (vp_in ((4 + j1) - 6) 97 ∧ P (q.1 1 (Int32.toNatClampNeg ((4 + j1) - 6))) q)
def JX10_account_16 (j1 : Int32) (s0 : Int32) (P : Int32 → aS → Prop) (q : aS) : Prop := ∀ q4 : aS, q4 = (up2 q.1 0 15 s0, q.2) → ((j1 = 0 → (vp_in j1 97 ∧ P (q4.1 1 (Int32.toNatClampNeg j1)) q4)) ∧ (¬ j1 = 0 → ((j1 = 1 → (vp_in j1 97 ∧ P (q4.1 1 (Int32.toNatClampNeg j1)) q4)) ∧ (¬ j1 = 1 → ((j1 = 2 → (vp_in j1 97 ∧ P (q4.1 1 (Int32.toNatClampNeg j1)) q4)) ∧ (¬ j1 = 2 → ((j1 = 3 → w_X10_allLet q4 (fun r5 q6 => P r5 q6)) ∧ (¬ j1 = 3 → ((j1 = 4 → (vp_in 3 97 ∧ P (q4.1 1 (Int32.toNatClampNeg 3)) q4)) ∧ (¬ j1 = 4 → ((j1 = 5 → w_X10_allDamp q4 (fun r7 q8 => P r7 q8)) ∧ (¬ j1 = 5 → ((j1 = 6 → JX10_account_116 j1 P q4) ∧ (¬ j1 = 6 → ((j1 = 7 → JX10_account_116 j1 P q4) ∧ (¬ j1 = 7 → ((j1 = 8 → JX10_account_116 j1 P q4) ∧ (¬ j1 = 8 → ((j1 = 9 → JX10_account_116 j1 P q4) ∧ (¬ j1 = 9 → ((j1 = 10 → JX10_account_116 j1 P q4) ∧ (¬ j1 = 10 → ((j1 = 11 → (vp_in 6 97 ∧ (vp_in 7 97 ∧ (vp_in 8 97 ∧ P (((q4.1 1 (Int32.toNatClampNeg 6)) - (q4.1 1 (Int32.toNatClampNeg 7))) - (q4.1 1 (Int32.toNatClampNeg 8))) q4)))) ∧ (¬ j1 = 11 → ((j1 = 12 → P (q4.1 0 12) q4) ∧ (¬ j1 = 12 → ((j1 = 13 → P (q4.1 0 5) q4) ∧ (¬ j1 = 13 → P 0 q4))))))))))))))))))))))))))))
def w_X10_account (x1 : Int32) (q : aS) (P : Int32 → aS → Prop) : Prop := w_X10_isIn x1 0 13 q (fun r2 q3 => ((r2 = 0 → JX10_account_16 x1 1 P q3) ∧ (¬ r2 = 0 → JX10_account_16 x1 0 P q3)))
def JX10_meanDamp_15 (s0 : Int32) (P : UInt64 → aS → Prop) (q : aS) : Prop := w_X10_goes s0 1 q (fun r1 q2 => ((r1 = 0 → P FP.dconst0 q2) ∧ (¬ r1 = 0 → w_X10_allDamp q2 (fun r3 q4 => (vp_in 0 97 ∧ (vf_n64 (FP.ddiv (FP.i2d r3) (FP.i2d (q4.1 1 (Int32.toNatClampNeg 0)))) ∧ P (FP.ddiv (FP.i2d r3) (FP.i2d (q4.1 1 (Int32.toNatClampNeg 0)))) q4))))))
def w_X10_meanDamp (q : aS) (P : UInt64 → aS → Prop) : Prop := (vp_in 0 97 ∧ (((q.1 1 (Int32.toNatClampNeg 0)) ≤ 0 → JX10_meanDamp_15 0 P q) ∧ (¬ (q.1 1 (Int32.toNatClampNeg 0)) ≤ 0 → JX10_meanDamp_15 1 P q)))
def JX10_letShare_15 (s0 : Int32) (P : UInt32 → aS → Prop) (q : aS) : Prop := w_X10_goes s0 1 q (fun r1 q2 => ((r1 = 0 → P FP.fconst0 q2) ∧ (¬ r1 = 0 → w_X10_allLet q2 (fun r3 q4 => (vp_in 1 97 ∧ (vf_n32 (FP.fdiv (FP.i2f r3) (FP.i2f (q4.1 1 (Int32.toNatClampNeg 1)))) ∧ P (FP.fdiv (FP.i2f r3) (FP.i2f (q4.1 1 (Int32.toNatClampNeg 1)))) q4))))))
def w_X10_letShare (q : aS) (P : UInt32 → aS → Prop) : Prop := (vp_in 1 97 ∧ (((q.1 1 (Int32.toNatClampNeg 1)) ≤ 0 → JX10_letShare_15 0 P q) ∧ (¬ (q.1 1 (Int32.toNatClampNeg 1)) ≤ 0 → JX10_letShare_15 1 P q)))
def JX10_append_23 (j1 : Int32) (s0 : Int32) (s1 : Int32) (P : Int32 → aS → Prop) (q : aS) : Prop := w_X10_goes s1 s0 q (fun r4 q5 => ((¬ r4 = 0 → (vp_in (q5.1 0 12) 60 ∧ ∀ q6 : aS, q6 = (up2 q5.1 5 (Int32.toNatClampNeg (q5.1 0 12)) j1, q5.2) → ∀ q7 : aS, q7 = (up2 q6.1 0 12 ((q6.1 0 12) + 1), q6.2) → P (q7.1 0 12) q7)) ∧ (r4 = 0 → P 0 q5)))
def w_X10_append (x1 : Int32) (q : aS) (P : Int32 → aS → Prop) : Prop := w_X10_isIn x1 32 126 q (fun r2 q3 => ((60 ≤ (q3.1 0 12) → JX10_append_23 x1 0 r2 P q3) ∧ (¬ 60 ≤ (q3.1 0 12) → JX10_append_23 x1 1 r2 P q3)))
def w_X10_faultPosition (q : aS) (P : Int32 → aS → Prop) : Prop := ∀ q1 : aS, q1 = (up2 q.1 0 15 0, q.2) → P (q1.1 0 10) q1
def w_X10_letterHere (q : aS) (P : Int32 → aS → Prop) : Prop := (((q.1 0 18) ≤ (q.1 0 19) → P (-1) q) ∧ (¬ (q.1 0 18) ≤ (q.1 0 19) → (vp_in (q.1 0 19) 60 ∧ P (q.1 5 (Int32.toNatClampNeg (q.1 0 19))) q)))
def JX10_reads_44 (P : Int32 → aS → Prop) (q : aS) : Prop := ((¬ (q.1 0 20) = (-1) → ∀ q3 : aS, q3 = (up2 q.1 0 20 (q.1 0 20), q.2) → P 0 q3) ∧ ((q.1 0 20) = (-1) → ∀ q4 : aS, q4 = (up2 q.1 0 20 (q.1 0 19), q.2) → P 0 q4))
def w_X10_reads (x1 : Int32) (x2 : Int32) (q : aS) (P : Int32 → aS → Prop) : Prop := ((¬ (q.1 0 20) = (-1) → JX10_reads_44 P q) ∧ ((q.1 0 20) = (-1) → w_X10_letterHere q (fun r5 q6 => w_X10_isIn r5 x1 x2 q6 (fun r7 q8 => ((r7 = 0 → JX10_reads_44 P q8) ∧ (¬ r7 = 0 → ∀ q9 : aS, q9 = (up2 q8.1 0 19 ((q8.1 0 19) + 1), q8.2) → (vp_in ((q9.1 0 19) - 1) 60 ∧ P ((q9.1 5 (Int32.toNatClampNeg ((q9.1 0 19) - 1))) - x1) q9)))))))
def w_X10_digit (q : aS) (P : Int32 → aS → Prop) : Prop := w_X10_reads 48 57 q (fun r1 q2 => P r1 q2)
def w_X10_behind (q : aS) (P : Int32 → aS → Prop) : Prop := w_X10_reads 32 32 q (fun r1 q2 => w_X10_digit q2 (fun r3 q4 => P r3 q4))
def w_X10_startOf (x1 : Int32) (q : aS) (P : Int32 → aS → Prop) : Prop := ((x1 = 0 → P 0 q) ∧ (¬ x1 = 0 → ((x1 = 1 → P 5 q) ∧ (¬ x1 = 1 → ((x1 = 2 → P 10 q) ∧ (¬ x1 = 2 → ((x1 = 3 → P 17 q) ∧ (¬ x1 = 3 → ((x1 = 4 → P 23 q) ∧ (¬ x1 = 4 → ((x1 = 5 → P 27 q) ∧ (¬ x1 = 5 → ((x1 = 6 → P 33 q) ∧ (¬ x1 = 6 → ((x1 = 7 → P 38 q) ∧ (¬ x1 = 7 → ((x1 = 8 → P 43 q) ∧ (¬ x1 = 8 → ((x1 = 9 → P 48 q) ∧ (¬ x1 = 9 → P 53 q))))))))))))))))))))
set_option maxRecDepth 20000 in
theorem t_X10_put {l : Launch} {g : aG} (hX : isM g) (hl : l.stackTraces = false) (x1 : Int32) (x2 : Int32) (q : aS) (P : Int32 → aS → Prop) (h : w_X10_put x1 x2 q P) : aMi l g yX10_put (aWs yX10_put cX10_put 3 (some .int)) 0 0 0 [.ref (gAd g 0), .int x1, .int x2] q P (fun _ _ => False) := by
  refine aMi_of RX10 ⟨by decide +kernel, rfl⟩ (cat_all rfl) (Nat.le_of_ble_eq_true rfl) hl hX.cl (fun f hR hC hE => ?_)
  show AW f g 0 [some (.ref (gAd g 0)), some (.int x1), some (.int x2)] [] q 0 0
  unfold w_X10_put at h
  refine a_aload_n (pc := 0) hC dX10_put_0 rfl ?_
  refine a_get (pc := 1) hC cl_X10 (oM_0 hX) 13 (by decide) tw_1517 rfl dX10_put_1 ?_
  refine a_iload_n (pc := 4) hC dX10_put_4 rfl ?_
  refine a_iload_n (pc := 5) hC dX10_put_5 rfl ?_
  refine a_iast (pc := 6) hC (oM_6 hX) h.1 dX10_put_6 ?_
  replace h := h.2
  replace h := h _ rfl
  refine a_iload_n (pc := 7) hC dX10_put_7 rfl ?_
  refine a_iconst (pc := 8) hC dX10_put_8 (v := 1) rfl ?_
  refine a_iadd (pc := 9) hC dX10_put_9 ?_
  exact a_iret (pc := 10) hC hE h (Nat.le_of_ble_eq_true rfl) (Nat.le_of_ble_eq_true rfl) dX10_put_10
set_option maxRecDepth 20000 in
theorem tJX10_writesNumber_22 {f : aF} {g : aG} (hX : isM g) (P : Int32 → aS → Prop) (hR : f_R f = aR 1 0 0) (hC : aOK f g cX10_writesNumber 4 RX10) (hE : aEi f g .int P (fun _ _ => False) 0 0) (j2 : Int32) (s0 : Int32) (q : aS) (h : JX10_writesNumber_22 j2 s0 P q) : AW f g 22 [some (.ref (gAd g 0)), none, some (.int j2), none] [.int s0] q 0 0 := by
  unfold JX10_writesNumber_22 at h
  refine a_istore_n (pc := 22) hC dX10_writesNumber_22 (Nat.le_of_ble_eq_true rfl) ?_
  refine a_aload_n (pc := 23) hC dX10_writesNumber_23 rfl ?_
  refine a_iload_n (pc := 24) hC dX10_writesNumber_24 rfl ?_
  refine a_bipush (pc := 25) hC dX10_writesNumber_25 (v := 48) rfl ?_
  refine a_iload_n (pc := 27) hC dX10_writesNumber_27 rfl ?_
  refine a_bipush (pc := 28) hC dX10_writesNumber_28 (v := 10) rfl ?_
  refine a_irem (pc := 30) hC dX10_writesNumber_30 (by decide) ?_
  refine a_iadd (pc := 31) hC dX10_writesNumber_31 ?_
  refine a_callV (pc := 32) hC hR vm_X10_put tw_1864 cl_X10 (oM_0 hX) ⟨(Nat.le_of_ble_eq_true rfl), (Nat.le_of_ble_eq_true rfl), (Nat.le_of_ble_eq_true rfl), (Nat.le_of_ble_eq_true rfl)⟩ dX10_writesNumber_32 (t_X10_put hX hC.tr _ _ _ _ h) rfl rfl rfl (Nat.le_of_ble_eq_true rfl) (fun r5 q6 h => ?_)
  exact a_iret (pc := 35) hC hE h (Nat.le_of_ble_eq_true rfl) (Nat.le_of_ble_eq_true rfl) dX10_writesNumber_35
set_option maxRecDepth 20000 in
theorem t_X10_writesNumber {l : Launch} {g : aG} (hX : isM g) (hl : l.stackTraces = false) (x1 : Int32) (x2 : Int32) (q : aS) (P : Int32 → aS → Prop) (h : w_X10_writesNumber x1 x2 q P) : aMi l g yX10_writesNumber (aWs yX10_writesNumber cX10_writesNumber 4 (some .int)) 1 0 0 [.ref (gAd g 0), .int x1, .int x2] q P (fun _ _ => False) := by
  refine aMi_of RX10 ⟨by decide +kernel, rfl⟩ (cat_all rfl) (Nat.le_of_ble_eq_true rfl) hl hX.cl (fun f hR hC hE => ?_)
  show AW f g 0 [some (.ref (gAd g 0)), some (.int x1), some (.int x2), none] [] q 0 0
  unfold w_X10_writesNumber at h
  refine a_iload_n (pc := 0) hC dX10_writesNumber_0 rfl ?_
  refine a_bipush (pc := 1) hC dX10_writesNumber_1 (v := 10) rfl ?_
  refine a_icmp_ge (pc := 3) (tgt := 10) hC dX10_writesNumber_3 (by decide) (fun c => ?_) (fun c => ?_)
  · replace h := h.1 c
    refine a_aload_n (pc := 10) hC dX10_writesNumber_10 rfl ?_
    refine a_iload_n (pc := 11) hC dX10_writesNumber_11 rfl ?_
    refine a_bipush (pc := 12) hC dX10_writesNumber_12 (v := 48) rfl ?_
    refine a_iload_n (pc := 14) hC dX10_writesNumber_14 rfl ?_
    refine a_bipush (pc := 15) hC dX10_writesNumber_15 (v := 10) rfl ?_
    refine a_idiv (pc := 17) hC dX10_writesNumber_17 (by decide) ?_
    refine a_iadd (pc := 18) hC dX10_writesNumber_18 ?_
    refine a_callV (pc := 19) hC hR vm_X10_put tw_1864 cl_X10 (oM_0 hX) ⟨(Nat.le_of_ble_eq_true rfl), (Nat.le_of_ble_eq_true rfl), (Nat.le_of_ble_eq_true rfl), (Nat.le_of_ble_eq_true rfl)⟩ dX10_writesNumber_19 (t_X10_put hX hC.tr _ _ _ _ h) rfl rfl rfl (Nat.le_of_ble_eq_true rfl) (fun r3 q4 h => ?_)
    exact (tJX10_writesNumber_22 hX P hR hC hE _ _ _ h).forget ⟨rfl, rfl, trivial⟩
  · replace h := h.2 c
    refine a_iload_n (pc := 6) hC dX10_writesNumber_6 rfl ?_
    refine a_goto (pc := 7) (tgt := 22) hC dX10_writesNumber_7 (by decide) ?_
    exact (tJX10_writesNumber_22 hX P hR hC hE _ _ _ h).forget ⟨rfl, rfl, trivial⟩
set_option maxRecDepth 20000 in
theorem tLX10_tellRoom_76 {f : aF} {g : aG} (hX : isM g) (P : Int32 → aS → Prop) (hR : f_R f = aR 2 0 0) (hC : aOK f g cX10_tellRoom 4 RX10) (hE : aEi f g .int P (fun _ _ => False) 0 0) (c1 : Int32) {K : Int32 → aS → Prop} (hK : ∀ (w2 : Int32) (q : aS), K w2 q → AW f g 141 [some (.ref (gAd g 0)), some (.int c1), some (.int w2), none] [] q 0 0) : ∀ (N : Nat) (v2 : Int32) (v3 : Int32) (q : aS), LX10_tellRoom_76 c1 P K N v2 v3 q → AW f g 76 [some (.ref (gAd g 0)), some (.int c1), some (.int v2), some (.int v3)] [] q 0 0 := by
  intro N
  induction N with
  | zero =>
    intro v2 v3 q h
    exact h.elim
  | succ N ih =>
    intro v2 v3 q h
    unfold LX10_tellRoom_76 at h
    refine a_iload_n (pc := 76) hC dX10_tellRoom_76 rfl ?_
    refine a_aload_n (pc := 77) hC dX10_tellRoom_77 rfl ?_
    refine a_get (pc := 78) hC cl_X10 (oM_0 hX) 0 (by decide) tw_1504 rfl dX10_tellRoom_78 ?_
    refine a_iconst (pc := 81) hC dX10_tellRoom_81 (v := 1) rfl ?_
    refine a_iald (pc := 82) hC (oM_1 hX) h.1 dX10_tellRoom_82 ?_
    replace h := h.2
    refine a_icmp_ge (pc := 83) (tgt := 141) hC dX10_tellRoom_83 (by decide) (fun c => ?_) (fun c => ?_)
    · replace h := h.1 c
      exact (hK _ _ h).forget ⟨rfl, rfl, rfl, trivial⟩
    · replace h := h.2 c
      refine a_aload_n (pc := 86) hC dX10_tellRoom_86 rfl ?_
      refine a_get (pc := 87) hC cl_X10 (oM_0 hX) 0 (by decide) tw_1504 rfl dX10_tellRoom_87 ?_
      refine a_iload_n (pc := 90) hC dX10_tellRoom_90 rfl ?_
      refine a_callS (pc := 91) hC hR sm_X10_echoAt tw_1647 ⟨(Nat.le_of_ble_eq_true rfl), (Nat.le_of_ble_eq_true rfl), (Nat.le_of_ble_eq_true rfl), (Nat.le_of_ble_eq_true rfl)⟩ dX10_tellRoom_91 (t_X10_echoAt hX hC.tr _ _ _ h) rfl rfl rfl (Nat.le_of_ble_eq_true rfl) (fun r22 q23 h => ?_)
      refine a_iconst (pc := 94) hC dX10_tellRoom_94 (v := 0) rfl ?_
      refine a_iadd (pc := 95) hC dX10_tellRoom_95 ?_
      refine a_iald (pc := 96) hC (oM_1 hX) h.1 dX10_tellRoom_96 ?_
      replace h := h.2
      refine a_iload_n (pc := 97) hC dX10_tellRoom_97 rfl ?_
      refine a_icmp_ne (pc := 98) (tgt := 135) hC dX10_tellRoom_98 (by decide) (fun c => ?_) (fun c => ?_)
      · replace h := h.1 c
        refine a_iinc (pc := 135) hC dX10_tellRoom_135 rfl (c := 1) rfl ?_
        replace h := h _ rfl
        refine a_goto (pc := 138) (tgt := 76) hC dX10_tellRoom_138 (by decide) ?_
        exact (ih _ _ _ h).forget ⟨rfl, rfl, rfl, rfl, trivial⟩
      · replace h := h.2 c
        refine a_aload_n (pc := 101) hC dX10_tellRoom_101 rfl ?_
        refine a_iload_n (pc := 102) hC dX10_tellRoom_102 rfl ?_
        refine a_iload_n (pc := 103) hC dX10_tellRoom_103 rfl ?_
        refine a_callV (pc := 104) hC hR vm_X10_writesNumber tw_1860 cl_X10 (oM_0 hX) ⟨(Nat.le_of_ble_eq_true rfl), (Nat.le_of_ble_eq_true rfl), (Nat.le_of_ble_eq_true rfl), (Nat.le_of_ble_eq_true rfl)⟩ dX10_tellRoom_104 (t_X10_writesNumber hX hC.tr _ _ _ _ h) rfl rfl rfl (Nat.le_of_ble_eq_true rfl) (fun r25 q26 h => ?_)
        refine a_istore_n (pc := 107) hC dX10_tellRoom_107 (Nat.le_of_ble_eq_true rfl) ?_
        refine a_aload_n (pc := 108) hC dX10_tellRoom_108 rfl ?_
        refine a_get (pc := 109) hC cl_X10 (oM_0 hX) 0 (by decide) tw_1504 rfl dX10_tellRoom_109 ?_
        refine a_iload_n (pc := 112) hC dX10_tellRoom_112 rfl ?_
        refine a_callS (pc := 113) hC hR sm_X10_echoAt tw_1647 ⟨(Nat.le_of_ble_eq_true rfl), (Nat.le_of_ble_eq_true rfl), (Nat.le_of_ble_eq_true rfl), (Nat.le_of_ble_eq_true rfl)⟩ dX10_tellRoom_113 (t_X10_echoAt hX hC.tr _ _ _ h) rfl rfl rfl (Nat.le_of_ble_eq_true rfl) (fun r27 q28 h => ?_)
        refine a_iconst (pc := 116) hC dX10_tellRoom_116 (v := 2) rfl ?_
        refine a_iadd (pc := 117) hC dX10_tellRoom_117 ?_
        refine a_iald (pc := 118) hC (oM_1 hX) h.1 dX10_tellRoom_118 ?_
        replace h := h.2
        refine a_iconst (pc := 119) hC dX10_tellRoom_119 (v := (-1)) rfl ?_
        refine a_icmp_ne (pc := 120) (tgt := 127) hC dX10_tellRoom_120 (by decide) (fun c => ?_) (fun c => ?_)
        · replace h := h.1 c
          refine a_aload_n (pc := 127) hC dX10_tellRoom_127 rfl ?_
          refine a_iload_n (pc := 128) hC dX10_tellRoom_128 rfl ?_
          refine a_bipush (pc := 129) hC dX10_tellRoom_129 (v := 42) rfl ?_
          refine a_callV (pc := 131) hC hR vm_X10_put tw_1864 cl_X10 (oM_0 hX) ⟨(Nat.le_of_ble_eq_true rfl), (Nat.le_of_ble_eq_true rfl), (Nat.le_of_ble_eq_true rfl), (Nat.le_of_ble_eq_true rfl)⟩ dX10_tellRoom_131 (t_X10_put hX hC.tr _ _ _ _ h) rfl rfl rfl (Nat.le_of_ble_eq_true rfl) (fun r29 q30 h => ?_)
          refine a_istore_n (pc := 134) hC dX10_tellRoom_134 (Nat.le_of_ble_eq_true rfl) ?_
          refine a_iinc (pc := 135) hC dX10_tellRoom_135 rfl (c := 1) rfl ?_
          replace h := h _ rfl
          refine a_goto (pc := 138) (tgt := 76) hC dX10_tellRoom_138 (by decide) ?_
          exact (ih _ _ _ h).forget ⟨rfl, rfl, rfl, rfl, trivial⟩
        · replace h := h.2 c
          refine a_iload_n (pc := 123) hC dX10_tellRoom_123 rfl ?_
          refine a_goto (pc := 124) (tgt := 134) hC dX10_tellRoom_124 (by decide) ?_
          refine a_istore_n (pc := 134) hC dX10_tellRoom_134 (Nat.le_of_ble_eq_true rfl) ?_
          refine a_iinc (pc := 135) hC dX10_tellRoom_135 rfl (c := 1) rfl ?_
          replace h := h _ rfl
          refine a_goto (pc := 138) (tgt := 76) hC dX10_tellRoom_138 (by decide) ?_
          exact (ih _ _ _ h).forget ⟨rfl, rfl, rfl, rfl, trivial⟩
set_option maxRecDepth 20000 in
theorem tLX10_tellRoom_143 {f : aF} {g : aG} (hX : isM g) (P : Int32 → aS → Prop) (hR : f_R f = aR 2 0 0) (hC : aOK f g cX10_tellRoom 4 RX10) (hE : aEi f g .int P (fun _ _ => False) 0 0) (c1 : Int32) {K : Int32 → aS → Prop} (hK : ∀ (w2 : Int32) (q : aS), K w2 q → AW f g 191 [some (.ref (gAd g 0)), none, some (.int w2), none] [] q 0 0) : ∀ (N : Nat) (v2 : Int32) (v3 : Int32) (q : aS), LX10_tellRoom_143 c1 P K N v2 v3 q → AW f g 143 [some (.ref (gAd g 0)), some (.int c1), some (.int v2), some (.int v3)] [] q 0 0 := by
  intro N
  induction N with
  | zero =>
    intro v2 v3 q h
    exact h.elim
  | succ N ih =>
    intro v2 v3 q h
    unfold LX10_tellRoom_143 at h
    refine a_iload_n (pc := 143) hC dX10_tellRoom_143 rfl ?_
    refine a_aload_n (pc := 144) hC dX10_tellRoom_144 rfl ?_
    refine a_get (pc := 145) hC cl_X10 (oM_0 hX) 0 (by decide) tw_1504 rfl dX10_tellRoom_145 ?_
    refine a_iconst (pc := 148) hC dX10_tellRoom_148 (v := 2) rfl ?_
    refine a_iald (pc := 149) hC (oM_1 hX) h.1 dX10_tellRoom_149 ?_
    replace h := h.2
    refine a_icmp_ge (pc := 150) (tgt := 191) hC dX10_tellRoom_150 (by decide) (fun c => ?_) (fun c => ?_)
    · replace h := h.1 c
      exact (hK _ _ h).forget ⟨rfl, rfl, trivial⟩
    · replace h := h.2 c
      refine a_aload_n (pc := 153) hC dX10_tellRoom_153 rfl ?_
      refine a_get (pc := 154) hC cl_X10 (oM_0 hX) 0 (by decide) tw_1504 rfl dX10_tellRoom_154 ?_
      refine a_iload_n (pc := 157) hC dX10_tellRoom_157 rfl ?_
      refine a_callS (pc := 158) hC hR sm_X10_singerAt tw_1658 ⟨(Nat.le_of_ble_eq_true rfl), (Nat.le_of_ble_eq_true rfl), (Nat.le_of_ble_eq_true rfl), (Nat.le_of_ble_eq_true rfl)⟩ dX10_tellRoom_158 (t_X10_singerAt hX hC.tr _ _ _ h) rfl rfl rfl (Nat.le_of_ble_eq_true rfl) (fun r35 q36 h => ?_)
      refine a_iconst (pc := 161) hC dX10_tellRoom_161 (v := 2) rfl ?_
      refine a_iadd (pc := 162) hC dX10_tellRoom_162 ?_
      refine a_iald (pc := 163) hC (oM_1 hX) h.1 dX10_tellRoom_163 ?_
      replace h := h.2
      refine a_iload_n (pc := 164) hC dX10_tellRoom_164 rfl ?_
      refine a_icmp_ne (pc := 165) (tgt := 183) hC dX10_tellRoom_165 (by decide) (fun c => ?_) (fun c => ?_)
      · replace h := h.1 c
        refine a_iload_n (pc := 183) hC dX10_tellRoom_183 rfl ?_
        refine a_istore_n (pc := 184) hC dX10_tellRoom_184 (Nat.le_of_ble_eq_true rfl) ?_
        refine a_iinc (pc := 185) hC dX10_tellRoom_185 rfl (c := 1) rfl ?_
        replace h := h _ rfl
        refine a_goto (pc := 188) (tgt := 143) hC dX10_tellRoom_188 (by decide) ?_
        exact (ih _ _ _ h).forget ⟨rfl, rfl, rfl, rfl, trivial⟩
      · replace h := h.2 c
        refine a_aload_n (pc := 168) hC dX10_tellRoom_168 rfl ?_
        refine a_aload_n (pc := 169) hC dX10_tellRoom_169 rfl ?_
        refine a_iload_n (pc := 170) hC dX10_tellRoom_170 rfl ?_
        refine a_bipush (pc := 171) hC dX10_tellRoom_171 (v := 115) rfl ?_
        refine a_callV (pc := 173) hC hR vm_X10_put tw_1864 cl_X10 (oM_0 hX) ⟨(Nat.le_of_ble_eq_true rfl), (Nat.le_of_ble_eq_true rfl), (Nat.le_of_ble_eq_true rfl), (Nat.le_of_ble_eq_true rfl)⟩ dX10_tellRoom_173 (t_X10_put hX hC.tr _ _ _ _ h) rfl rfl rfl (Nat.le_of_ble_eq_true rfl) (fun r38 q39 h => ?_)
        refine a_iload_n (pc := 176) hC dX10_tellRoom_176 rfl ?_
        refine a_callV (pc := 177) hC hR vm_X10_writesNumber tw_1860 cl_X10 (oM_0 hX) ⟨(Nat.le_of_ble_eq_true rfl), (Nat.le_of_ble_eq_true rfl), (Nat.le_of_ble_eq_true rfl), (Nat.le_of_ble_eq_true rfl)⟩ dX10_tellRoom_177 (t_X10_writesNumber hX hC.tr _ _ _ _ h) rfl rfl rfl (Nat.le_of_ble_eq_true rfl) (fun r40 q41 h => ?_)
        refine a_goto (pc := 180) (tgt := 184) hC dX10_tellRoom_180 (by decide) ?_
        refine a_istore_n (pc := 184) hC dX10_tellRoom_184 (Nat.le_of_ble_eq_true rfl) ?_
        refine a_iinc (pc := 185) hC dX10_tellRoom_185 rfl (c := 1) rfl ?_
        replace h := h _ rfl
        refine a_goto (pc := 188) (tgt := 143) hC dX10_tellRoom_188 (by decide) ?_
        exact (ih _ _ _ h).forget ⟨rfl, rfl, rfl, rfl, trivial⟩
set_option maxRecDepth 20000 in
theorem t_X10_tellRoom {l : Launch} {g : aG} (hX : isM g) (hl : l.stackTraces = false) (x1 : Int32) (q : aS) (P : Int32 → aS → Prop) (h : w_X10_tellRoom x1 q P) : aMi l g yX10_tellRoom (aWs yX10_tellRoom cX10_tellRoom 4 (some .int)) 2 0 0 [.ref (gAd g 0), .int x1] q P (fun _ _ => False) := by
  refine aMi_of RX10 ⟨by decide +kernel, rfl⟩ (cat_all rfl) (Nat.le_of_ble_eq_true rfl) hl hX.cl (fun f hR hC hE => ?_)
  show AW f g 0 [some (.ref (gAd g 0)), some (.int x1), none, none] [] q 0 0
  unfold w_X10_tellRoom at h
  refine a_aload_n (pc := 0) hC dX10_tellRoom_0 rfl ?_
  refine a_aload_n (pc := 1) hC dX10_tellRoom_1 rfl ?_
  refine a_iload_n (pc := 2) hC dX10_tellRoom_2 rfl ?_
  refine a_callV (pc := 3) hC hR vm_X10_isRoom tw_1643 cl_X10 (oM_0 hX) ⟨(Nat.le_of_ble_eq_true rfl), (Nat.le_of_ble_eq_true rfl), (Nat.le_of_ble_eq_true rfl), (Nat.le_of_ble_eq_true rfl)⟩ dX10_tellRoom_3 (t_X10_isRoom hX hC.tr _ _ _ h) rfl rfl rfl (Nat.le_of_ble_eq_true rfl) (fun r2 q3 h => ?_)
  have z_r2 := h.1
  replace h := h.2
  refine a_iconst (pc := 6) hC dX10_tellRoom_6 (v := 1) rfl ?_
  refine a_callV (pc := 7) hC hR vm_X10_goes tw_1585 cl_X10 (oM_0 hX) ⟨(Nat.le_of_ble_eq_true rfl), (Nat.le_of_ble_eq_true rfl), (Nat.le_of_ble_eq_true rfl), (Nat.le_of_ble_eq_true rfl)⟩ dX10_tellRoom_7 (t_X10_goes hX hC.tr _ _ _ _ h) rfl rfl rfl (Nat.le_of_ble_eq_true rfl) (fun r4 q5 h => ?_)
  have z_r4 := h.1
  replace h := h.2
  refine a_if_ne (pc := 10) (tgt := 15) hC dX10_tellRoom_10 (by decide) (fun c => ?_) (fun c => ?_)
  · replace h := h.1 c
    refine a_aload_n (pc := 15) hC dX10_tellRoom_15 rfl ?_
    refine a_aload_n (pc := 16) hC dX10_tellRoom_16 rfl ?_
    refine a_iconst (pc := 17) hC dX10_tellRoom_17 (v := 0) rfl ?_
    refine a_iload_n (pc := 18) hC dX10_tellRoom_18 rfl ?_
    refine a_callV (pc := 19) hC hR vm_X10_writesNumber tw_1860 cl_X10 (oM_0 hX) ⟨(Nat.le_of_ble_eq_true rfl), (Nat.le_of_ble_eq_true rfl), (Nat.le_of_ble_eq_true rfl), (Nat.le_of_ble_eq_true rfl)⟩ dX10_tellRoom_19 (t_X10_writesNumber hX hC.tr _ _ _ _ h) rfl rfl rfl (Nat.le_of_ble_eq_true rfl) (fun r6 q7 h => ?_)
    refine a_bipush (pc := 22) hC dX10_tellRoom_22 (v := 91) rfl ?_
    refine a_callV (pc := 24) hC hR vm_X10_put tw_1864 cl_X10 (oM_0 hX) ⟨(Nat.le_of_ble_eq_true rfl), (Nat.le_of_ble_eq_true rfl), (Nat.le_of_ble_eq_true rfl), (Nat.le_of_ble_eq_true rfl)⟩ dX10_tellRoom_24 (t_X10_put hX hC.tr _ _ _ _ h) rfl rfl rfl (Nat.le_of_ble_eq_true rfl) (fun r8 q9 h => ?_)
    refine a_istore_n (pc := 27) hC dX10_tellRoom_27 (Nat.le_of_ble_eq_true rfl) ?_
    refine a_aload_n (pc := 28) hC dX10_tellRoom_28 rfl ?_
    refine a_aload_n (pc := 29) hC dX10_tellRoom_29 rfl ?_
    refine a_iload_n (pc := 30) hC dX10_tellRoom_30 rfl ?_
    refine a_aload_n (pc := 31) hC dX10_tellRoom_31 rfl ?_
    refine a_get (pc := 32) hC cl_X10 (oM_0 hX) 0 (by decide) tw_1504 rfl dX10_tellRoom_32 ?_
    refine a_iload_n (pc := 35) hC dX10_tellRoom_35 rfl ?_
    refine a_callS (pc := 36) hC hR sm_X10_roomAt tw_1620 ⟨(Nat.le_of_ble_eq_true rfl), (Nat.le_of_ble_eq_true rfl), (Nat.le_of_ble_eq_true rfl), (Nat.le_of_ble_eq_true rfl)⟩ dX10_tellRoom_36 (t_X10_roomAt hX hC.tr _ _ _ h) rfl rfl rfl (Nat.le_of_ble_eq_true rfl) (fun r10 q11 h => ?_)
    refine a_iconst (pc := 39) hC dX10_tellRoom_39 (v := 0) rfl ?_
    refine a_iadd (pc := 40) hC dX10_tellRoom_40 ?_
    refine a_iald (pc := 41) hC (oM_1 hX) h.1 dX10_tellRoom_41 ?_
    replace h := h.2
    refine a_callV (pc := 42) hC hR vm_X10_writesNumber tw_1860 cl_X10 (oM_0 hX) ⟨(Nat.le_of_ble_eq_true rfl), (Nat.le_of_ble_eq_true rfl), (Nat.le_of_ble_eq_true rfl), (Nat.le_of_ble_eq_true rfl)⟩ dX10_tellRoom_42 (t_X10_writesNumber hX hC.tr _ _ _ _ h) rfl rfl rfl (Nat.le_of_ble_eq_true rfl) (fun r12 q13 h => ?_)
    refine a_bipush (pc := 45) hC dX10_tellRoom_45 (v := 126) rfl ?_
    refine a_callV (pc := 47) hC hR vm_X10_put tw_1864 cl_X10 (oM_0 hX) ⟨(Nat.le_of_ble_eq_true rfl), (Nat.le_of_ble_eq_true rfl), (Nat.le_of_ble_eq_true rfl), (Nat.le_of_ble_eq_true rfl)⟩ dX10_tellRoom_47 (t_X10_put hX hC.tr _ _ _ _ h) rfl rfl rfl (Nat.le_of_ble_eq_true rfl) (fun r14 q15 h => ?_)
    refine a_istore_n (pc := 50) hC dX10_tellRoom_50 (Nat.le_of_ble_eq_true rfl) ?_
    refine a_aload_n (pc := 51) hC dX10_tellRoom_51 rfl ?_
    refine a_aload_n (pc := 52) hC dX10_tellRoom_52 rfl ?_
    refine a_iload_n (pc := 53) hC dX10_tellRoom_53 rfl ?_
    refine a_aload_n (pc := 54) hC dX10_tellRoom_54 rfl ?_
    refine a_get (pc := 55) hC cl_X10 (oM_0 hX) 0 (by decide) tw_1504 rfl dX10_tellRoom_55 ?_
    refine a_iload_n (pc := 58) hC dX10_tellRoom_58 rfl ?_
    refine a_callS (pc := 59) hC hR sm_X10_roomAt tw_1620 ⟨(Nat.le_of_ble_eq_true rfl), (Nat.le_of_ble_eq_true rfl), (Nat.le_of_ble_eq_true rfl), (Nat.le_of_ble_eq_true rfl)⟩ dX10_tellRoom_59 (t_X10_roomAt hX hC.tr _ _ _ h) rfl rfl rfl (Nat.le_of_ble_eq_true rfl) (fun r16 q17 h => ?_)
    refine a_iconst (pc := 62) hC dX10_tellRoom_62 (v := 1) rfl ?_
    refine a_iadd (pc := 63) hC dX10_tellRoom_63 ?_
    refine a_iald (pc := 64) hC (oM_1 hX) h.1 dX10_tellRoom_64 ?_
    replace h := h.2
    refine a_callV (pc := 65) hC hR vm_X10_writesNumber tw_1860 cl_X10 (oM_0 hX) ⟨(Nat.le_of_ble_eq_true rfl), (Nat.le_of_ble_eq_true rfl), (Nat.le_of_ble_eq_true rfl), (Nat.le_of_ble_eq_true rfl)⟩ dX10_tellRoom_65 (t_X10_writesNumber hX hC.tr _ _ _ _ h) rfl rfl rfl (Nat.le_of_ble_eq_true rfl) (fun r18 q19 h => ?_)
    refine a_bipush (pc := 68) hC dX10_tellRoom_68 (v := 93) rfl ?_
    refine a_callV (pc := 70) hC hR vm_X10_put tw_1864 cl_X10 (oM_0 hX) ⟨(Nat.le_of_ble_eq_true rfl), (Nat.le_of_ble_eq_true rfl), (Nat.le_of_ble_eq_true rfl), (Nat.le_of_ble_eq_true rfl)⟩ dX10_tellRoom_70 (t_X10_put hX hC.tr _ _ _ _ h) rfl rfl rfl (Nat.le_of_ble_eq_true rfl) (fun r20 q21 h => ?_)
    refine a_istore_n (pc := 73) hC dX10_tellRoom_73 (Nat.le_of_ble_eq_true rfl) ?_
    refine a_iconst (pc := 74) hC dX10_tellRoom_74 (v := 0) rfl ?_
    refine a_istore_n (pc := 75) hC dX10_tellRoom_75 (Nat.le_of_ble_eq_true rfl) ?_
    obtain ⟨N, h⟩ := h
    refine (tLX10_tellRoom_76 hX P hR hC hE _ (fun y33 q34 h => ?_) N _ _ _ h).forget ⟨rfl, rfl, rfl, rfl, trivial⟩
    refine a_iconst (pc := 141) hC dX10_tellRoom_141 (v := 0) rfl ?_
    refine a_istore_n (pc := 142) hC dX10_tellRoom_142 (Nat.le_of_ble_eq_true rfl) ?_
    obtain ⟨N, h⟩ := h
    refine (tLX10_tellRoom_143 hX P hR hC hE _ (fun y43 q44 h => ?_) N _ _ _ h).forget ⟨rfl, rfl, rfl, rfl, trivial⟩
    refine a_aload_n (pc := 191) hC dX10_tellRoom_191 rfl ?_
    refine a_iload_n (pc := 192) hC dX10_tellRoom_192 rfl ?_
    refine a_put (pc := 193) hC cl_X10 (oM_0 hX) 14 (by decide) tw_1518 tyX10 tyX10_ok rfl rfl rfl (Nat.le_of_ble_eq_true rfl) rfl dX10_tellRoom_193 ?_
    replace h := h _ rfl
    refine a_iload_n (pc := 196) hC dX10_tellRoom_196 rfl ?_
    exact a_iret (pc := 197) hC hE h (Nat.le_of_ble_eq_true rfl) (Nat.le_of_ble_eq_true rfl) dX10_tellRoom_197
  · replace h := h.2 c
    refine a_iconst (pc := 13) hC dX10_tellRoom_13 (v := 0) rfl ?_
    exact a_iret (pc := 14) hC hE h (Nat.le_of_ble_eq_true rfl) (Nat.le_of_ble_eq_true rfl) dX10_tellRoom_14
set_option maxRecDepth 20000 in
theorem t_X10_tellEcho {l : Launch} {g : aG} (hX : isM g) (hl : l.stackTraces = false) (x1 : Int32) (q : aS) (P : Int32 → aS → Prop) (h : w_X10_tellEcho x1 q P) : aMi l g yX10_tellEcho (aWs yX10_tellEcho cX10_tellEcho 4 (some .int)) 2 0 0 [.ref (gAd g 0), .int x1] q P (fun _ _ => False) := by
  refine aMi_of RX10 ⟨by decide +kernel, rfl⟩ (cat_all rfl) (Nat.le_of_ble_eq_true rfl) hl hX.cl (fun f hR hC hE => ?_)
  show AW f g 0 [some (.ref (gAd g 0)), some (.int x1), none, none] [] q 0 0
  unfold w_X10_tellEcho at h
  refine a_aload_n (pc := 0) hC dX10_tellEcho_0 rfl ?_
  refine a_aload_n (pc := 1) hC dX10_tellEcho_1 rfl ?_
  refine a_iload_n (pc := 2) hC dX10_tellEcho_2 rfl ?_
  refine a_callV (pc := 3) hC hR vm_X10_isEcho tw_1702 cl_X10 (oM_0 hX) ⟨(Nat.le_of_ble_eq_true rfl), (Nat.le_of_ble_eq_true rfl), (Nat.le_of_ble_eq_true rfl), (Nat.le_of_ble_eq_true rfl)⟩ dX10_tellEcho_3 (t_X10_isEcho hX hC.tr _ _ _ h) rfl rfl rfl (Nat.le_of_ble_eq_true rfl) (fun r2 q3 h => ?_)
  have z_r2 := h.1
  replace h := h.2
  refine a_iconst (pc := 6) hC dX10_tellEcho_6 (v := 1) rfl ?_
  refine a_callV (pc := 7) hC hR vm_X10_goes tw_1585 cl_X10 (oM_0 hX) ⟨(Nat.le_of_ble_eq_true rfl), (Nat.le_of_ble_eq_true rfl), (Nat.le_of_ble_eq_true rfl), (Nat.le_of_ble_eq_true rfl)⟩ dX10_tellEcho_7 (t_X10_goes hX hC.tr _ _ _ _ h) rfl rfl rfl (Nat.le_of_ble_eq_true rfl) (fun r4 q5 h => ?_)
  have z_r4 := h.1
  replace h := h.2
  refine a_if_ne (pc := 10) (tgt := 15) hC dX10_tellEcho_10 (by decide) (fun c => ?_) (fun c => ?_)
  · replace h := h.1 c
    refine a_iload_n (pc := 15) hC dX10_tellEcho_15 rfl ?_
    refine a_callS (pc := 16) hC hR sm_X10_echoAt tw_1647 ⟨(Nat.le_of_ble_eq_true rfl), (Nat.le_of_ble_eq_true rfl), (Nat.le_of_ble_eq_true rfl), (Nat.le_of_ble_eq_true rfl)⟩ dX10_tellEcho_16 (t_X10_echoAt hX hC.tr _ _ _ h) rfl rfl rfl (Nat.le_of_ble_eq_true rfl) (fun r6 q7 h => ?_)
    refine a_istore_n (pc := 19) hC dX10_tellEcho_19 (Nat.le_of_ble_eq_true rfl) ?_
    refine a_aload_n (pc := 20) hC dX10_tellEcho_20 rfl ?_
    refine a_aload_n (pc := 21) hC dX10_tellEcho_21 rfl ?_
    refine a_iconst (pc := 22) hC dX10_tellEcho_22 (v := 0) rfl ?_
    refine a_iload_n (pc := 23) hC dX10_tellEcho_23 rfl ?_
    refine a_callV (pc := 24) hC hR vm_X10_writesNumber tw_1860 cl_X10 (oM_0 hX) ⟨(Nat.le_of_ble_eq_true rfl), (Nat.le_of_ble_eq_true rfl), (Nat.le_of_ble_eq_true rfl), (Nat.le_of_ble_eq_true rfl)⟩ dX10_tellEcho_24 (t_X10_writesNumber hX hC.tr _ _ _ _ h) rfl rfl rfl (Nat.le_of_ble_eq_true rfl) (fun r8 q9 h => ?_)
    refine a_bipush (pc := 27) hC dX10_tellEcho_27 (v := 94) rfl ?_
    refine a_callV (pc := 29) hC hR vm_X10_put tw_1864 cl_X10 (oM_0 hX) ⟨(Nat.le_of_ble_eq_true rfl), (Nat.le_of_ble_eq_true rfl), (Nat.le_of_ble_eq_true rfl), (Nat.le_of_ble_eq_true rfl)⟩ dX10_tellEcho_29 (t_X10_put hX hC.tr _ _ _ _ h) rfl rfl rfl (Nat.le_of_ble_eq_true rfl) (fun r10 q11 h => ?_)
    refine a_istore_n (pc := 32) hC dX10_tellEcho_32 (Nat.le_of_ble_eq_true rfl) ?_
    refine a_aload_n (pc := 33) hC dX10_tellEcho_33 rfl ?_
    refine a_aload_n (pc := 34) hC dX10_tellEcho_34 rfl ?_
    refine a_iload_n (pc := 35) hC dX10_tellEcho_35 rfl ?_
    refine a_aload_n (pc := 36) hC dX10_tellEcho_36 rfl ?_
    refine a_get (pc := 37) hC cl_X10 (oM_0 hX) 0 (by decide) tw_1504 rfl dX10_tellEcho_37 ?_
    refine a_iload_n (pc := 40) hC dX10_tellEcho_40 rfl ?_
    refine a_iconst (pc := 41) hC dX10_tellEcho_41 (v := 1) rfl ?_
    refine a_iadd (pc := 42) hC dX10_tellEcho_42 ?_
    refine a_iald (pc := 43) hC (oM_1 hX) h.1 dX10_tellEcho_43 ?_
    replace h := h.2
    refine a_callV (pc := 44) hC hR vm_X10_writesNumber tw_1860 cl_X10 (oM_0 hX) ⟨(Nat.le_of_ble_eq_true rfl), (Nat.le_of_ble_eq_true rfl), (Nat.le_of_ble_eq_true rfl), (Nat.le_of_ble_eq_true rfl)⟩ dX10_tellEcho_44 (t_X10_writesNumber hX hC.tr _ _ _ _ h) rfl rfl rfl (Nat.le_of_ble_eq_true rfl) (fun r12 q13 h => ?_)
    refine a_bipush (pc := 47) hC dX10_tellEcho_47 (v := 64) rfl ?_
    refine a_callV (pc := 49) hC hR vm_X10_put tw_1864 cl_X10 (oM_0 hX) ⟨(Nat.le_of_ble_eq_true rfl), (Nat.le_of_ble_eq_true rfl), (Nat.le_of_ble_eq_true rfl), (Nat.le_of_ble_eq_true rfl)⟩ dX10_tellEcho_49 (t_X10_put hX hC.tr _ _ _ _ h) rfl rfl rfl (Nat.le_of_ble_eq_true rfl) (fun r14 q15 h => ?_)
    refine a_istore_n (pc := 52) hC dX10_tellEcho_52 (Nat.le_of_ble_eq_true rfl) ?_
    refine a_aload_n (pc := 53) hC dX10_tellEcho_53 rfl ?_
    refine a_iload_n (pc := 54) hC dX10_tellEcho_54 rfl ?_
    refine a_aload_n (pc := 55) hC dX10_tellEcho_55 rfl ?_
    refine a_get (pc := 56) hC cl_X10 (oM_0 hX) 0 (by decide) tw_1504 rfl dX10_tellEcho_56 ?_
    refine a_iload_n (pc := 59) hC dX10_tellEcho_59 rfl ?_
    refine a_iconst (pc := 60) hC dX10_tellEcho_60 (v := 0) rfl ?_
    refine a_iadd (pc := 61) hC dX10_tellEcho_61 ?_
    refine a_iald (pc := 62) hC (oM_1 hX) h.1 dX10_tellEcho_62 ?_
    replace h := h.2
    refine a_callV (pc := 63) hC hR vm_X10_writesNumber tw_1860 cl_X10 (oM_0 hX) ⟨(Nat.le_of_ble_eq_true rfl), (Nat.le_of_ble_eq_true rfl), (Nat.le_of_ble_eq_true rfl), (Nat.le_of_ble_eq_true rfl)⟩ dX10_tellEcho_63 (t_X10_writesNumber hX hC.tr _ _ _ _ h) rfl rfl rfl (Nat.le_of_ble_eq_true rfl) (fun r16 q17 h => ?_)
    refine a_istore_n (pc := 66) hC dX10_tellEcho_66 (Nat.le_of_ble_eq_true rfl) ?_
    refine a_aload_n (pc := 67) hC dX10_tellEcho_67 rfl ?_
    refine a_get (pc := 68) hC cl_X10 (oM_0 hX) 0 (by decide) tw_1504 rfl dX10_tellEcho_68 ?_
    refine a_iload_n (pc := 71) hC dX10_tellEcho_71 rfl ?_
    refine a_iconst (pc := 72) hC dX10_tellEcho_72 (v := 2) rfl ?_
    refine a_iadd (pc := 73) hC dX10_tellEcho_73 ?_
    refine a_iald (pc := 74) hC (oM_1 hX) h.1 dX10_tellEcho_74 ?_
    replace h := h.2
    refine a_iconst (pc := 75) hC dX10_tellEcho_75 (v := (-1)) rfl ?_
    refine a_icmp_eq (pc := 76) (tgt := 119) hC dX10_tellEcho_76 (by decide) (fun c => ?_) (fun c => ?_)
    · replace h := h.1 c
      refine a_aload_n (pc := 119) hC dX10_tellEcho_119 rfl ?_
      refine a_iload_n (pc := 120) hC dX10_tellEcho_120 rfl ?_
      refine a_put (pc := 121) hC cl_X10 (oM_0 hX) 14 (by decide) tw_1518 tyX10 tyX10_ok rfl rfl rfl (Nat.le_of_ble_eq_true rfl) rfl dX10_tellEcho_121 ?_
      replace h := h _ rfl
      refine a_iload_n (pc := 124) hC dX10_tellEcho_124 rfl ?_
      exact a_iret (pc := 125) hC hE h (Nat.le_of_ble_eq_true rfl) (Nat.le_of_ble_eq_true rfl) dX10_tellEcho_125
    · replace h := h.2 c
      refine a_aload_n (pc := 79) hC dX10_tellEcho_79 rfl ?_
      refine a_aload_n (pc := 80) hC dX10_tellEcho_80 rfl ?_
      refine a_aload_n (pc := 81) hC dX10_tellEcho_81 rfl ?_
      refine a_iload_n (pc := 82) hC dX10_tellEcho_82 rfl ?_
      refine a_bipush (pc := 83) hC dX10_tellEcho_83 (v := 61) rfl ?_
      refine a_callV (pc := 85) hC hR vm_X10_put tw_1864 cl_X10 (oM_0 hX) ⟨(Nat.le_of_ble_eq_true rfl), (Nat.le_of_ble_eq_true rfl), (Nat.le_of_ble_eq_true rfl), (Nat.le_of_ble_eq_true rfl)⟩ dX10_tellEcho_85 (t_X10_put hX hC.tr _ _ _ _ h) rfl rfl rfl (Nat.le_of_ble_eq_true rfl) (fun r19 q20 h => ?_)
      refine a_aload_n (pc := 88) hC dX10_tellEcho_88 rfl ?_
      refine a_get (pc := 89) hC cl_X10 (oM_0 hX) 0 (by decide) tw_1504 rfl dX10_tellEcho_89 ?_
      refine a_iload_n (pc := 92) hC dX10_tellEcho_92 rfl ?_
      refine a_iconst (pc := 93) hC dX10_tellEcho_93 (v := 2) rfl ?_
      refine a_iadd (pc := 94) hC dX10_tellEcho_94 ?_
      refine a_iald (pc := 95) hC (oM_1 hX) h.1 dX10_tellEcho_95 ?_
      replace h := h.2
      refine a_callV (pc := 96) hC hR vm_X10_writesNumber tw_1860 cl_X10 (oM_0 hX) ⟨(Nat.le_of_ble_eq_true rfl), (Nat.le_of_ble_eq_true rfl), (Nat.le_of_ble_eq_true rfl), (Nat.le_of_ble_eq_true rfl)⟩ dX10_tellEcho_96 (t_X10_writesNumber hX hC.tr _ _ _ _ h) rfl rfl rfl (Nat.le_of_ble_eq_true rfl) (fun r21 q22 h => ?_)
      refine a_bipush (pc := 99) hC dX10_tellEcho_99 (v := 47) rfl ?_
      refine a_callV (pc := 101) hC hR vm_X10_put tw_1864 cl_X10 (oM_0 hX) ⟨(Nat.le_of_ble_eq_true rfl), (Nat.le_of_ble_eq_true rfl), (Nat.le_of_ble_eq_true rfl), (Nat.le_of_ble_eq_true rfl)⟩ dX10_tellEcho_101 (t_X10_put hX hC.tr _ _ _ _ h) rfl rfl rfl (Nat.le_of_ble_eq_true rfl) (fun r23 q24 h => ?_)
      refine a_istore_n (pc := 104) hC dX10_tellEcho_104 (Nat.le_of_ble_eq_true rfl) ?_
      refine a_aload_n (pc := 105) hC dX10_tellEcho_105 rfl ?_
      refine a_iload_n (pc := 106) hC dX10_tellEcho_106 rfl ?_
      refine a_aload_n (pc := 107) hC dX10_tellEcho_107 rfl ?_
      refine a_get (pc := 108) hC cl_X10 (oM_0 hX) 0 (by decide) tw_1504 rfl dX10_tellEcho_108 ?_
      refine a_iload_n (pc := 111) hC dX10_tellEcho_111 rfl ?_
      refine a_iconst (pc := 112) hC dX10_tellEcho_112 (v := 3) rfl ?_
      refine a_iadd (pc := 113) hC dX10_tellEcho_113 ?_
      refine a_iald (pc := 114) hC (oM_1 hX) h.1 dX10_tellEcho_114 ?_
      replace h := h.2
      refine a_callV (pc := 115) hC hR vm_X10_writesNumber tw_1860 cl_X10 (oM_0 hX) ⟨(Nat.le_of_ble_eq_true rfl), (Nat.le_of_ble_eq_true rfl), (Nat.le_of_ble_eq_true rfl), (Nat.le_of_ble_eq_true rfl)⟩ dX10_tellEcho_115 (t_X10_writesNumber hX hC.tr _ _ _ _ h) rfl rfl rfl (Nat.le_of_ble_eq_true rfl) (fun r25 q26 h => ?_)
      refine a_istore_n (pc := 118) hC dX10_tellEcho_118 (Nat.le_of_ble_eq_true rfl) ?_
      refine a_aload_n (pc := 119) hC dX10_tellEcho_119 rfl ?_
      refine a_iload_n (pc := 120) hC dX10_tellEcho_120 rfl ?_
      refine a_put (pc := 121) hC cl_X10 (oM_0 hX) 14 (by decide) tw_1518 tyX10 tyX10_ok rfl rfl rfl (Nat.le_of_ble_eq_true rfl) rfl dX10_tellEcho_121 ?_
      replace h := h _ rfl
      refine a_iload_n (pc := 124) hC dX10_tellEcho_124 rfl ?_
      exact a_iret (pc := 125) hC hE h (Nat.le_of_ble_eq_true rfl) (Nat.le_of_ble_eq_true rfl) dX10_tellEcho_125
  · replace h := h.2 c
    refine a_iconst (pc := 13) hC dX10_tellEcho_13 (v := 0) rfl ?_
    exact a_iret (pc := 14) hC hE h (Nat.le_of_ble_eq_true rfl) (Nat.le_of_ble_eq_true rfl) dX10_tellEcho_14
set_option maxRecDepth 20000 in
theorem t_X10_tellSinger {l : Launch} {g : aG} (hX : isM g) (hl : l.stackTraces = false) (x1 : Int32) (q : aS) (P : Int32 → aS → Prop) (h : w_X10_tellSinger x1 q P) : aMi l g yX10_tellSinger (aWs yX10_tellSinger cX10_tellSinger 4 (some .int)) 2 0 0 [.ref (gAd g 0), .int x1] q P (fun _ _ => False) := by
  refine aMi_of RX10 ⟨by decide +kernel, rfl⟩ (cat_all rfl) (Nat.le_of_ble_eq_true rfl) hl hX.cl (fun f hR hC hE => ?_)
  show AW f g 0 [some (.ref (gAd g 0)), some (.int x1), none, none] [] q 0 0
  unfold w_X10_tellSinger at h
  refine a_aload_n (pc := 0) hC dX10_tellSinger_0 rfl ?_
  refine a_aload_n (pc := 1) hC dX10_tellSinger_1 rfl ?_
  refine a_iload_n (pc := 2) hC dX10_tellSinger_2 rfl ?_
  refine a_callV (pc := 3) hC hR vm_X10_isSinger tw_1669 cl_X10 (oM_0 hX) ⟨(Nat.le_of_ble_eq_true rfl), (Nat.le_of_ble_eq_true rfl), (Nat.le_of_ble_eq_true rfl), (Nat.le_of_ble_eq_true rfl)⟩ dX10_tellSinger_3 (t_X10_isSinger hX hC.tr _ _ _ h) rfl rfl rfl (Nat.le_of_ble_eq_true rfl) (fun r2 q3 h => ?_)
  have z_r2 := h.1
  replace h := h.2
  refine a_iconst (pc := 6) hC dX10_tellSinger_6 (v := 1) rfl ?_
  refine a_callV (pc := 7) hC hR vm_X10_goes tw_1585 cl_X10 (oM_0 hX) ⟨(Nat.le_of_ble_eq_true rfl), (Nat.le_of_ble_eq_true rfl), (Nat.le_of_ble_eq_true rfl), (Nat.le_of_ble_eq_true rfl)⟩ dX10_tellSinger_7 (t_X10_goes hX hC.tr _ _ _ _ h) rfl rfl rfl (Nat.le_of_ble_eq_true rfl) (fun r4 q5 h => ?_)
  have z_r4 := h.1
  replace h := h.2
  refine a_if_ne (pc := 10) (tgt := 15) hC dX10_tellSinger_10 (by decide) (fun c => ?_) (fun c => ?_)
  · replace h := h.1 c
    refine a_iload_n (pc := 15) hC dX10_tellSinger_15 rfl ?_
    refine a_callS (pc := 16) hC hR sm_X10_singerAt tw_1658 ⟨(Nat.le_of_ble_eq_true rfl), (Nat.le_of_ble_eq_true rfl), (Nat.le_of_ble_eq_true rfl), (Nat.le_of_ble_eq_true rfl)⟩ dX10_tellSinger_16 (t_X10_singerAt hX hC.tr _ _ _ h) rfl rfl rfl (Nat.le_of_ble_eq_true rfl) (fun r6 q7 h => ?_)
    refine a_istore_n (pc := 19) hC dX10_tellSinger_19 (Nat.le_of_ble_eq_true rfl) ?_
    refine a_aload_n (pc := 20) hC dX10_tellSinger_20 rfl ?_
    refine a_aload_n (pc := 21) hC dX10_tellSinger_21 rfl ?_
    refine a_iconst (pc := 22) hC dX10_tellSinger_22 (v := 0) rfl ?_
    refine a_iload_n (pc := 23) hC dX10_tellSinger_23 rfl ?_
    refine a_callV (pc := 24) hC hR vm_X10_writesNumber tw_1860 cl_X10 (oM_0 hX) ⟨(Nat.le_of_ble_eq_true rfl), (Nat.le_of_ble_eq_true rfl), (Nat.le_of_ble_eq_true rfl), (Nat.le_of_ble_eq_true rfl)⟩ dX10_tellSinger_24 (t_X10_writesNumber hX hC.tr _ _ _ _ h) rfl rfl rfl (Nat.le_of_ble_eq_true rfl) (fun r8 q9 h => ?_)
    refine a_bipush (pc := 27) hC dX10_tellSinger_27 (v := 33) rfl ?_
    refine a_callV (pc := 29) hC hR vm_X10_put tw_1864 cl_X10 (oM_0 hX) ⟨(Nat.le_of_ble_eq_true rfl), (Nat.le_of_ble_eq_true rfl), (Nat.le_of_ble_eq_true rfl), (Nat.le_of_ble_eq_true rfl)⟩ dX10_tellSinger_29 (t_X10_put hX hC.tr _ _ _ _ h) rfl rfl rfl (Nat.le_of_ble_eq_true rfl) (fun r10 q11 h => ?_)
    refine a_istore_n (pc := 32) hC dX10_tellSinger_32 (Nat.le_of_ble_eq_true rfl) ?_
    refine a_aload_n (pc := 33) hC dX10_tellSinger_33 rfl ?_
    refine a_aload_n (pc := 34) hC dX10_tellSinger_34 rfl ?_
    refine a_iload_n (pc := 35) hC dX10_tellSinger_35 rfl ?_
    refine a_aload_n (pc := 36) hC dX10_tellSinger_36 rfl ?_
    refine a_get (pc := 37) hC cl_X10 (oM_0 hX) 0 (by decide) tw_1504 rfl dX10_tellSinger_37 ?_
    refine a_iload_n (pc := 40) hC dX10_tellSinger_40 rfl ?_
    refine a_iconst (pc := 41) hC dX10_tellSinger_41 (v := 0) rfl ?_
    refine a_iadd (pc := 42) hC dX10_tellSinger_42 ?_
    refine a_iald (pc := 43) hC (oM_1 hX) h.1 dX10_tellSinger_43 ?_
    replace h := h.2
    refine a_callV (pc := 44) hC hR vm_X10_writesNumber tw_1860 cl_X10 (oM_0 hX) ⟨(Nat.le_of_ble_eq_true rfl), (Nat.le_of_ble_eq_true rfl), (Nat.le_of_ble_eq_true rfl), (Nat.le_of_ble_eq_true rfl)⟩ dX10_tellSinger_44 (t_X10_writesNumber hX hC.tr _ _ _ _ h) rfl rfl rfl (Nat.le_of_ble_eq_true rfl) (fun r12 q13 h => ?_)
    refine a_bipush (pc := 47) hC dX10_tellSinger_47 (v := 37) rfl ?_
    refine a_callV (pc := 49) hC hR vm_X10_put tw_1864 cl_X10 (oM_0 hX) ⟨(Nat.le_of_ble_eq_true rfl), (Nat.le_of_ble_eq_true rfl), (Nat.le_of_ble_eq_true rfl), (Nat.le_of_ble_eq_true rfl)⟩ dX10_tellSinger_49 (t_X10_put hX hC.tr _ _ _ _ h) rfl rfl rfl (Nat.le_of_ble_eq_true rfl) (fun r14 q15 h => ?_)
    refine a_istore_n (pc := 52) hC dX10_tellSinger_52 (Nat.le_of_ble_eq_true rfl) ?_
    refine a_aload_n (pc := 53) hC dX10_tellSinger_53 rfl ?_
    refine a_iload_n (pc := 54) hC dX10_tellSinger_54 rfl ?_
    refine a_aload_n (pc := 55) hC dX10_tellSinger_55 rfl ?_
    refine a_get (pc := 56) hC cl_X10 (oM_0 hX) 0 (by decide) tw_1504 rfl dX10_tellSinger_56 ?_
    refine a_iload_n (pc := 59) hC dX10_tellSinger_59 rfl ?_
    refine a_iconst (pc := 60) hC dX10_tellSinger_60 (v := 1) rfl ?_
    refine a_iadd (pc := 61) hC dX10_tellSinger_61 ?_
    refine a_iald (pc := 62) hC (oM_1 hX) h.1 dX10_tellSinger_62 ?_
    replace h := h.2
    refine a_callV (pc := 63) hC hR vm_X10_writesNumber tw_1860 cl_X10 (oM_0 hX) ⟨(Nat.le_of_ble_eq_true rfl), (Nat.le_of_ble_eq_true rfl), (Nat.le_of_ble_eq_true rfl), (Nat.le_of_ble_eq_true rfl)⟩ dX10_tellSinger_63 (t_X10_writesNumber hX hC.tr _ _ _ _ h) rfl rfl rfl (Nat.le_of_ble_eq_true rfl) (fun r16 q17 h => ?_)
    refine a_istore_n (pc := 66) hC dX10_tellSinger_66 (Nat.le_of_ble_eq_true rfl) ?_
    refine a_aload_n (pc := 67) hC dX10_tellSinger_67 rfl ?_
    refine a_aload_n (pc := 68) hC dX10_tellSinger_68 rfl ?_
    refine a_get (pc := 69) hC cl_X10 (oM_0 hX) 0 (by decide) tw_1504 rfl dX10_tellSinger_69 ?_
    refine a_iload_n (pc := 72) hC dX10_tellSinger_72 rfl ?_
    refine a_iconst (pc := 73) hC dX10_tellSinger_73 (v := 2) rfl ?_
    refine a_iadd (pc := 74) hC dX10_tellSinger_74 ?_
    refine a_iald (pc := 75) hC (oM_1 hX) h.1 dX10_tellSinger_75 ?_
    replace h := h.2
    refine a_iconst (pc := 76) hC dX10_tellSinger_76 (v := (-1)) rfl ?_
    refine a_icmp_ne (pc := 77) (tgt := 84) hC dX10_tellSinger_77 (by decide) (fun c => ?_) (fun c => ?_)
    · replace h := h.1 c
      refine a_aload_n (pc := 84) hC dX10_tellSinger_84 rfl ?_
      refine a_aload_n (pc := 85) hC dX10_tellSinger_85 rfl ?_
      refine a_iload_n (pc := 86) hC dX10_tellSinger_86 rfl ?_
      refine a_bipush (pc := 87) hC dX10_tellSinger_87 (v := 64) rfl ?_
      refine a_callV (pc := 89) hC hR vm_X10_put tw_1864 cl_X10 (oM_0 hX) ⟨(Nat.le_of_ble_eq_true rfl), (Nat.le_of_ble_eq_true rfl), (Nat.le_of_ble_eq_true rfl), (Nat.le_of_ble_eq_true rfl)⟩ dX10_tellSinger_89 (t_X10_put hX hC.tr _ _ _ _ h) rfl rfl rfl (Nat.le_of_ble_eq_true rfl) (fun r18 q19 h => ?_)
      refine a_aload_n (pc := 92) hC dX10_tellSinger_92 rfl ?_
      refine a_get (pc := 93) hC cl_X10 (oM_0 hX) 0 (by decide) tw_1504 rfl dX10_tellSinger_93 ?_
      refine a_iload_n (pc := 96) hC dX10_tellSinger_96 rfl ?_
      refine a_iconst (pc := 97) hC dX10_tellSinger_97 (v := 2) rfl ?_
      refine a_iadd (pc := 98) hC dX10_tellSinger_98 ?_
      refine a_iald (pc := 99) hC (oM_1 hX) h.1 dX10_tellSinger_99 ?_
      replace h := h.2
      refine a_callV (pc := 100) hC hR vm_X10_writesNumber tw_1860 cl_X10 (oM_0 hX) ⟨(Nat.le_of_ble_eq_true rfl), (Nat.le_of_ble_eq_true rfl), (Nat.le_of_ble_eq_true rfl), (Nat.le_of_ble_eq_true rfl)⟩ dX10_tellSinger_100 (t_X10_writesNumber hX hC.tr _ _ _ _ h) rfl rfl rfl (Nat.le_of_ble_eq_true rfl) (fun r20 q21 h => ?_)
      refine a_put (pc := 103) hC cl_X10 (oM_0 hX) 14 (by decide) tw_1518 tyX10 tyX10_ok rfl rfl rfl (Nat.le_of_ble_eq_true rfl) rfl dX10_tellSinger_103 ?_
      replace h := h _ rfl
      refine a_aload_n (pc := 106) hC dX10_tellSinger_106 rfl ?_
      refine a_get (pc := 107) hC cl_X10 (oM_0 hX) 14 (by decide) tw_1518 rfl dX10_tellSinger_107 ?_
      exact a_iret (pc := 110) hC hE h (Nat.le_of_ble_eq_true rfl) (Nat.le_of_ble_eq_true rfl) dX10_tellSinger_110
    · replace h := h.2 c
      refine a_iload_n (pc := 80) hC dX10_tellSinger_80 rfl ?_
      refine a_goto (pc := 81) (tgt := 103) hC dX10_tellSinger_81 (by decide) ?_
      refine a_put (pc := 103) hC cl_X10 (oM_0 hX) 14 (by decide) tw_1518 tyX10 tyX10_ok rfl rfl rfl (Nat.le_of_ble_eq_true rfl) rfl dX10_tellSinger_103 ?_
      replace h := h _ rfl
      refine a_aload_n (pc := 106) hC dX10_tellSinger_106 rfl ?_
      refine a_get (pc := 107) hC cl_X10 (oM_0 hX) 14 (by decide) tw_1518 rfl dX10_tellSinger_107 ?_
      exact a_iret (pc := 110) hC hE h (Nat.le_of_ble_eq_true rfl) (Nat.le_of_ble_eq_true rfl) dX10_tellSinger_110
  · replace h := h.2 c
    refine a_iconst (pc := 13) hC dX10_tellSinger_13 (v := 0) rfl ?_
    exact a_iret (pc := 14) hC hE h (Nat.le_of_ble_eq_true rfl) (Nat.le_of_ble_eq_true rfl) dX10_tellSinger_14
set_option maxRecDepth 20000 in
theorem t_X10_character {l : Launch} {g : aG} (hX : isM g) (hl : l.stackTraces = false) (x1 : Int32) (q : aS) (P : Int32 → aS → Prop) (h : w_X10_character x1 q P) : aMi l g yX10_character (aWs yX10_character cX10_character 2 (some .char)) 1 0 0 [.ref (gAd g 0), .int x1] q P (fun _ _ => False) := by
  refine aMi_of RX10 ⟨by decide +kernel, rfl⟩ (cat_all rfl) (Nat.le_of_ble_eq_true rfl) hl hX.cl (fun f hR hC hE => ?_)
  show AW f g 0 [some (.ref (gAd g 0)), some (.int x1)] [] q 0 0
  unfold w_X10_character at h
  refine a_aload_n (pc := 0) hC dX10_character_0 rfl ?_
  refine a_iload_n (pc := 1) hC dX10_character_1 rfl ?_
  refine a_iconst (pc := 2) hC dX10_character_2 (v := 0) rfl ?_
  refine a_aload_n (pc := 3) hC dX10_character_3 rfl ?_
  refine a_get (pc := 4) hC cl_X10 (oM_0 hX) 14 (by decide) tw_1518 rfl dX10_character_4 ?_
  refine a_iconst (pc := 7) hC dX10_character_7 (v := 1) rfl ?_
  refine a_isub (pc := 8) hC dX10_character_8 ?_
  refine a_callS (pc := 9) hC hR sm_X10_isIn tw_1582 ⟨(Nat.le_of_ble_eq_true rfl), (Nat.le_of_ble_eq_true rfl), (Nat.le_of_ble_eq_true rfl), (Nat.le_of_ble_eq_true rfl)⟩ dX10_character_9 (t_X10_isIn hX hC.tr _ _ _ _ _ h) rfl rfl rfl (Nat.le_of_ble_eq_true rfl) (fun r2 q3 h => ?_)
  have z_r2 := h.1
  replace h := h.2
  refine a_iconst (pc := 12) hC dX10_character_12 (v := 1) rfl ?_
  refine a_callV (pc := 13) hC hR vm_X10_goes tw_1585 cl_X10 (oM_0 hX) ⟨(Nat.le_of_ble_eq_true rfl), (Nat.le_of_ble_eq_true rfl), (Nat.le_of_ble_eq_true rfl), (Nat.le_of_ble_eq_true rfl)⟩ dX10_character_13 (t_X10_goes hX hC.tr _ _ _ _ h) rfl rfl rfl (Nat.le_of_ble_eq_true rfl) (fun r4 q5 h => ?_)
  have z_r4 := h.1
  replace h := h.2
  refine a_if_eq (pc := 16) (tgt := 29) hC dX10_character_16 (by decide) (fun c => ?_) (fun c => ?_)
  · replace h := h.1 c
    refine a_iconst (pc := 29) hC dX10_character_29 (v := 0) rfl ?_
    exact a_cret (pc := 30) hC hE h.1 h.2 (Nat.le_of_ble_eq_true rfl) (Nat.le_of_ble_eq_true rfl) dX10_character_30
  · replace h := h.2 c
    refine a_aload_n (pc := 19) hC dX10_character_19 rfl ?_
    refine a_get (pc := 20) hC cl_X10 (oM_0 hX) 13 (by decide) tw_1517 rfl dX10_character_20 ?_
    refine a_iload_n (pc := 23) hC dX10_character_23 rfl ?_
    refine a_iald (pc := 24) hC (oM_6 hX) h.1 dX10_character_24 ?_
    replace h := h.2
    refine a_i2c (pc := 25) hC dX10_character_25 ?_
    refine a_goto (pc := 26) (tgt := 30) hC dX10_character_26 (by decide) ?_
    exact a_cret (pc := 30) hC hE h.1 h.2 (Nat.le_of_ble_eq_true rfl) (Nat.le_of_ble_eq_true rfl) dX10_character_30
set_option maxRecDepth 20000 in
theorem tLX10_allDamp_4 {f : aF} {g : aG} (hX : isM g) (P : Int32 → aS → Prop) (hR : f_R f = aR 1 0 0) (hC : aOK f g cX10_allDamp 3 RX10) (hE : aEi f g .int P (fun _ _ => False) 0 0) {K : Int32 → aS → Prop} (hK : ∀ (w1 : Int32) (q : aS), K w1 q → AW f g 34 [none, some (.int w1), none] [] q 0 0) : ∀ (N : Nat) (v1 : Int32) (v2 : Int32) (q : aS), LX10_allDamp_4 P K N v1 v2 q → AW f g 4 [some (.ref (gAd g 0)), some (.int v1), some (.int v2)] [] q 0 0 := by
  intro N
  induction N with
  | zero =>
    intro v1 v2 q h
    exact h.elim
  | succ N ih =>
    intro v1 v2 q h
    unfold LX10_allDamp_4 at h
    refine a_iload_n (pc := 4) hC dX10_allDamp_4 rfl ?_
    refine a_aload_n (pc := 5) hC dX10_allDamp_5 rfl ?_
    refine a_get (pc := 6) hC cl_X10 (oM_0 hX) 0 (by decide) tw_1504 rfl dX10_allDamp_6 ?_
    refine a_iconst (pc := 9) hC dX10_allDamp_9 (v := 0) rfl ?_
    refine a_iald (pc := 10) hC (oM_1 hX) h.1 dX10_allDamp_10 ?_
    replace h := h.2
    refine a_icmp_ge (pc := 11) (tgt := 34) hC dX10_allDamp_11 (by decide) (fun c => ?_) (fun c => ?_)
    · replace h := h.1 c
      exact (hK _ _ h).forget ⟨rfl, trivial⟩
    · replace h := h.2 c
      refine a_iload_n (pc := 14) hC dX10_allDamp_14 rfl ?_
      refine a_aload_n (pc := 15) hC dX10_allDamp_15 rfl ?_
      refine a_get (pc := 16) hC cl_X10 (oM_0 hX) 0 (by decide) tw_1504 rfl dX10_allDamp_16 ?_
      refine a_iload_n (pc := 19) hC dX10_allDamp_19 rfl ?_
      refine a_callS (pc := 20) hC hR sm_X10_roomAt tw_1620 ⟨(Nat.le_of_ble_eq_true rfl), (Nat.le_of_ble_eq_true rfl), (Nat.le_of_ble_eq_true rfl), (Nat.le_of_ble_eq_true rfl)⟩ dX10_allDamp_20 (t_X10_roomAt hX hC.tr _ _ _ h) rfl rfl rfl (Nat.le_of_ble_eq_true rfl) (fun r1 q2 h => ?_)
      refine a_iconst (pc := 23) hC dX10_allDamp_23 (v := 1) rfl ?_
      refine a_iadd (pc := 24) hC dX10_allDamp_24 ?_
      refine a_iald (pc := 25) hC (oM_1 hX) h.1 dX10_allDamp_25 ?_
      replace h := h.2
      refine a_iadd (pc := 26) hC dX10_allDamp_26 ?_
      refine a_istore_n (pc := 27) hC dX10_allDamp_27 (Nat.le_of_ble_eq_true rfl) ?_
      replace h := h _ rfl
      refine a_iinc (pc := 28) hC dX10_allDamp_28 rfl (c := 1) rfl ?_
      replace h := h _ rfl
      refine a_goto (pc := 31) (tgt := 4) hC dX10_allDamp_31 (by decide) ?_
      exact (ih _ _ _ h).forget ⟨rfl, rfl, rfl, trivial⟩
set_option maxRecDepth 20000 in
theorem t_X10_allDamp {l : Launch} {g : aG} (hX : isM g) (hl : l.stackTraces = false) (q : aS) (P : Int32 → aS → Prop) (h : w_X10_allDamp q P) : aMi l g yX10_allDamp (aWs yX10_allDamp cX10_allDamp 3 (some .int)) 1 0 0 [.ref (gAd g 0)] q P (fun _ _ => False) := by
  refine aMi_of RX10 ⟨by decide +kernel, rfl⟩ (cat_all rfl) (Nat.le_of_ble_eq_true rfl) hl hX.cl (fun f hR hC hE => ?_)
  show AW f g 0 [some (.ref (gAd g 0)), none, none] [] q 0 0
  unfold w_X10_allDamp at h
  refine a_iconst (pc := 0) hC dX10_allDamp_0 (v := 0) rfl ?_
  refine a_istore_n (pc := 1) hC dX10_allDamp_1 (Nat.le_of_ble_eq_true rfl) ?_
  refine a_iconst (pc := 2) hC dX10_allDamp_2 (v := 0) rfl ?_
  refine a_istore_n (pc := 3) hC dX10_allDamp_3 (Nat.le_of_ble_eq_true rfl) ?_
  obtain ⟨N, h⟩ := h
  refine (tLX10_allDamp_4 hX P hR hC hE (fun y5 q6 h => ?_) N _ _ _ h).forget ⟨rfl, rfl, rfl, trivial⟩
  refine a_iload_n (pc := 34) hC dX10_allDamp_34 rfl ?_
  exact a_iret (pc := 35) hC hE h (Nat.le_of_ble_eq_true rfl) (Nat.le_of_ble_eq_true rfl) dX10_allDamp_35
set_option maxRecDepth 20000 in
theorem tLX10_allLet_4 {f : aF} {g : aG} (hX : isM g) (P : Int32 → aS → Prop) (hR : f_R f = aR 2 0 0) (hC : aOK f g cX10_allLet 3 RX10) (hE : aEi f g .int P (fun _ _ => False) 0 0) {K : Int32 → aS → Prop} (hK : ∀ (w1 : Int32) (q : aS), K w1 q → AW f g 29 [none, some (.int w1), none] [] q 0 0) : ∀ (N : Nat) (v1 : Int32) (v2 : Int32) (q : aS), LX10_allLet_4 P K N v1 v2 q → AW f g 4 [some (.ref (gAd g 0)), some (.int v1), some (.int v2)] [] q 0 0 := by
  intro N
  induction N with
  | zero =>
    intro v1 v2 q h
    exact h.elim
  | succ N ih =>
    intro v1 v2 q h
    unfold LX10_allLet_4 at h
    refine a_iload_n (pc := 4) hC dX10_allLet_4 rfl ?_
    refine a_aload_n (pc := 5) hC dX10_allLet_5 rfl ?_
    refine a_get (pc := 6) hC cl_X10 (oM_0 hX) 0 (by decide) tw_1504 rfl dX10_allLet_6 ?_
    refine a_iconst (pc := 9) hC dX10_allLet_9 (v := 2) rfl ?_
    refine a_iald (pc := 10) hC (oM_1 hX) h.1 dX10_allLet_10 ?_
    replace h := h.2
    refine a_icmp_ge (pc := 11) (tgt := 29) hC dX10_allLet_11 (by decide) (fun c => ?_) (fun c => ?_)
    · replace h := h.1 c
      exact (hK _ _ h).forget ⟨rfl, trivial⟩
    · replace h := h.2 c
      refine a_iload_n (pc := 14) hC dX10_allLet_14 rfl ?_
      refine a_aload_n (pc := 15) hC dX10_allLet_15 rfl ?_
      refine a_iload_n (pc := 16) hC dX10_allLet_16 rfl ?_
      refine a_iconst (pc := 17) hC dX10_allLet_17 (v := 0) rfl ?_
      refine a_callV (pc := 18) hC hR vm_X10_letTo tw_1768 cl_X10 (oM_0 hX) ⟨(Nat.le_of_ble_eq_true rfl), (Nat.le_of_ble_eq_true rfl), (Nat.le_of_ble_eq_true rfl), (Nat.le_of_ble_eq_true rfl)⟩ dX10_allLet_18 (t_X10_letTo hX hC.tr _ _ _ _ h) rfl rfl rfl (Nat.le_of_ble_eq_true rfl) (fun r1 q2 h => ?_)
      refine a_iadd (pc := 21) hC dX10_allLet_21 ?_
      refine a_istore_n (pc := 22) hC dX10_allLet_22 (Nat.le_of_ble_eq_true rfl) ?_
      replace h := h _ rfl
      refine a_iinc (pc := 23) hC dX10_allLet_23 rfl (c := 1) rfl ?_
      replace h := h _ rfl
      refine a_goto (pc := 26) (tgt := 4) hC dX10_allLet_26 (by decide) ?_
      exact (ih _ _ _ h).forget ⟨rfl, rfl, rfl, trivial⟩
set_option maxRecDepth 20000 in
theorem t_X10_allLet {l : Launch} {g : aG} (hX : isM g) (hl : l.stackTraces = false) (q : aS) (P : Int32 → aS → Prop) (h : w_X10_allLet q P) : aMi l g yX10_allLet (aWs yX10_allLet cX10_allLet 3 (some .int)) 2 0 0 [.ref (gAd g 0)] q P (fun _ _ => False) := by
  refine aMi_of RX10 ⟨by decide +kernel, rfl⟩ (cat_all rfl) (Nat.le_of_ble_eq_true rfl) hl hX.cl (fun f hR hC hE => ?_)
  show AW f g 0 [some (.ref (gAd g 0)), none, none] [] q 0 0
  unfold w_X10_allLet at h
  refine a_iconst (pc := 0) hC dX10_allLet_0 (v := 0) rfl ?_
  refine a_istore_n (pc := 1) hC dX10_allLet_1 (Nat.le_of_ble_eq_true rfl) ?_
  refine a_iconst (pc := 2) hC dX10_allLet_2 (v := 0) rfl ?_
  refine a_istore_n (pc := 3) hC dX10_allLet_3 (Nat.le_of_ble_eq_true rfl) ?_
  obtain ⟨N, h⟩ := h
  refine (tLX10_allLet_4 hX P hR hC hE (fun y5 q6 h => ?_) N _ _ _ h).forget ⟨rfl, rfl, rfl, trivial⟩
  refine a_iload_n (pc := 29) hC dX10_allLet_29 rfl ?_
  exact a_iret (pc := 30) hC hE h (Nat.le_of_ble_eq_true rfl) (Nat.le_of_ble_eq_true rfl) dX10_allLet_30
set_option maxRecDepth 20000 in
theorem tJX10_account_116 {f : aF} {g : aG} (hX : isM g) (P : Int32 → aS → Prop) (hR : f_R f = aR 3 0 0) (hC : aOK f g cX10_account 2 RX10) (hE : aEi f g .int P (fun _ _ => False) 0 0) (j1 : Int32) (q : aS) (h : JX10_account_116 j1 P q) : AW f g 116 [some (.ref (gAd g 0)), some (.int j1)] [] q 0 0 := by
  unfold JX10_account_116 at h
  refine a_aload_n (pc := 116) hC dX10_account_116 rfl ?_
  refine a_get (pc := 117) hC cl_X10 (oM_0 hX) 0 (by decide) tw_1504 rfl dX10_account_117 ?_
  refine a_iconst (pc := 120) hC dX10_account_120 (v := 4) rfl ?_
  refine a_iload_n (pc := 121) hC dX10_account_121 rfl ?_
  refine a_iadd (pc := 122) hC dX10_account_122 ?_
  refine a_bipush (pc := 123) hC dX10_account_123 (v := 6) rfl ?_
  refine a_isub (pc := 125) hC dX10_account_125 ?_
  refine a_iald (pc := 126) hC (oM_1 hX) h.1 dX10_account_126 ?_
  replace h := h.2
  exact a_iret (pc := 127) hC hE h (Nat.le_of_ble_eq_true rfl) (Nat.le_of_ble_eq_true rfl) dX10_account_127
set_option maxRecDepth 20000 in
theorem tJX10_account_16 {f : aF} {g : aG} (hX : isM g) (P : Int32 → aS → Prop) (hR : f_R f = aR 3 0 0) (hC : aOK f g cX10_account 2 RX10) (hE : aEi f g .int P (fun _ _ => False) 0 0) (j1 : Int32) (s0 : Int32) (q : aS) (h : JX10_account_16 j1 s0 P q) : AW f g 16 [some (.ref (gAd g 0)), some (.int j1)] [.int s0, .ref (gAd g 0)] q 0 0 := by
  unfold JX10_account_16 at h
  refine a_put (pc := 16) hC cl_X10 (oM_0 hX) 15 (by decide) tw_1519 tyX10 tyX10_ok rfl rfl rfl (Nat.le_of_ble_eq_true rfl) rfl dX10_account_16 ?_
  replace h := h _ rfl
  refine a_iload_n (pc := 19) hC dX10_account_19 rfl ?_
  refine tab_or (fun c0 => ?_) (fun c0 => ?_) h
  · intro h
    refine a_tabIn (pc := 20) (tgt := 92) hC dX10_account_20 (by rw [c0]; decide) (by rw [c0]; decide) (by rw [c0]; rfl) (by decide) ?_
    refine a_aload_n (pc := 92) hC dX10_account_92 rfl ?_
    refine a_get (pc := 93) hC cl_X10 (oM_0 hX) 0 (by decide) tw_1504 rfl dX10_account_93 ?_
    refine a_iload_n (pc := 96) hC dX10_account_96 rfl ?_
    refine a_iald (pc := 97) hC (oM_1 hX) h.1 dX10_account_97 ?_
    replace h := h.2
    exact a_iret (pc := 98) hC hE h (Nat.le_of_ble_eq_true rfl) (Nat.le_of_ble_eq_true rfl) dX10_account_98
  intro h
  refine tab_or (fun c1 => ?_) (fun c1 => ?_) h
  · intro h
    refine a_tabIn (pc := 20) (tgt := 92) hC dX10_account_20 (by rw [c1]; decide) (by rw [c1]; decide) (by rw [c1]; rfl) (by decide) ?_
    refine a_aload_n (pc := 92) hC dX10_account_92 rfl ?_
    refine a_get (pc := 93) hC cl_X10 (oM_0 hX) 0 (by decide) tw_1504 rfl dX10_account_93 ?_
    refine a_iload_n (pc := 96) hC dX10_account_96 rfl ?_
    refine a_iald (pc := 97) hC (oM_1 hX) h.1 dX10_account_97 ?_
    replace h := h.2
    exact a_iret (pc := 98) hC hE h (Nat.le_of_ble_eq_true rfl) (Nat.le_of_ble_eq_true rfl) dX10_account_98
  intro h
  refine tab_or (fun c2 => ?_) (fun c2 => ?_) h
  · intro h
    refine a_tabIn (pc := 20) (tgt := 92) hC dX10_account_20 (by rw [c2]; decide) (by rw [c2]; decide) (by rw [c2]; rfl) (by decide) ?_
    refine a_aload_n (pc := 92) hC dX10_account_92 rfl ?_
    refine a_get (pc := 93) hC cl_X10 (oM_0 hX) 0 (by decide) tw_1504 rfl dX10_account_93 ?_
    refine a_iload_n (pc := 96) hC dX10_account_96 rfl ?_
    refine a_iald (pc := 97) hC (oM_1 hX) h.1 dX10_account_97 ?_
    replace h := h.2
    exact a_iret (pc := 98) hC hE h (Nat.le_of_ble_eq_true rfl) (Nat.le_of_ble_eq_true rfl) dX10_account_98
  intro h
  refine tab_or (fun c3 => ?_) (fun c3 => ?_) h
  · intro h
    refine a_tabIn (pc := 20) (tgt := 99) hC dX10_account_20 (by rw [c3]; decide) (by rw [c3]; decide) (by rw [c3]; rfl) (by decide) ?_
    refine a_aload_n (pc := 99) hC dX10_account_99 rfl ?_
    refine a_callV (pc := 100) hC hR vm_X10_allLet tw_1884 cl_X10 (oM_0 hX) ⟨(Nat.le_of_ble_eq_true rfl), (Nat.le_of_ble_eq_true rfl), (Nat.le_of_ble_eq_true rfl), (Nat.le_of_ble_eq_true rfl)⟩ dX10_account_100 (t_X10_allLet hX hC.tr _ _ h) rfl rfl rfl (Nat.le_of_ble_eq_true rfl) (fun r5 q6 h => ?_)
    exact a_iret (pc := 103) hC hE h (Nat.le_of_ble_eq_true rfl) (Nat.le_of_ble_eq_true rfl) dX10_account_103
  intro h
  refine tab_or (fun c4 => ?_) (fun c4 => ?_) h
  · intro h
    refine a_tabIn (pc := 20) (tgt := 104) hC dX10_account_20 (by rw [c4]; decide) (by rw [c4]; decide) (by rw [c4]; rfl) (by decide) ?_
    refine a_aload_n (pc := 104) hC dX10_account_104 rfl ?_
    refine a_get (pc := 105) hC cl_X10 (oM_0 hX) 0 (by decide) tw_1504 rfl dX10_account_105 ?_
    refine a_iconst (pc := 108) hC dX10_account_108 (v := 3) rfl ?_
    refine a_iald (pc := 109) hC (oM_1 hX) h.1 dX10_account_109 ?_
    replace h := h.2
    exact a_iret (pc := 110) hC hE h (Nat.le_of_ble_eq_true rfl) (Nat.le_of_ble_eq_true rfl) dX10_account_110
  intro h
  refine tab_or (fun c5 => ?_) (fun c5 => ?_) h
  · intro h
    refine a_tabIn (pc := 20) (tgt := 111) hC dX10_account_20 (by rw [c5]; decide) (by rw [c5]; decide) (by rw [c5]; rfl) (by decide) ?_
    refine a_aload_n (pc := 111) hC dX10_account_111 rfl ?_
    refine a_callV (pc := 112) hC hR vm_X10_allDamp tw_1888 cl_X10 (oM_0 hX) ⟨(Nat.le_of_ble_eq_true rfl), (Nat.le_of_ble_eq_true rfl), (Nat.le_of_ble_eq_true rfl), (Nat.le_of_ble_eq_true rfl)⟩ dX10_account_112 (t_X10_allDamp hX hC.tr _ _ h) rfl rfl rfl (Nat.le_of_ble_eq_true rfl) (fun r7 q8 h => ?_)
    exact a_iret (pc := 115) hC hE h (Nat.le_of_ble_eq_true rfl) (Nat.le_of_ble_eq_true rfl) dX10_account_115
  intro h
  refine tab_or (fun c6 => ?_) (fun c6 => ?_) h
  · intro h
    refine a_tabIn (pc := 20) (tgt := 116) hC dX10_account_20 (by rw [c6]; decide) (by rw [c6]; decide) (by rw [c6]; rfl) (by decide) ?_
    exact (tJX10_account_116 hX P hR hC hE _ _ h).forget ⟨rfl, rfl, trivial⟩
  intro h
  refine tab_or (fun c7 => ?_) (fun c7 => ?_) h
  · intro h
    refine a_tabIn (pc := 20) (tgt := 116) hC dX10_account_20 (by rw [c7]; decide) (by rw [c7]; decide) (by rw [c7]; rfl) (by decide) ?_
    exact (tJX10_account_116 hX P hR hC hE _ _ h).forget ⟨rfl, rfl, trivial⟩
  intro h
  refine tab_or (fun c8 => ?_) (fun c8 => ?_) h
  · intro h
    refine a_tabIn (pc := 20) (tgt := 116) hC dX10_account_20 (by rw [c8]; decide) (by rw [c8]; decide) (by rw [c8]; rfl) (by decide) ?_
    exact (tJX10_account_116 hX P hR hC hE _ _ h).forget ⟨rfl, rfl, trivial⟩
  intro h
  refine tab_or (fun c9 => ?_) (fun c9 => ?_) h
  · intro h
    refine a_tabIn (pc := 20) (tgt := 116) hC dX10_account_20 (by rw [c9]; decide) (by rw [c9]; decide) (by rw [c9]; rfl) (by decide) ?_
    exact (tJX10_account_116 hX P hR hC hE _ _ h).forget ⟨rfl, rfl, trivial⟩
  intro h
  refine tab_or (fun c10 => ?_) (fun c10 => ?_) h
  · intro h
    refine a_tabIn (pc := 20) (tgt := 116) hC dX10_account_20 (by rw [c10]; decide) (by rw [c10]; decide) (by rw [c10]; rfl) (by decide) ?_
    exact (tJX10_account_116 hX P hR hC hE _ _ h).forget ⟨rfl, rfl, trivial⟩
  intro h
  refine tab_or (fun c11 => ?_) (fun c11 => ?_) h
  · intro h
    refine a_tabIn (pc := 20) (tgt := 128) hC dX10_account_20 (by rw [c11]; decide) (by rw [c11]; decide) (by rw [c11]; rfl) (by decide) ?_
    refine a_aload_n (pc := 128) hC dX10_account_128 rfl ?_
    refine a_get (pc := 129) hC cl_X10 (oM_0 hX) 0 (by decide) tw_1504 rfl dX10_account_129 ?_
    refine a_bipush (pc := 132) hC dX10_account_132 (v := 6) rfl ?_
    refine a_iald (pc := 134) hC (oM_1 hX) h.1 dX10_account_134 ?_
    replace h := h.2
    refine a_aload_n (pc := 135) hC dX10_account_135 rfl ?_
    refine a_get (pc := 136) hC cl_X10 (oM_0 hX) 0 (by decide) tw_1504 rfl dX10_account_136 ?_
    refine a_bipush (pc := 139) hC dX10_account_139 (v := 7) rfl ?_
    refine a_iald (pc := 141) hC (oM_1 hX) h.1 dX10_account_141 ?_
    replace h := h.2
    refine a_isub (pc := 142) hC dX10_account_142 ?_
    refine a_aload_n (pc := 143) hC dX10_account_143 rfl ?_
    refine a_get (pc := 144) hC cl_X10 (oM_0 hX) 0 (by decide) tw_1504 rfl dX10_account_144 ?_
    refine a_bipush (pc := 147) hC dX10_account_147 (v := 8) rfl ?_
    refine a_iald (pc := 149) hC (oM_1 hX) h.1 dX10_account_149 ?_
    replace h := h.2
    refine a_isub (pc := 150) hC dX10_account_150 ?_
    exact a_iret (pc := 151) hC hE h (Nat.le_of_ble_eq_true rfl) (Nat.le_of_ble_eq_true rfl) dX10_account_151
  intro h
  refine tab_or (fun c12 => ?_) (fun c12 => ?_) h
  · intro h
    refine a_tabIn (pc := 20) (tgt := 152) hC dX10_account_20 (by rw [c12]; decide) (by rw [c12]; decide) (by rw [c12]; rfl) (by decide) ?_
    refine a_aload_n (pc := 152) hC dX10_account_152 rfl ?_
    refine a_get (pc := 153) hC cl_X10 (oM_0 hX) 12 (by decide) tw_1516 rfl dX10_account_153 ?_
    exact a_iret (pc := 156) hC hE h (Nat.le_of_ble_eq_true rfl) (Nat.le_of_ble_eq_true rfl) dX10_account_156
  intro h
  refine tab_or (fun c13 => ?_) (fun c13 => ?_) h
  · intro h
    refine a_tabIn (pc := 20) (tgt := 157) hC dX10_account_20 (by rw [c13]; decide) (by rw [c13]; decide) (by rw [c13]; rfl) (by decide) ?_
    refine a_aload_n (pc := 157) hC dX10_account_157 rfl ?_
    refine a_get (pc := 158) hC cl_X10 (oM_0 hX) 5 (by decide) tw_1509 rfl dX10_account_158 ?_
    exact a_iret (pc := 161) hC hE h (Nat.le_of_ble_eq_true rfl) (Nat.le_of_ble_eq_true rfl) dX10_account_161
  intro h
  refine a_tabOut (pc := 20) (tgt := 162) hC dX10_account_20 (by have e0 := tab_ne (z := 0) rfl c0; have e1 := tab_ne (z := 1) rfl c1; have e2 := tab_ne (z := 2) rfl c2; have e3 := tab_ne (z := 3) rfl c3; have e4 := tab_ne (z := 4) rfl c4; have e5 := tab_ne (z := 5) rfl c5; have e6 := tab_ne (z := 6) rfl c6; have e7 := tab_ne (z := 7) rfl c7; have e8 := tab_ne (z := 8) rfl c8; have e9 := tab_ne (z := 9) rfl c9; have e10 := tab_ne (z := 10) rfl c10; have e11 := tab_ne (z := 11) rfl c11; have e12 := tab_ne (z := 12) rfl c12; have e13 := tab_ne (z := 13) rfl c13; omega) (by decide) ?_
  refine a_iconst (pc := 162) hC dX10_account_162 (v := 0) rfl ?_
  exact a_iret (pc := 163) hC hE h (Nat.le_of_ble_eq_true rfl) (Nat.le_of_ble_eq_true rfl) dX10_account_163
set_option maxRecDepth 20000 in
theorem t_X10_account {l : Launch} {g : aG} (hX : isM g) (hl : l.stackTraces = false) (x1 : Int32) (q : aS) (P : Int32 → aS → Prop) (h : w_X10_account x1 q P) : aMi l g yX10_account (aWs yX10_account cX10_account 2 (some .int)) 3 0 0 [.ref (gAd g 0), .int x1] q P (fun _ _ => False) := by
  refine aMi_of RX10 ⟨by decide +kernel, rfl⟩ (cat_all rfl) (Nat.le_of_ble_eq_true rfl) hl hX.cl (fun f hR hC hE => ?_)
  show AW f g 0 [some (.ref (gAd g 0)), some (.int x1)] [] q 0 0
  unfold w_X10_account at h
  refine a_aload_n (pc := 0) hC dX10_account_0 rfl ?_
  refine a_iload_n (pc := 1) hC dX10_account_1 rfl ?_
  refine a_iconst (pc := 2) hC dX10_account_2 (v := 0) rfl ?_
  refine a_bipush (pc := 3) hC dX10_account_3 (v := 13) rfl ?_
  refine a_callS (pc := 5) hC hR sm_X10_isIn tw_1582 ⟨(Nat.le_of_ble_eq_true rfl), (Nat.le_of_ble_eq_true rfl), (Nat.le_of_ble_eq_true rfl), (Nat.le_of_ble_eq_true rfl)⟩ dX10_account_5 (t_X10_isIn hX hC.tr _ _ _ _ _ h) rfl rfl rfl (Nat.le_of_ble_eq_true rfl) (fun r2 q3 h => ?_)
  have z_r2 := h.1
  replace h := h.2
  refine a_if_eq (pc := 8) (tgt := 15) hC dX10_account_8 (by decide) (fun c => ?_) (fun c => ?_)
  · replace h := h.1 c
    refine a_iconst (pc := 15) hC dX10_account_15 (v := 1) rfl ?_
    exact (tJX10_account_16 hX P hR hC hE _ _ _ h).forget ⟨rfl, rfl, trivial⟩
  · replace h := h.2 c
    refine a_iconst (pc := 11) hC dX10_account_11 (v := 0) rfl ?_
    refine a_goto (pc := 12) (tgt := 16) hC dX10_account_12 (by decide) ?_
    exact (tJX10_account_16 hX P hR hC hE _ _ _ h).forget ⟨rfl, rfl, trivial⟩
set_option maxRecDepth 20000 in
theorem tJX10_meanDamp_15 {f : aF} {g : aG} (hX : isM g) (P : UInt64 → aS → Prop) (hR : f_R f = aR 2 0 0) (hC : aOK f g cX10_meanDamp 1 RX10) (hE : aEd f g P (fun _ _ => False) 0 0) (s0 : Int32) (q : aS) (h : JX10_meanDamp_15 s0 P q) : AW f g 15 [some (.ref (gAd g 0))] [.int s0, .ref (gAd g 0)] q 0 0 := by
  unfold JX10_meanDamp_15 at h
  refine a_iconst (pc := 15) hC dX10_meanDamp_15 (v := 1) rfl ?_
  refine a_callV (pc := 16) hC hR vm_X10_goes tw_1585 cl_X10 (oM_0 hX) ⟨(Nat.le_of_ble_eq_true rfl), (Nat.le_of_ble_eq_true rfl), (Nat.le_of_ble_eq_true rfl), (Nat.le_of_ble_eq_true rfl)⟩ dX10_meanDamp_16 (t_X10_goes hX hC.tr _ _ _ _ h) rfl rfl rfl (Nat.le_of_ble_eq_true rfl) (fun r1 q2 h => ?_)
  have z_r1 := h.1
  replace h := h.2
  refine a_if_eq (pc := 19) (tgt := 38) hC dX10_meanDamp_19 (by decide) (fun c => ?_) (fun c => ?_)
  · replace h := h.1 c
    refine a_dconst0 (pc := 38) hC dX10_meanDamp_38 ?_
    exact a_dret (pc := 39) hC hE h (Nat.le_of_ble_eq_true rfl) (Nat.le_of_ble_eq_true rfl) dX10_meanDamp_39
  · replace h := h.2 c
    refine a_aload_n (pc := 22) hC dX10_meanDamp_22 rfl ?_
    refine a_callV (pc := 23) hC hR vm_X10_allDamp tw_1888 cl_X10 (oM_0 hX) ⟨(Nat.le_of_ble_eq_true rfl), (Nat.le_of_ble_eq_true rfl), (Nat.le_of_ble_eq_true rfl), (Nat.le_of_ble_eq_true rfl)⟩ dX10_meanDamp_23 (t_X10_allDamp hX hC.tr _ _ h) rfl rfl rfl (Nat.le_of_ble_eq_true rfl) (fun r3 q4 h => ?_)
    refine a_i2d (pc := 26) hC dX10_meanDamp_26 ?_
    refine a_aload_n (pc := 27) hC dX10_meanDamp_27 rfl ?_
    refine a_get (pc := 28) hC cl_X10 (oM_0 hX) 0 (by decide) tw_1504 rfl dX10_meanDamp_28 ?_
    refine a_iconst (pc := 31) hC dX10_meanDamp_31 (v := 0) rfl ?_
    refine a_iald (pc := 32) hC (oM_1 hX) h.1 dX10_meanDamp_32 ?_
    replace h := h.2
    refine a_i2d (pc := 33) hC dX10_meanDamp_33 ?_
    refine a_ddiv (pc := 34) hC dX10_meanDamp_34 h.1 ?_
    replace h := h.2
    refine a_goto (pc := 35) (tgt := 39) hC dX10_meanDamp_35 (by decide) ?_
    exact a_dret (pc := 39) hC hE h (Nat.le_of_ble_eq_true rfl) (Nat.le_of_ble_eq_true rfl) dX10_meanDamp_39
set_option maxRecDepth 20000 in
theorem t_X10_meanDamp {l : Launch} {g : aG} (hX : isM g) (hl : l.stackTraces = false) (q : aS) (P : UInt64 → aS → Prop) (h : w_X10_meanDamp q P) : aMd l g yX10_meanDamp (aWs yX10_meanDamp cX10_meanDamp 1 (some .double)) 2 0 0 [.ref (gAd g 0)] q P (fun _ _ => False) := by
  refine aMd_of RX10 ⟨by decide +kernel, rfl⟩ (cat_all rfl) (Nat.le_of_ble_eq_true rfl) hl hX.cl (fun f hR hC hE => ?_)
  show AW f g 0 [some (.ref (gAd g 0))] [] q 0 0
  unfold w_X10_meanDamp at h
  refine a_aload_n (pc := 0) hC dX10_meanDamp_0 rfl ?_
  refine a_aload_n (pc := 1) hC dX10_meanDamp_1 rfl ?_
  refine a_get (pc := 2) hC cl_X10 (oM_0 hX) 0 (by decide) tw_1504 rfl dX10_meanDamp_2 ?_
  refine a_iconst (pc := 5) hC dX10_meanDamp_5 (v := 0) rfl ?_
  refine a_iald (pc := 6) hC (oM_1 hX) h.1 dX10_meanDamp_6 ?_
  replace h := h.2
  refine a_if_le (pc := 7) (tgt := 14) hC dX10_meanDamp_7 (by decide) (fun c => ?_) (fun c => ?_)
  · replace h := h.1 c
    refine a_iconst (pc := 14) hC dX10_meanDamp_14 (v := 0) rfl ?_
    exact (tJX10_meanDamp_15 hX P hR hC hE _ _ h).forget ⟨rfl, trivial⟩
  · replace h := h.2 c
    refine a_iconst (pc := 10) hC dX10_meanDamp_10 (v := 1) rfl ?_
    refine a_goto (pc := 11) (tgt := 15) hC dX10_meanDamp_11 (by decide) ?_
    exact (tJX10_meanDamp_15 hX P hR hC hE _ _ h).forget ⟨rfl, trivial⟩
set_option maxRecDepth 20000 in
theorem tJX10_letShare_15 {f : aF} {g : aG} (hX : isM g) (P : UInt32 → aS → Prop) (hR : f_R f = aR 3 0 0) (hC : aOK f g cX10_letShare 1 RX10) (hE : aEf f g P (fun _ _ => False) 0 0) (s0 : Int32) (q : aS) (h : JX10_letShare_15 s0 P q) : AW f g 15 [some (.ref (gAd g 0))] [.int s0, .ref (gAd g 0)] q 0 0 := by
  unfold JX10_letShare_15 at h
  refine a_iconst (pc := 15) hC dX10_letShare_15 (v := 1) rfl ?_
  refine a_callV (pc := 16) hC hR vm_X10_goes tw_1585 cl_X10 (oM_0 hX) ⟨(Nat.le_of_ble_eq_true rfl), (Nat.le_of_ble_eq_true rfl), (Nat.le_of_ble_eq_true rfl), (Nat.le_of_ble_eq_true rfl)⟩ dX10_letShare_16 (t_X10_goes hX hC.tr _ _ _ _ h) rfl rfl rfl (Nat.le_of_ble_eq_true rfl) (fun r1 q2 h => ?_)
  have z_r1 := h.1
  replace h := h.2
  refine a_if_eq (pc := 19) (tgt := 38) hC dX10_letShare_19 (by decide) (fun c => ?_) (fun c => ?_)
  · replace h := h.1 c
    refine a_fconst0 (pc := 38) hC dX10_letShare_38 ?_
    exact a_fret (pc := 39) hC hE h (Nat.le_of_ble_eq_true rfl) (Nat.le_of_ble_eq_true rfl) dX10_letShare_39
  · replace h := h.2 c
    refine a_aload_n (pc := 22) hC dX10_letShare_22 rfl ?_
    refine a_callV (pc := 23) hC hR vm_X10_allLet tw_1884 cl_X10 (oM_0 hX) ⟨(Nat.le_of_ble_eq_true rfl), (Nat.le_of_ble_eq_true rfl), (Nat.le_of_ble_eq_true rfl), (Nat.le_of_ble_eq_true rfl)⟩ dX10_letShare_23 (t_X10_allLet hX hC.tr _ _ h) rfl rfl rfl (Nat.le_of_ble_eq_true rfl) (fun r3 q4 h => ?_)
    refine a_i2f (pc := 26) hC dX10_letShare_26 ?_
    refine a_aload_n (pc := 27) hC dX10_letShare_27 rfl ?_
    refine a_get (pc := 28) hC cl_X10 (oM_0 hX) 0 (by decide) tw_1504 rfl dX10_letShare_28 ?_
    refine a_iconst (pc := 31) hC dX10_letShare_31 (v := 1) rfl ?_
    refine a_iald (pc := 32) hC (oM_1 hX) h.1 dX10_letShare_32 ?_
    replace h := h.2
    refine a_i2f (pc := 33) hC dX10_letShare_33 ?_
    refine a_fdiv (pc := 34) hC dX10_letShare_34 h.1 ?_
    replace h := h.2
    refine a_goto (pc := 35) (tgt := 39) hC dX10_letShare_35 (by decide) ?_
    exact a_fret (pc := 39) hC hE h (Nat.le_of_ble_eq_true rfl) (Nat.le_of_ble_eq_true rfl) dX10_letShare_39
set_option maxRecDepth 20000 in
theorem t_X10_letShare {l : Launch} {g : aG} (hX : isM g) (hl : l.stackTraces = false) (q : aS) (P : UInt32 → aS → Prop) (h : w_X10_letShare q P) : aMf l g yX10_letShare (aWs yX10_letShare cX10_letShare 1 (some .float)) 3 0 0 [.ref (gAd g 0)] q P (fun _ _ => False) := by
  refine aMf_of RX10 ⟨by decide +kernel, rfl⟩ (cat_all rfl) (Nat.le_of_ble_eq_true rfl) hl hX.cl (fun f hR hC hE => ?_)
  show AW f g 0 [some (.ref (gAd g 0))] [] q 0 0
  unfold w_X10_letShare at h
  refine a_aload_n (pc := 0) hC dX10_letShare_0 rfl ?_
  refine a_aload_n (pc := 1) hC dX10_letShare_1 rfl ?_
  refine a_get (pc := 2) hC cl_X10 (oM_0 hX) 0 (by decide) tw_1504 rfl dX10_letShare_2 ?_
  refine a_iconst (pc := 5) hC dX10_letShare_5 (v := 1) rfl ?_
  refine a_iald (pc := 6) hC (oM_1 hX) h.1 dX10_letShare_6 ?_
  replace h := h.2
  refine a_if_le (pc := 7) (tgt := 14) hC dX10_letShare_7 (by decide) (fun c => ?_) (fun c => ?_)
  · replace h := h.1 c
    refine a_iconst (pc := 14) hC dX10_letShare_14 (v := 0) rfl ?_
    exact (tJX10_letShare_15 hX P hR hC hE _ _ h).forget ⟨rfl, trivial⟩
  · replace h := h.2 c
    refine a_iconst (pc := 10) hC dX10_letShare_10 (v := 1) rfl ?_
    refine a_goto (pc := 11) (tgt := 15) hC dX10_letShare_11 (by decide) ?_
    exact (tJX10_letShare_15 hX P hR hC hE _ _ h).forget ⟨rfl, trivial⟩
set_option maxRecDepth 20000 in
theorem tJX10_append_23 {f : aF} {g : aG} (hX : isM g) (P : Int32 → aS → Prop) (hR : f_R f = aR 1 0 0) (hC : aOK f g cX10_append 2 RX10) (hE : aEi f g .int P (fun _ _ => False) 0 0) (j1 : Int32) (s0 : Int32) (s1 : Int32) (q : aS) (h : JX10_append_23 j1 s0 s1 P q) : AW f g 23 [some (.ref (gAd g 0)), some (.int j1)] [.int s0, .int s1, .ref (gAd g 0)] q 0 0 := by
  unfold JX10_append_23 at h
  refine a_callV (pc := 23) hC hR vm_X10_goes tw_1585 cl_X10 (oM_0 hX) ⟨(Nat.le_of_ble_eq_true rfl), (Nat.le_of_ble_eq_true rfl), (Nat.le_of_ble_eq_true rfl), (Nat.le_of_ble_eq_true rfl)⟩ dX10_append_23 (t_X10_goes hX hC.tr _ _ _ _ h) rfl rfl rfl (Nat.le_of_ble_eq_true rfl) (fun r4 q5 h => ?_)
  have z_r4 := h.1
  replace h := h.2
  refine a_if_ne (pc := 26) (tgt := 31) hC dX10_append_26 (by decide) (fun c => ?_) (fun c => ?_)
  · replace h := h.1 c
    refine a_aload_n (pc := 31) hC dX10_append_31 rfl ?_
    refine a_get (pc := 32) hC cl_X10 (oM_0 hX) 11 (by decide) tw_1515 rfl dX10_append_32 ?_
    refine a_aload_n (pc := 35) hC dX10_append_35 rfl ?_
    refine a_get (pc := 36) hC cl_X10 (oM_0 hX) 12 (by decide) tw_1516 rfl dX10_append_36 ?_
    refine a_iload_n (pc := 39) hC dX10_append_39 rfl ?_
    refine a_iast (pc := 40) hC (oM_5 hX) h.1 dX10_append_40 ?_
    replace h := h.2
    replace h := h _ rfl
    refine a_aload_n (pc := 41) hC dX10_append_41 rfl ?_
    refine a_dup (pc := 42) hC dX10_append_42 rfl ?_
    refine a_get (pc := 43) hC cl_X10 (oM_0 hX) 12 (by decide) tw_1516 rfl dX10_append_43 ?_
    refine a_iconst (pc := 46) hC dX10_append_46 (v := 1) rfl ?_
    refine a_iadd (pc := 47) hC dX10_append_47 ?_
    refine a_put (pc := 48) hC cl_X10 (oM_0 hX) 12 (by decide) tw_1516 tyX10 tyX10_ok rfl rfl rfl (Nat.le_of_ble_eq_true rfl) rfl dX10_append_48 ?_
    replace h := h _ rfl
    refine a_aload_n (pc := 51) hC dX10_append_51 rfl ?_
    refine a_get (pc := 52) hC cl_X10 (oM_0 hX) 12 (by decide) tw_1516 rfl dX10_append_52 ?_
    exact a_iret (pc := 55) hC hE h (Nat.le_of_ble_eq_true rfl) (Nat.le_of_ble_eq_true rfl) dX10_append_55
  · replace h := h.2 c
    refine a_iconst (pc := 29) hC dX10_append_29 (v := 0) rfl ?_
    exact a_iret (pc := 30) hC hE h (Nat.le_of_ble_eq_true rfl) (Nat.le_of_ble_eq_true rfl) dX10_append_30
set_option maxRecDepth 20000 in
theorem t_X10_append {l : Launch} {g : aG} (hX : isM g) (hl : l.stackTraces = false) (x1 : Int32) (q : aS) (P : Int32 → aS → Prop) (h : w_X10_append x1 q P) : aMi l g yX10_append (aWs yX10_append cX10_append 2 (some .int)) 1 0 0 [.ref (gAd g 0), .int x1] q P (fun _ _ => False) := by
  refine aMi_of RX10 ⟨by decide +kernel, rfl⟩ (cat_all rfl) (Nat.le_of_ble_eq_true rfl) hl hX.cl (fun f hR hC hE => ?_)
  show AW f g 0 [some (.ref (gAd g 0)), some (.int x1)] [] q 0 0
  unfold w_X10_append at h
  refine a_aload_n (pc := 0) hC dX10_append_0 rfl ?_
  refine a_iload_n (pc := 1) hC dX10_append_1 rfl ?_
  refine a_bipush (pc := 2) hC dX10_append_2 (v := 32) rfl ?_
  refine a_bipush (pc := 4) hC dX10_append_4 (v := 126) rfl ?_
  refine a_callS (pc := 6) hC hR sm_X10_isIn tw_1582 ⟨(Nat.le_of_ble_eq_true rfl), (Nat.le_of_ble_eq_true rfl), (Nat.le_of_ble_eq_true rfl), (Nat.le_of_ble_eq_true rfl)⟩ dX10_append_6 (t_X10_isIn hX hC.tr _ _ _ _ _ h) rfl rfl rfl (Nat.le_of_ble_eq_true rfl) (fun r2 q3 h => ?_)
  have z_r2 := h.1
  replace h := h.2
  refine a_aload_n (pc := 9) hC dX10_append_9 rfl ?_
  refine a_get (pc := 10) hC cl_X10 (oM_0 hX) 12 (by decide) tw_1516 rfl dX10_append_10 ?_
  refine a_bipush (pc := 13) hC dX10_append_13 (v := 60) rfl ?_
  refine a_icmp_ge (pc := 15) (tgt := 22) hC dX10_append_15 (by decide) (fun c => ?_) (fun c => ?_)
  · replace h := h.1 c
    refine a_iconst (pc := 22) hC dX10_append_22 (v := 0) rfl ?_
    exact (tJX10_append_23 hX P hR hC hE _ _ _ _ h).forget ⟨rfl, rfl, trivial⟩
  · replace h := h.2 c
    refine a_iconst (pc := 18) hC dX10_append_18 (v := 1) rfl ?_
    refine a_goto (pc := 19) (tgt := 23) hC dX10_append_19 (by decide) ?_
    exact (tJX10_append_23 hX P hR hC hE _ _ _ _ h).forget ⟨rfl, rfl, trivial⟩
set_option maxRecDepth 20000 in
theorem t_X10_faultPosition {l : Launch} {g : aG} (hX : isM g) (hl : l.stackTraces = false) (q : aS) (P : Int32 → aS → Prop) (h : w_X10_faultPosition q P) : aMi l g yX10_faultPosition (aWs yX10_faultPosition cX10_faultPosition 1 (some .int)) 0 0 0 [.ref (gAd g 0)] q P (fun _ _ => False) := by
  refine aMi_of RX10 ⟨by decide +kernel, rfl⟩ (cat_all rfl) (Nat.le_of_ble_eq_true rfl) hl hX.cl (fun f hR hC hE => ?_)
  show AW f g 0 [some (.ref (gAd g 0))] [] q 0 0
  unfold w_X10_faultPosition at h
  refine a_aload_n (pc := 0) hC dX10_faultPosition_0 rfl ?_
  refine a_iconst (pc := 1) hC dX10_faultPosition_1 (v := 0) rfl ?_
  refine a_put (pc := 2) hC cl_X10 (oM_0 hX) 15 (by decide) tw_1519 tyX10 tyX10_ok rfl rfl rfl (Nat.le_of_ble_eq_true rfl) rfl dX10_faultPosition_2 ?_
  replace h := h _ rfl
  refine a_aload_n (pc := 5) hC dX10_faultPosition_5 rfl ?_
  refine a_get (pc := 6) hC cl_X10 (oM_0 hX) 10 (by decide) tw_1514 rfl dX10_faultPosition_6 ?_
  exact a_iret (pc := 9) hC hE h (Nat.le_of_ble_eq_true rfl) (Nat.le_of_ble_eq_true rfl) dX10_faultPosition_9
set_option maxRecDepth 20000 in
theorem t_X10_letterHere {l : Launch} {g : aG} (hX : isM g) (hl : l.stackTraces = false) (q : aS) (P : Int32 → aS → Prop) (h : w_X10_letterHere q P) : aMi l g yX10_letterHere (aWs yX10_letterHere cX10_letterHere 1 (some .int)) 0 0 0 [.ref (gAd g 0)] q P (fun _ _ => False) := by
  refine aMi_of RX10 ⟨by decide +kernel, rfl⟩ (cat_all rfl) (Nat.le_of_ble_eq_true rfl) hl hX.cl (fun f hR hC hE => ?_)
  show AW f g 0 [some (.ref (gAd g 0))] [] q 0 0
  unfold w_X10_letterHere at h
  refine a_aload_n (pc := 0) hC dX10_letterHere_0 rfl ?_
  refine a_get (pc := 1) hC cl_X10 (oM_0 hX) 19 (by decide) tw_1523 rfl dX10_letterHere_1 ?_
  refine a_aload_n (pc := 4) hC dX10_letterHere_4 rfl ?_
  refine a_get (pc := 5) hC cl_X10 (oM_0 hX) 18 (by decide) tw_1522 rfl dX10_letterHere_5 ?_
  refine a_icmp_ge (pc := 8) (tgt := 23) hC dX10_letterHere_8 (by decide) (fun c => ?_) (fun c => ?_)
  · replace h := h.1 c
    refine a_iconst (pc := 23) hC dX10_letterHere_23 (v := (-1)) rfl ?_
    exact a_iret (pc := 24) hC hE h (Nat.le_of_ble_eq_true rfl) (Nat.le_of_ble_eq_true rfl) dX10_letterHere_24
  · replace h := h.2 c
    refine a_aload_n (pc := 11) hC dX10_letterHere_11 rfl ?_
    refine a_get (pc := 12) hC cl_X10 (oM_0 hX) 11 (by decide) tw_1515 rfl dX10_letterHere_12 ?_
    refine a_aload_n (pc := 15) hC dX10_letterHere_15 rfl ?_
    refine a_get (pc := 16) hC cl_X10 (oM_0 hX) 19 (by decide) tw_1523 rfl dX10_letterHere_16 ?_
    refine a_iald (pc := 19) hC (oM_5 hX) h.1 dX10_letterHere_19 ?_
    replace h := h.2
    refine a_goto (pc := 20) (tgt := 24) hC dX10_letterHere_20 (by decide) ?_
    exact a_iret (pc := 24) hC hE h (Nat.le_of_ble_eq_true rfl) (Nat.le_of_ble_eq_true rfl) dX10_letterHere_24
set_option maxRecDepth 20000 in
theorem tJX10_reads_44 {f : aF} {g : aG} (hX : isM g) (P : Int32 → aS → Prop) (hR : f_R f = aR 1 0 0) (hC : aOK f g cX10_reads 3 RX10) (hE : aEi f g .int P (fun _ _ => False) 0 0) (q : aS) (h : JX10_reads_44 P q) : AW f g 44 [some (.ref (gAd g 0)), none, none] [] q 0 0 := by
  unfold JX10_reads_44 at h
  refine a_aload_n (pc := 44) hC dX10_reads_44 rfl ?_
  refine a_aload_n (pc := 45) hC dX10_reads_45 rfl ?_
  refine a_get (pc := 46) hC cl_X10 (oM_0 hX) 20 (by decide) tw_1524 rfl dX10_reads_46 ?_
  refine a_iconst (pc := 49) hC dX10_reads_49 (v := (-1)) rfl ?_
  refine a_icmp_ne (pc := 50) (tgt := 60) hC dX10_reads_50 (by decide) (fun c => ?_) (fun c => ?_)
  · replace h := h.1 c
    refine a_aload_n (pc := 60) hC dX10_reads_60 rfl ?_
    refine a_get (pc := 61) hC cl_X10 (oM_0 hX) 20 (by decide) tw_1524 rfl dX10_reads_61 ?_
    refine a_put (pc := 64) hC cl_X10 (oM_0 hX) 20 (by decide) tw_1524 tyX10 tyX10_ok rfl rfl rfl (Nat.le_of_ble_eq_true rfl) rfl dX10_reads_64 ?_
    replace h := h _ rfl
    refine a_iconst (pc := 67) hC dX10_reads_67 (v := 0) rfl ?_
    exact a_iret (pc := 68) hC hE h (Nat.le_of_ble_eq_true rfl) (Nat.le_of_ble_eq_true rfl) dX10_reads_68
  · replace h := h.2 c
    refine a_aload_n (pc := 53) hC dX10_reads_53 rfl ?_
    refine a_get (pc := 54) hC cl_X10 (oM_0 hX) 19 (by decide) tw_1523 rfl dX10_reads_54 ?_
    refine a_goto (pc := 57) (tgt := 64) hC dX10_reads_57 (by decide) ?_
    refine a_put (pc := 64) hC cl_X10 (oM_0 hX) 20 (by decide) tw_1524 tyX10 tyX10_ok rfl rfl rfl (Nat.le_of_ble_eq_true rfl) rfl dX10_reads_64 ?_
    replace h := h _ rfl
    refine a_iconst (pc := 67) hC dX10_reads_67 (v := 0) rfl ?_
    exact a_iret (pc := 68) hC hE h (Nat.le_of_ble_eq_true rfl) (Nat.le_of_ble_eq_true rfl) dX10_reads_68
set_option maxRecDepth 20000 in
theorem t_X10_reads {l : Launch} {g : aG} (hX : isM g) (hl : l.stackTraces = false) (x1 : Int32) (x2 : Int32) (q : aS) (P : Int32 → aS → Prop) (h : w_X10_reads x1 x2 q P) : aMi l g yX10_reads (aWs yX10_reads cX10_reads 3 (some .int)) 1 0 0 [.ref (gAd g 0), .int x1, .int x2] q P (fun _ _ => False) := by
  refine aMi_of RX10 ⟨by decide +kernel, rfl⟩ (cat_all rfl) (Nat.le_of_ble_eq_true rfl) hl hX.cl (fun f hR hC hE => ?_)
  show AW f g 0 [some (.ref (gAd g 0)), some (.int x1), some (.int x2)] [] q 0 0
  unfold w_X10_reads at h
  refine a_aload_n (pc := 0) hC dX10_reads_0 rfl ?_
  refine a_get (pc := 1) hC cl_X10 (oM_0 hX) 20 (by decide) tw_1524 rfl dX10_reads_1 ?_
  refine a_iconst (pc := 4) hC dX10_reads_4 (v := (-1)) rfl ?_
  refine a_icmp_ne (pc := 5) (tgt := 44) hC dX10_reads_5 (by decide) (fun c => ?_) (fun c => ?_)
  · replace h := h.1 c
    exact (tJX10_reads_44 hX P hR hC hE _ h).forget ⟨rfl, trivial⟩
  · replace h := h.2 c
    refine a_aload_n (pc := 8) hC dX10_reads_8 rfl ?_
    refine a_callV (pc := 9) hC hR vm_X10_letterHere tw_1937 cl_X10 (oM_0 hX) ⟨(Nat.le_of_ble_eq_true rfl), (Nat.le_of_ble_eq_true rfl), (Nat.le_of_ble_eq_true rfl), (Nat.le_of_ble_eq_true rfl)⟩ dX10_reads_9 (t_X10_letterHere hX hC.tr _ _ h) rfl rfl rfl (Nat.le_of_ble_eq_true rfl) (fun r5 q6 h => ?_)
    refine a_iload_n (pc := 12) hC dX10_reads_12 rfl ?_
    refine a_iload_n (pc := 13) hC dX10_reads_13 rfl ?_
    refine a_callS (pc := 14) hC hR sm_X10_isIn tw_1582 ⟨(Nat.le_of_ble_eq_true rfl), (Nat.le_of_ble_eq_true rfl), (Nat.le_of_ble_eq_true rfl), (Nat.le_of_ble_eq_true rfl)⟩ dX10_reads_14 (t_X10_isIn hX hC.tr _ _ _ _ _ h) rfl rfl rfl (Nat.le_of_ble_eq_true rfl) (fun r7 q8 h => ?_)
    have z_r7 := h.1
    replace h := h.2
    refine a_if_eq (pc := 17) (tgt := 44) hC dX10_reads_17 (by decide) (fun c => ?_) (fun c => ?_)
    · replace h := h.1 c
      exact (tJX10_reads_44 hX P hR hC hE _ h).forget ⟨rfl, trivial⟩
    · replace h := h.2 c
      refine a_aload_n (pc := 20) hC dX10_reads_20 rfl ?_
      refine a_dup (pc := 21) hC dX10_reads_21 rfl ?_
      refine a_get (pc := 22) hC cl_X10 (oM_0 hX) 19 (by decide) tw_1523 rfl dX10_reads_22 ?_
      refine a_iconst (pc := 25) hC dX10_reads_25 (v := 1) rfl ?_
      refine a_iadd (pc := 26) hC dX10_reads_26 ?_
      refine a_put (pc := 27) hC cl_X10 (oM_0 hX) 19 (by decide) tw_1523 tyX10 tyX10_ok rfl rfl rfl (Nat.le_of_ble_eq_true rfl) rfl dX10_reads_27 ?_
      replace h := h _ rfl
      refine a_aload_n (pc := 30) hC dX10_reads_30 rfl ?_
      refine a_get (pc := 31) hC cl_X10 (oM_0 hX) 11 (by decide) tw_1515 rfl dX10_reads_31 ?_
      refine a_aload_n (pc := 34) hC dX10_reads_34 rfl ?_
      refine a_get (pc := 35) hC cl_X10 (oM_0 hX) 19 (by decide) tw_1523 rfl dX10_reads_35 ?_
      refine a_iconst (pc := 38) hC dX10_reads_38 (v := 1) rfl ?_
      refine a_isub (pc := 39) hC dX10_reads_39 ?_
      refine a_iald (pc := 40) hC (oM_5 hX) h.1 dX10_reads_40 ?_
      replace h := h.2
      refine a_iload_n (pc := 41) hC dX10_reads_41 rfl ?_
      refine a_isub (pc := 42) hC dX10_reads_42 ?_
      exact a_iret (pc := 43) hC hE h (Nat.le_of_ble_eq_true rfl) (Nat.le_of_ble_eq_true rfl) dX10_reads_43
set_option maxRecDepth 20000 in
theorem t_X10_digit {l : Launch} {g : aG} (hX : isM g) (hl : l.stackTraces = false) (q : aS) (P : Int32 → aS → Prop) (h : w_X10_digit q P) : aMi l g yX10_digit (aWs yX10_digit cX10_digit 1 (some .int)) 2 0 0 [.ref (gAd g 0)] q P (fun _ _ => False) := by
  refine aMi_of RX10 ⟨by decide +kernel, rfl⟩ (cat_all rfl) (Nat.le_of_ble_eq_true rfl) hl hX.cl (fun f hR hC hE => ?_)
  show AW f g 0 [some (.ref (gAd g 0))] [] q 0 0
  unfold w_X10_digit at h
  refine a_aload_n (pc := 0) hC dX10_digit_0 rfl ?_
  refine a_bipush (pc := 1) hC dX10_digit_1 (v := 48) rfl ?_
  refine a_bipush (pc := 3) hC dX10_digit_3 (v := 57) rfl ?_
  refine a_callV (pc := 5) hC hR vm_X10_reads tw_1933 cl_X10 (oM_0 hX) ⟨(Nat.le_of_ble_eq_true rfl), (Nat.le_of_ble_eq_true rfl), (Nat.le_of_ble_eq_true rfl), (Nat.le_of_ble_eq_true rfl)⟩ dX10_digit_5 (t_X10_reads hX hC.tr _ _ _ _ h) rfl rfl rfl (Nat.le_of_ble_eq_true rfl) (fun r1 q2 h => ?_)
  exact a_iret (pc := 8) hC hE h (Nat.le_of_ble_eq_true rfl) (Nat.le_of_ble_eq_true rfl) dX10_digit_8
set_option maxRecDepth 20000 in
theorem t_X10_behind {l : Launch} {g : aG} (hX : isM g) (hl : l.stackTraces = false) (q : aS) (P : Int32 → aS → Prop) (h : w_X10_behind q P) : aMi l g yX10_behind (aWs yX10_behind cX10_behind 2 (some .int)) 3 0 0 [.ref (gAd g 0)] q P (fun _ _ => False) := by
  refine aMi_of RX10 ⟨by decide +kernel, rfl⟩ (cat_all rfl) (Nat.le_of_ble_eq_true rfl) hl hX.cl (fun f hR hC hE => ?_)
  show AW f g 0 [some (.ref (gAd g 0)), none] [] q 0 0
  unfold w_X10_behind at h
  refine a_aload_n (pc := 0) hC dX10_behind_0 rfl ?_
  refine a_bipush (pc := 1) hC dX10_behind_1 (v := 32) rfl ?_
  refine a_bipush (pc := 3) hC dX10_behind_3 (v := 32) rfl ?_
  refine a_callV (pc := 5) hC hR vm_X10_reads tw_1933 cl_X10 (oM_0 hX) ⟨(Nat.le_of_ble_eq_true rfl), (Nat.le_of_ble_eq_true rfl), (Nat.le_of_ble_eq_true rfl), (Nat.le_of_ble_eq_true rfl)⟩ dX10_behind_5 (t_X10_reads hX hC.tr _ _ _ _ h) rfl rfl rfl (Nat.le_of_ble_eq_true rfl) (fun r1 q2 h => ?_)
  refine a_istore_n (pc := 8) hC dX10_behind_8 (Nat.le_of_ble_eq_true rfl) ?_
  refine a_aload_n (pc := 9) hC dX10_behind_9 rfl ?_
  refine a_callV (pc := 10) hC hR vm_X10_digit tw_1929 cl_X10 (oM_0 hX) ⟨(Nat.le_of_ble_eq_true rfl), (Nat.le_of_ble_eq_true rfl), (Nat.le_of_ble_eq_true rfl), (Nat.le_of_ble_eq_true rfl)⟩ dX10_behind_10 (t_X10_digit hX hC.tr _ _ h) rfl rfl rfl (Nat.le_of_ble_eq_true rfl) (fun r3 q4 h => ?_)
  exact a_iret (pc := 13) hC hE h (Nat.le_of_ble_eq_true rfl) (Nat.le_of_ble_eq_true rfl) dX10_behind_13
set_option maxRecDepth 20000 in
theorem t_X10_startOf {l : Launch} {g : aG} (hX : isM g) (hl : l.stackTraces = false) (x1 : Int32) (q : aS) (P : Int32 → aS → Prop) (h : w_X10_startOf x1 q P) : aMi l g yX10_startOf (aWs yX10_startOf cX10_startOf 1 (some .int)) 0 0 0 [.int x1] q P (fun _ _ => False) := by
  refine aMi_of RX10 ⟨by decide +kernel, rfl⟩ (cat_all rfl) (Nat.le_of_ble_eq_true rfl) hl hX.cl (fun f hR hC hE => ?_)
  show AW f g 0 [some (.int x1)] [] q 0 0
  unfold w_X10_startOf at h
  refine a_iload_n (pc := 0) hC dX10_startOf_0 rfl ?_
  refine tab_or (fun c0 => ?_) (fun c0 => ?_) h
  · intro h
    refine a_tabIn (pc := 1) (tgt := 56) hC dX10_startOf_1 (by rw [c0]; decide) (by rw [c0]; decide) (by rw [c0]; rfl) (by decide) ?_
    refine a_iconst (pc := 56) hC dX10_startOf_56 (v := 0) rfl ?_
    exact a_iret (pc := 57) hC hE h (Nat.le_of_ble_eq_true rfl) (Nat.le_of_ble_eq_true rfl) dX10_startOf_57
  intro h
  refine tab_or (fun c1 => ?_) (fun c1 => ?_) h
  · intro h
    refine a_tabIn (pc := 1) (tgt := 58) hC dX10_startOf_1 (by rw [c1]; decide) (by rw [c1]; decide) (by rw [c1]; rfl) (by decide) ?_
    refine a_iconst (pc := 58) hC dX10_startOf_58 (v := 5) rfl ?_
    exact a_iret (pc := 59) hC hE h (Nat.le_of_ble_eq_true rfl) (Nat.le_of_ble_eq_true rfl) dX10_startOf_59
  intro h
  refine tab_or (fun c2 => ?_) (fun c2 => ?_) h
  · intro h
    refine a_tabIn (pc := 1) (tgt := 60) hC dX10_startOf_1 (by rw [c2]; decide) (by rw [c2]; decide) (by rw [c2]; rfl) (by decide) ?_
    refine a_bipush (pc := 60) hC dX10_startOf_60 (v := 10) rfl ?_
    exact a_iret (pc := 62) hC hE h (Nat.le_of_ble_eq_true rfl) (Nat.le_of_ble_eq_true rfl) dX10_startOf_62
  intro h
  refine tab_or (fun c3 => ?_) (fun c3 => ?_) h
  · intro h
    refine a_tabIn (pc := 1) (tgt := 63) hC dX10_startOf_1 (by rw [c3]; decide) (by rw [c3]; decide) (by rw [c3]; rfl) (by decide) ?_
    refine a_bipush (pc := 63) hC dX10_startOf_63 (v := 17) rfl ?_
    exact a_iret (pc := 65) hC hE h (Nat.le_of_ble_eq_true rfl) (Nat.le_of_ble_eq_true rfl) dX10_startOf_65
  intro h
  refine tab_or (fun c4 => ?_) (fun c4 => ?_) h
  · intro h
    refine a_tabIn (pc := 1) (tgt := 66) hC dX10_startOf_1 (by rw [c4]; decide) (by rw [c4]; decide) (by rw [c4]; rfl) (by decide) ?_
    refine a_bipush (pc := 66) hC dX10_startOf_66 (v := 23) rfl ?_
    exact a_iret (pc := 68) hC hE h (Nat.le_of_ble_eq_true rfl) (Nat.le_of_ble_eq_true rfl) dX10_startOf_68
  intro h
  refine tab_or (fun c5 => ?_) (fun c5 => ?_) h
  · intro h
    refine a_tabIn (pc := 1) (tgt := 69) hC dX10_startOf_1 (by rw [c5]; decide) (by rw [c5]; decide) (by rw [c5]; rfl) (by decide) ?_
    refine a_bipush (pc := 69) hC dX10_startOf_69 (v := 27) rfl ?_
    exact a_iret (pc := 71) hC hE h (Nat.le_of_ble_eq_true rfl) (Nat.le_of_ble_eq_true rfl) dX10_startOf_71
  intro h
  refine tab_or (fun c6 => ?_) (fun c6 => ?_) h
  · intro h
    refine a_tabIn (pc := 1) (tgt := 72) hC dX10_startOf_1 (by rw [c6]; decide) (by rw [c6]; decide) (by rw [c6]; rfl) (by decide) ?_
    refine a_bipush (pc := 72) hC dX10_startOf_72 (v := 33) rfl ?_
    exact a_iret (pc := 74) hC hE h (Nat.le_of_ble_eq_true rfl) (Nat.le_of_ble_eq_true rfl) dX10_startOf_74
  intro h
  refine tab_or (fun c7 => ?_) (fun c7 => ?_) h
  · intro h
    refine a_tabIn (pc := 1) (tgt := 75) hC dX10_startOf_1 (by rw [c7]; decide) (by rw [c7]; decide) (by rw [c7]; rfl) (by decide) ?_
    refine a_bipush (pc := 75) hC dX10_startOf_75 (v := 38) rfl ?_
    exact a_iret (pc := 77) hC hE h (Nat.le_of_ble_eq_true rfl) (Nat.le_of_ble_eq_true rfl) dX10_startOf_77
  intro h
  refine tab_or (fun c8 => ?_) (fun c8 => ?_) h
  · intro h
    refine a_tabIn (pc := 1) (tgt := 78) hC dX10_startOf_1 (by rw [c8]; decide) (by rw [c8]; decide) (by rw [c8]; rfl) (by decide) ?_
    refine a_bipush (pc := 78) hC dX10_startOf_78 (v := 43) rfl ?_
    exact a_iret (pc := 80) hC hE h (Nat.le_of_ble_eq_true rfl) (Nat.le_of_ble_eq_true rfl) dX10_startOf_80
  intro h
  refine tab_or (fun c9 => ?_) (fun c9 => ?_) h
  · intro h
    refine a_tabIn (pc := 1) (tgt := 81) hC dX10_startOf_1 (by rw [c9]; decide) (by rw [c9]; decide) (by rw [c9]; rfl) (by decide) ?_
    refine a_bipush (pc := 81) hC dX10_startOf_81 (v := 48) rfl ?_
    exact a_iret (pc := 83) hC hE h (Nat.le_of_ble_eq_true rfl) (Nat.le_of_ble_eq_true rfl) dX10_startOf_83
  intro h
  refine a_tabOut (pc := 1) (tgt := 84) hC dX10_startOf_1 (by have e0 := tab_ne (z := 0) rfl c0; have e1 := tab_ne (z := 1) rfl c1; have e2 := tab_ne (z := 2) rfl c2; have e3 := tab_ne (z := 3) rfl c3; have e4 := tab_ne (z := 4) rfl c4; have e5 := tab_ne (z := 5) rfl c5; have e6 := tab_ne (z := 6) rfl c6; have e7 := tab_ne (z := 7) rfl c7; have e8 := tab_ne (z := 8) rfl c8; have e9 := tab_ne (z := 9) rfl c9; omega) (by decide) ?_
  refine a_bipush (pc := 84) hC dX10_startOf_84 (v := 53) rfl ?_
  exact a_iret (pc := 86) hC hE h (Nat.le_of_ble_eq_true rfl) (Nat.le_of_ble_eq_true rfl) dX10_startOf_86
