/-! the law: how a council is laid, and any deed -/
theorem dL_lay_0 : decode cL_lay 0 = .ok (.iconst 0, 1) := by decide +kernel
theorem dL_lay_1 : decode cL_lay 1 = .ok (.istore_n 2, 1) := by decide +kernel
theorem dL_lay_2 : decode cL_lay 2 = .ok (.iconst 0, 1) := by decide +kernel
theorem dL_lay_3 : decode cL_lay 3 = .ok (.istore_n 3, 1) := by decide +kernel
theorem dL_lay_4 : decode cL_lay 4 = .ok (.iload_n 3, 1) := by decide +kernel
theorem dL_lay_5 : decode cL_lay 5 = .ok (.aload_n 1, 1) := by decide +kernel
theorem dL_lay_6 : decode cL_lay 6 = .ok (.iconst 0, 1) := by decide +kernel
theorem dL_lay_7 : decode cL_lay 7 = .ok (.bipush 7, 2) := by decide +kernel
theorem dL_lay_9 : decode cL_lay 9 = .ok (.invokestatic 120, 3) := by decide +kernel
theorem dL_lay_12 : decode cL_lay 12 = .ok (.if_icmp .ge 30, 3) := by decide +kernel
theorem dL_lay_15 : decode cL_lay 15 = .ok (.iload_n 2, 1) := by decide +kernel
theorem dL_lay_16 : decode cL_lay 16 = .ok (.aload_n 0, 1) := by decide +kernel
theorem dL_lay_17 : decode cL_lay 17 = .ok (.iconst 0, 1) := by decide +kernel
theorem dL_lay_18 : decode cL_lay 18 = .ok (.iconst 1, 1) := by decide +kernel
theorem dL_lay_19 : decode cL_lay 19 = .ok (.aload_n 1, 1) := by decide +kernel
theorem dL_lay_20 : decode cL_lay 20 = .ok (.iconst 1, 1) := by decide +kernel
theorem dL_lay_21 : decode cL_lay 21 = .ok (.iload_n 3, 1) := by decide +kernel
theorem dL_lay_22 : decode cL_lay 22 = .ok (.iadd, 1) := by decide +kernel
theorem dL_lay_23 : decode cL_lay 23 = .ok (.bipush 9, 2) := by decide +kernel
theorem dL_lay_25 : decode cL_lay 25 = .ok (.invokestatic 120, 3) := by decide +kernel
theorem dL_lay_28 : decode cL_lay 28 = .ok (.iadd, 1) := by decide +kernel
theorem dL_lay_29 : decode cL_lay 29 = .ok (.iconst 0, 1) := by decide +kernel
theorem dL_lay_30 : decode cL_lay 30 = .ok (.iconst 0, 1) := by decide +kernel
theorem dL_lay_31 : decode cL_lay 31 = .ok (.invokestatic 124, 3) := by decide +kernel
theorem dL_lay_34 : decode cL_lay 34 = .ok (.iadd, 1) := by decide +kernel
theorem dL_lay_35 : decode cL_lay 35 = .ok (.istore_n 2, 1) := by decide +kernel
theorem dL_lay_36 : decode cL_lay 36 = .ok (.iinc 3 1, 3) := by decide +kernel
theorem dL_lay_39 : decode cL_lay 39 = .ok (.goto (-35), 3) := by decide +kernel
theorem dL_lay_42 : decode cL_lay 42 = .ok (.iconst 0, 1) := by decide +kernel
theorem dL_lay_43 : decode cL_lay 43 = .ok (.istore_n 3, 1) := by decide +kernel
theorem dL_lay_44 : decode cL_lay 44 = .ok (.iload_n 3, 1) := by decide +kernel
theorem dL_lay_45 : decode cL_lay 45 = .ok (.aload_n 1, 1) := by decide +kernel
theorem dL_lay_46 : decode cL_lay 46 = .ok (.bipush 10, 2) := by decide +kernel
theorem dL_lay_48 : decode cL_lay 48 = .ok (.bipush 9, 2) := by decide +kernel
theorem dL_lay_50 : decode cL_lay 50 = .ok (.invokestatic 120, 3) := by decide +kernel
theorem dL_lay_53 : decode cL_lay 53 = .ok (.if_icmp .ge 39, 3) := by decide +kernel
theorem dL_lay_56 : decode cL_lay 56 = .ok (.iload_n 2, 1) := by decide +kernel
theorem dL_lay_57 : decode cL_lay 57 = .ok (.aload_n 0, 1) := by decide +kernel
theorem dL_lay_58 : decode cL_lay 58 = .ok (.iconst 1, 1) := by decide +kernel
theorem dL_lay_59 : decode cL_lay 59 = .ok (.aload_n 1, 1) := by decide +kernel
theorem dL_lay_60 : decode cL_lay 60 = .ok (.bipush 11, 2) := by decide +kernel
theorem dL_lay_62 : decode cL_lay 62 = .ok (.iload_n 3, 1) := by decide +kernel
theorem dL_lay_63 : decode cL_lay 63 = .ok (.iadd, 1) := by decide +kernel
theorem dL_lay_64 : decode cL_lay 64 = .ok (.iconst 3, 1) := by decide +kernel
theorem dL_lay_65 : decode cL_lay 65 = .ok (.invokestatic 120, 3) := by decide +kernel
theorem dL_lay_68 : decode cL_lay 68 = .ok (.iconst 1, 1) := by decide +kernel
theorem dL_lay_69 : decode cL_lay 69 = .ok (.aload_n 1, 1) := by decide +kernel
theorem dL_lay_70 : decode cL_lay 70 = .ok (.bipush 21, 2) := by decide +kernel
theorem dL_lay_72 : decode cL_lay 72 = .ok (.iload_n 3, 1) := by decide +kernel
theorem dL_lay_73 : decode cL_lay 73 = .ok (.iadd, 1) := by decide +kernel
theorem dL_lay_74 : decode cL_lay 74 = .ok (.bipush 9, 2) := by decide +kernel
theorem dL_lay_76 : decode cL_lay 76 = .ok (.invokestatic 120, 3) := by decide +kernel
theorem dL_lay_79 : decode cL_lay 79 = .ok (.iadd, 1) := by decide +kernel
theorem dL_lay_80 : decode cL_lay 80 = .ok (.iconst 0, 1) := by decide +kernel
theorem dL_lay_81 : decode cL_lay 81 = .ok (.invokestatic 124, 3) := by decide +kernel
theorem dL_lay_84 : decode cL_lay 84 = .ok (.iadd, 1) := by decide +kernel
theorem dL_lay_85 : decode cL_lay 85 = .ok (.istore_n 2, 1) := by decide +kernel
theorem dL_lay_86 : decode cL_lay 86 = .ok (.iinc 3 1, 3) := by decide +kernel
theorem dL_lay_89 : decode cL_lay 89 = .ok (.goto (-45), 3) := by decide +kernel
theorem dL_lay_92 : decode cL_lay 92 = .ok (.iconst 0, 1) := by decide +kernel
theorem dL_lay_93 : decode cL_lay 93 = .ok (.istore_n 3, 1) := by decide +kernel
theorem dL_lay_94 : decode cL_lay 94 = .ok (.iload_n 3, 1) := by decide +kernel
theorem dL_lay_95 : decode cL_lay 95 = .ok (.aload_n 1, 1) := by decide +kernel
theorem dL_lay_96 : decode cL_lay 96 = .ok (.bipush 30, 2) := by decide +kernel
theorem dL_lay_98 : decode cL_lay 98 = .ok (.bipush 7, 2) := by decide +kernel
theorem dL_lay_100 : decode cL_lay 100 = .ok (.invokestatic 120, 3) := by decide +kernel
theorem dL_lay_103 : decode cL_lay 103 = .ok (.if_icmp .ge 73, 3) := by decide +kernel
theorem dL_lay_106 : decode cL_lay 106 = .ok (.iload_n 2, 1) := by decide +kernel
theorem dL_lay_107 : decode cL_lay 107 = .ok (.aload_n 0, 1) := by decide +kernel
theorem dL_lay_108 : decode cL_lay 108 = .ok (.iconst 2, 1) := by decide +kernel
theorem dL_lay_109 : decode cL_lay 109 = .ok (.aload_n 1, 1) := by decide +kernel
theorem dL_lay_110 : decode cL_lay 110 = .ok (.bipush 31, 2) := by decide +kernel
theorem dL_lay_112 : decode cL_lay 112 = .ok (.iload_n 3, 1) := by decide +kernel
theorem dL_lay_113 : decode cL_lay 113 = .ok (.iadd, 1) := by decide +kernel
theorem dL_lay_114 : decode cL_lay 114 = .ok (.aload_n 1, 1) := by decide +kernel
theorem dL_lay_115 : decode cL_lay 115 = .ok (.bipush 41, 2) := by decide +kernel
theorem dL_lay_117 : decode cL_lay 117 = .ok (.iload_n 3, 1) := by decide +kernel
theorem dL_lay_118 : decode cL_lay 118 = .ok (.iadd, 1) := by decide +kernel
theorem dL_lay_119 : decode cL_lay 119 = .ok (.iconst 2, 1) := by decide +kernel
theorem dL_lay_120 : decode cL_lay 120 = .ok (.invokestatic 120, 3) := by decide +kernel
theorem dL_lay_123 : decode cL_lay 123 = .ok (.ifCond .ne 8, 3) := by decide +kernel
theorem dL_lay_126 : decode cL_lay 126 = .ok (.bipush 10, 2) := by decide +kernel
theorem dL_lay_128 : decode cL_lay 128 = .ok (.goto 4, 3) := by decide +kernel
theorem dL_lay_131 : decode cL_lay 131 = .ok (.iconst 5, 1) := by decide +kernel
theorem dL_lay_132 : decode cL_lay 132 = .ok (.invokestatic 120, 3) := by decide +kernel
theorem dL_lay_135 : decode cL_lay 135 = .ok (.aload_n 1, 1) := by decide +kernel
theorem dL_lay_136 : decode cL_lay 136 = .ok (.bipush 51, 2) := by decide +kernel
theorem dL_lay_138 : decode cL_lay 138 = .ok (.iload_n 3, 1) := by decide +kernel
theorem dL_lay_139 : decode cL_lay 139 = .ok (.iadd, 1) := by decide +kernel
theorem dL_lay_140 : decode cL_lay 140 = .ok (.bipush 100, 2) := by decide +kernel
theorem dL_lay_142 : decode cL_lay 142 = .ok (.invokestatic 120, 3) := by decide +kernel
theorem dL_lay_145 : decode cL_lay 145 = .ok (.iconst 0, 1) := by decide +kernel
theorem dL_lay_146 : decode cL_lay 146 = .ok (.invokestatic 124, 3) := by decide +kernel
theorem dL_lay_149 : decode cL_lay 149 = .ok (.iadd, 1) := by decide +kernel
theorem dL_lay_150 : decode cL_lay 150 = .ok (.istore_n 2, 1) := by decide +kernel
theorem dL_lay_151 : decode cL_lay 151 = .ok (.iload_n 2, 1) := by decide +kernel
theorem dL_lay_152 : decode cL_lay 152 = .ok (.aload_n 0, 1) := by decide +kernel
theorem dL_lay_153 : decode cL_lay 153 = .ok (.iconst 3, 1) := by decide +kernel
theorem dL_lay_154 : decode cL_lay 154 = .ok (.iload_n 3, 1) := by decide +kernel
theorem dL_lay_155 : decode cL_lay 155 = .ok (.aload_n 1, 1) := by decide +kernel
theorem dL_lay_156 : decode cL_lay 156 = .ok (.bipush 61, 2) := by decide +kernel
theorem dL_lay_158 : decode cL_lay 158 = .ok (.iload_n 3, 1) := by decide +kernel
theorem dL_lay_159 : decode cL_lay 159 = .ok (.iadd, 1) := by decide +kernel
theorem dL_lay_160 : decode cL_lay 160 = .ok (.iconst 3, 1) := by decide +kernel
theorem dL_lay_161 : decode cL_lay 161 = .ok (.invokestatic 120, 3) := by decide +kernel
theorem dL_lay_164 : decode cL_lay 164 = .ok (.iconst 0, 1) := by decide +kernel
theorem dL_lay_165 : decode cL_lay 165 = .ok (.invokestatic 124, 3) := by decide +kernel
theorem dL_lay_168 : decode cL_lay 168 = .ok (.iadd, 1) := by decide +kernel
theorem dL_lay_169 : decode cL_lay 169 = .ok (.istore_n 2, 1) := by decide +kernel
theorem dL_lay_170 : decode cL_lay 170 = .ok (.iinc 3 1, 3) := by decide +kernel
theorem dL_lay_173 : decode cL_lay 173 = .ok (.goto (-79), 3) := by decide +kernel
theorem dL_lay_176 : decode cL_lay 176 = .ok (.iconst 0, 1) := by decide +kernel
theorem dL_lay_177 : decode cL_lay 177 = .ok (.istore_n 3, 1) := by decide +kernel
theorem dL_lay_178 : decode cL_lay 178 = .ok (.iload_n 3, 1) := by decide +kernel
theorem dL_lay_179 : decode cL_lay 179 = .ok (.aload_n 1, 1) := by decide +kernel
theorem dL_lay_180 : decode cL_lay 180 = .ok (.bipush 70, 2) := by decide +kernel
theorem dL_lay_182 : decode cL_lay 182 = .ok (.bipush 12, 2) := by decide +kernel
theorem dL_lay_184 : decode cL_lay 184 = .ok (.invokestatic 120, 3) := by decide +kernel
theorem dL_lay_187 : decode cL_lay 187 = .ok (.if_icmp .ge 50, 3) := by decide +kernel
theorem dL_lay_190 : decode cL_lay 190 = .ok (.iload_n 2, 1) := by decide +kernel
theorem dL_lay_191 : decode cL_lay 191 = .ok (.aload_n 0, 1) := by decide +kernel
theorem dL_lay_192 : decode cL_lay 192 = .ok (.bipush 6, 2) := by decide +kernel
theorem dL_lay_194 : decode cL_lay 194 = .ok (.aload_n 1, 1) := by decide +kernel
theorem dL_lay_195 : decode cL_lay 195 = .ok (.bipush 71, 2) := by decide +kernel
theorem dL_lay_197 : decode cL_lay 197 = .ok (.iload_n 3, 1) := by decide +kernel
theorem dL_lay_198 : decode cL_lay 198 = .ok (.iadd, 1) := by decide +kernel
theorem dL_lay_199 : decode cL_lay 199 = .ok (.bipush 6, 2) := by decide +kernel
theorem dL_lay_201 : decode cL_lay 201 = .ok (.invokestatic 120, 3) := by decide +kernel
theorem dL_lay_204 : decode cL_lay 204 = .ok (.aload_n 1, 1) := by decide +kernel
theorem dL_lay_205 : decode cL_lay 205 = .ok (.bipush 91, 2) := by decide +kernel
theorem dL_lay_207 : decode cL_lay 207 = .ok (.iload_n 3, 1) := by decide +kernel
theorem dL_lay_208 : decode cL_lay 208 = .ok (.iadd, 1) := by decide +kernel
theorem dL_lay_209 : decode cL_lay 209 = .ok (.bipush 8, 2) := by decide +kernel
theorem dL_lay_211 : decode cL_lay 211 = .ok (.invokestatic 120, 3) := by decide +kernel
theorem dL_lay_214 : decode cL_lay 214 = .ok (.iconst 1, 1) := by decide +kernel
theorem dL_lay_215 : decode cL_lay 215 = .ok (.aload_n 1, 1) := by decide +kernel
theorem dL_lay_216 : decode cL_lay 216 = .ok (.bipush 111, 2) := by decide +kernel
theorem dL_lay_218 : decode cL_lay 218 = .ok (.iload_n 3, 1) := by decide +kernel
theorem dL_lay_219 : decode cL_lay 219 = .ok (.iadd, 1) := by decide +kernel
theorem dL_lay_220 : decode cL_lay 220 = .ok (.bipush 9, 2) := by decide +kernel
theorem dL_lay_222 : decode cL_lay 222 = .ok (.invokestatic 120, 3) := by decide +kernel
theorem dL_lay_225 : decode cL_lay 225 = .ok (.iadd, 1) := by decide +kernel
theorem dL_lay_226 : decode cL_lay 226 = .ok (.invokestatic 124, 3) := by decide +kernel
theorem dL_lay_229 : decode cL_lay 229 = .ok (.iadd, 1) := by decide +kernel
theorem dL_lay_230 : decode cL_lay 230 = .ok (.istore_n 2, 1) := by decide +kernel
theorem dL_lay_231 : decode cL_lay 231 = .ok (.iinc 3 1, 3) := by decide +kernel
theorem dL_lay_234 : decode cL_lay 234 = .ok (.goto (-56), 3) := by decide +kernel
theorem dL_lay_237 : decode cL_lay 237 = .ok (.return_, 1) := by decide +kernel
theorem sm_L_lay : aSm yL_lay cL_lay 4 none 2 := ⟨tw_663, tw_662, tw_0, by decide +kernel, by decide +kernel, by decide +kernel⟩
theorem dL_any_0 : decode cL_any 0 = .ok (.iconst 1, 1) := by decide +kernel
theorem dL_any_1 : decode cL_any 1 = .ok (.aload_n 0, 1) := by decide +kernel
theorem dL_any_2 : decode cL_any 2 = .ok (.iconst 2, 1) := by decide +kernel
theorem dL_any_3 : decode cL_any 3 = .ok (.invokevirtual 127, 3) := by decide +kernel
theorem dL_any_6 : decode cL_any 6 = .ok (.invokestatic 130, 3) := by decide +kernel
theorem dL_any_9 : decode cL_any 9 = .ok (.istore_n 3, 1) := by decide +kernel
theorem dL_any_10 : decode cL_any 10 = .ok (.iconst 1, 1) := by decide +kernel
theorem dL_any_11 : decode cL_any 11 = .ok (.aload_n 0, 1) := by decide +kernel
theorem dL_any_12 : decode cL_any 12 = .ok (.iconst 1, 1) := by decide +kernel
theorem dL_any_13 : decode cL_any 13 = .ok (.invokevirtual 127, 3) := by decide +kernel
theorem dL_any_16 : decode cL_any 16 = .ok (.invokestatic 130, 3) := by decide +kernel
theorem dL_any_19 : decode cL_any 19 = .ok (.istore 4, 2) := by decide +kernel
theorem dL_any_21 : decode cL_any 21 = .ok (.iconst 1, 1) := by decide +kernel
theorem dL_any_22 : decode cL_any 22 = .ok (.aload_n 0, 1) := by decide +kernel
theorem dL_any_23 : decode cL_any 23 = .ok (.iconst 0, 1) := by decide +kernel
theorem dL_any_24 : decode cL_any 24 = .ok (.invokevirtual 127, 3) := by decide +kernel
theorem dL_any_27 : decode cL_any 27 = .ok (.invokestatic 130, 3) := by decide +kernel
theorem dL_any_30 : decode cL_any 30 = .ok (.istore 5, 2) := by decide +kernel
theorem dL_any_32 : decode cL_any 32 = .ok (.aload_n 1, 1) := by decide +kernel
theorem dL_any_33 : decode cL_any 33 = .ok (.iload_n 2, 1) := by decide +kernel
theorem dL_any_34 : decode cL_any 34 = .ok (.bipush 24, 2) := by decide +kernel
theorem dL_any_36 : decode cL_any 36 = .ok (.invokestatic 120, 3) := by decide +kernel
theorem dL_any_39 : decode cL_any 39 = .ok (.tableswitch 288 0 16 #[81, 100, 127, 152, 152, 152, 178, 194, 194, 219, 219, 219, 219, 219, 253, 278, 278], 81) := by decide +kernel
theorem dL_any_120 : decode cL_any 120 = .ok (.aload_n 0, 1) := by decide +kernel
theorem dL_any_121 : decode cL_any 121 = .ok (.iconst 0, 1) := by decide +kernel
theorem dL_any_122 : decode cL_any 122 = .ok (.iconst 1, 1) := by decide +kernel
theorem dL_any_123 : decode cL_any 123 = .ok (.aload_n 1, 1) := by decide +kernel
theorem dL_any_124 : decode cL_any 124 = .ok (.iload_n 2, 1) := by decide +kernel
theorem dL_any_125 : decode cL_any 125 = .ok (.iconst 1, 1) := by decide +kernel
theorem dL_any_126 : decode cL_any 126 = .ok (.iadd, 1) := by decide +kernel
theorem dL_any_127 : decode cL_any 127 = .ok (.bipush 9, 2) := by decide +kernel
theorem dL_any_129 : decode cL_any 129 = .ok (.invokestatic 120, 3) := by decide +kernel
theorem dL_any_132 : decode cL_any 132 = .ok (.iadd, 1) := by decide +kernel
theorem dL_any_133 : decode cL_any 133 = .ok (.iconst 0, 1) := by decide +kernel
theorem dL_any_134 : decode cL_any 134 = .ok (.iconst 0, 1) := by decide +kernel
theorem dL_any_135 : decode cL_any 135 = .ok (.invokestatic 124, 3) := by decide +kernel
theorem dL_any_138 : decode cL_any 138 = .ok (.ireturn, 1) := by decide +kernel
theorem dL_any_139 : decode cL_any 139 = .ok (.aload_n 0, 1) := by decide +kernel
theorem dL_any_140 : decode cL_any 140 = .ok (.iconst 1, 1) := by decide +kernel
theorem dL_any_141 : decode cL_any 141 = .ok (.aload_n 1, 1) := by decide +kernel
theorem dL_any_142 : decode cL_any 142 = .ok (.iload_n 2, 1) := by decide +kernel
theorem dL_any_143 : decode cL_any 143 = .ok (.iconst 1, 1) := by decide +kernel
theorem dL_any_144 : decode cL_any 144 = .ok (.iadd, 1) := by decide +kernel
theorem dL_any_145 : decode cL_any 145 = .ok (.iload 5, 2) := by decide +kernel
theorem dL_any_147 : decode cL_any 147 = .ok (.invokestatic 120, 3) := by decide +kernel
theorem dL_any_150 : decode cL_any 150 = .ok (.iconst 1, 1) := by decide +kernel
theorem dL_any_151 : decode cL_any 151 = .ok (.aload_n 1, 1) := by decide +kernel
theorem dL_any_152 : decode cL_any 152 = .ok (.iload_n 2, 1) := by decide +kernel
theorem dL_any_153 : decode cL_any 153 = .ok (.iconst 2, 1) := by decide +kernel
theorem dL_any_154 : decode cL_any 154 = .ok (.iadd, 1) := by decide +kernel
theorem dL_any_155 : decode cL_any 155 = .ok (.bipush 9, 2) := by decide +kernel
theorem dL_any_157 : decode cL_any 157 = .ok (.invokestatic 120, 3) := by decide +kernel
theorem dL_any_160 : decode cL_any 160 = .ok (.iadd, 1) := by decide +kernel
theorem dL_any_161 : decode cL_any 161 = .ok (.iconst 0, 1) := by decide +kernel
theorem dL_any_162 : decode cL_any 162 = .ok (.invokestatic 124, 3) := by decide +kernel
theorem dL_any_165 : decode cL_any 165 = .ok (.ireturn, 1) := by decide +kernel
theorem dL_any_166 : decode cL_any 166 = .ok (.aload_n 0, 1) := by decide +kernel
theorem dL_any_167 : decode cL_any 167 = .ok (.iconst 2, 1) := by decide +kernel
theorem dL_any_168 : decode cL_any 168 = .ok (.aload_n 1, 1) := by decide +kernel
theorem dL_any_169 : decode cL_any 169 = .ok (.iload_n 2, 1) := by decide +kernel
theorem dL_any_170 : decode cL_any 170 = .ok (.iconst 1, 1) := by decide +kernel
theorem dL_any_171 : decode cL_any 171 = .ok (.iadd, 1) := by decide +kernel
theorem dL_any_172 : decode cL_any 172 = .ok (.bipush 10, 2) := by decide +kernel
theorem dL_any_174 : decode cL_any 174 = .ok (.invokestatic 120, 3) := by decide +kernel
theorem dL_any_177 : decode cL_any 177 = .ok (.aload_n 1, 1) := by decide +kernel
theorem dL_any_178 : decode cL_any 178 = .ok (.iload_n 2, 1) := by decide +kernel
theorem dL_any_179 : decode cL_any 179 = .ok (.iconst 2, 1) := by decide +kernel
theorem dL_any_180 : decode cL_any 180 = .ok (.iadd, 1) := by decide +kernel
theorem dL_any_181 : decode cL_any 181 = .ok (.bipush 100, 2) := by decide +kernel
theorem dL_any_183 : decode cL_any 183 = .ok (.invokestatic 120, 3) := by decide +kernel
theorem dL_any_186 : decode cL_any 186 = .ok (.iconst 0, 1) := by decide +kernel
theorem dL_any_187 : decode cL_any 187 = .ok (.invokestatic 124, 3) := by decide +kernel
theorem dL_any_190 : decode cL_any 190 = .ok (.ireturn, 1) := by decide +kernel
theorem dL_any_191 : decode cL_any 191 = .ok (.aload_n 0, 1) := by decide +kernel
theorem dL_any_192 : decode cL_any 192 = .ok (.iconst 3, 1) := by decide +kernel
theorem dL_any_193 : decode cL_any 193 = .ok (.aload_n 1, 1) := by decide +kernel
theorem dL_any_194 : decode cL_any 194 = .ok (.iload_n 2, 1) := by decide +kernel
theorem dL_any_195 : decode cL_any 195 = .ok (.iconst 1, 1) := by decide +kernel
theorem dL_any_196 : decode cL_any 196 = .ok (.iadd, 1) := by decide +kernel
theorem dL_any_197 : decode cL_any 197 = .ok (.iload_n 3, 1) := by decide +kernel
theorem dL_any_198 : decode cL_any 198 = .ok (.invokestatic 120, 3) := by decide +kernel
theorem dL_any_201 : decode cL_any 201 = .ok (.aload_n 1, 1) := by decide +kernel
theorem dL_any_202 : decode cL_any 202 = .ok (.iload_n 2, 1) := by decide +kernel
theorem dL_any_203 : decode cL_any 203 = .ok (.iconst 2, 1) := by decide +kernel
theorem dL_any_204 : decode cL_any 204 = .ok (.iadd, 1) := by decide +kernel
theorem dL_any_205 : decode cL_any 205 = .ok (.iload 5, 2) := by decide +kernel
theorem dL_any_207 : decode cL_any 207 = .ok (.iconst 1, 1) := by decide +kernel
theorem dL_any_208 : decode cL_any 208 = .ok (.iadd, 1) := by decide +kernel
theorem dL_any_209 : decode cL_any 209 = .ok (.invokestatic 120, 3) := by decide +kernel
theorem dL_any_212 : decode cL_any 212 = .ok (.iconst 0, 1) := by decide +kernel
theorem dL_any_213 : decode cL_any 213 = .ok (.invokestatic 124, 3) := by decide +kernel
theorem dL_any_216 : decode cL_any 216 = .ok (.ireturn, 1) := by decide +kernel
theorem dL_any_217 : decode cL_any 217 = .ok (.aload_n 0, 1) := by decide +kernel
theorem dL_any_218 : decode cL_any 218 = .ok (.iconst 4, 1) := by decide +kernel
theorem dL_any_219 : decode cL_any 219 = .ok (.aload_n 1, 1) := by decide +kernel
theorem dL_any_220 : decode cL_any 220 = .ok (.iload_n 2, 1) := by decide +kernel
theorem dL_any_221 : decode cL_any 221 = .ok (.iconst 1, 1) := by decide +kernel
theorem dL_any_222 : decode cL_any 222 = .ok (.iadd, 1) := by decide +kernel
theorem dL_any_223 : decode cL_any 223 = .ok (.iload_n 3, 1) := by decide +kernel
theorem dL_any_224 : decode cL_any 224 = .ok (.invokestatic 120, 3) := by decide +kernel
theorem dL_any_227 : decode cL_any 227 = .ok (.iconst 0, 1) := by decide +kernel
theorem dL_any_228 : decode cL_any 228 = .ok (.iconst 0, 1) := by decide +kernel
theorem dL_any_229 : decode cL_any 229 = .ok (.invokestatic 124, 3) := by decide +kernel
theorem dL_any_232 : decode cL_any 232 = .ok (.ireturn, 1) := by decide +kernel
theorem dL_any_233 : decode cL_any 233 = .ok (.aload_n 0, 1) := by decide +kernel
theorem dL_any_234 : decode cL_any 234 = .ok (.iconst 5, 1) := by decide +kernel
theorem dL_any_235 : decode cL_any 235 = .ok (.aload_n 1, 1) := by decide +kernel
theorem dL_any_236 : decode cL_any 236 = .ok (.iload_n 2, 1) := by decide +kernel
theorem dL_any_237 : decode cL_any 237 = .ok (.iconst 1, 1) := by decide +kernel
theorem dL_any_238 : decode cL_any 238 = .ok (.iadd, 1) := by decide +kernel
theorem dL_any_239 : decode cL_any 239 = .ok (.iload 4, 2) := by decide +kernel
theorem dL_any_241 : decode cL_any 241 = .ok (.invokestatic 120, 3) := by decide +kernel
theorem dL_any_244 : decode cL_any 244 = .ok (.aload_n 1, 1) := by decide +kernel
theorem dL_any_245 : decode cL_any 245 = .ok (.iload_n 2, 1) := by decide +kernel
theorem dL_any_246 : decode cL_any 246 = .ok (.iconst 2, 1) := by decide +kernel
theorem dL_any_247 : decode cL_any 247 = .ok (.iadd, 1) := by decide +kernel
theorem dL_any_248 : decode cL_any 248 = .ok (.iload 5, 2) := by decide +kernel
theorem dL_any_250 : decode cL_any 250 = .ok (.invokestatic 120, 3) := by decide +kernel
theorem dL_any_253 : decode cL_any 253 = .ok (.iconst 0, 1) := by decide +kernel
theorem dL_any_254 : decode cL_any 254 = .ok (.invokestatic 124, 3) := by decide +kernel
theorem dL_any_257 : decode cL_any 257 = .ok (.ireturn, 1) := by decide +kernel
theorem dL_any_258 : decode cL_any 258 = .ok (.aload_n 0, 1) := by decide +kernel
theorem dL_any_259 : decode cL_any 259 = .ok (.bipush 6, 2) := by decide +kernel
theorem dL_any_261 : decode cL_any 261 = .ok (.aload_n 1, 1) := by decide +kernel
theorem dL_any_262 : decode cL_any 262 = .ok (.iload_n 2, 1) := by decide +kernel
theorem dL_any_263 : decode cL_any 263 = .ok (.iconst 1, 1) := by decide +kernel
theorem dL_any_264 : decode cL_any 264 = .ok (.iadd, 1) := by decide +kernel
theorem dL_any_265 : decode cL_any 265 = .ok (.iload_n 3, 1) := by decide +kernel
theorem dL_any_266 : decode cL_any 266 = .ok (.invokestatic 120, 3) := by decide +kernel
theorem dL_any_269 : decode cL_any 269 = .ok (.aload_n 1, 1) := by decide +kernel
theorem dL_any_270 : decode cL_any 270 = .ok (.iload_n 2, 1) := by decide +kernel
theorem dL_any_271 : decode cL_any 271 = .ok (.iconst 2, 1) := by decide +kernel
theorem dL_any_272 : decode cL_any 272 = .ok (.iadd, 1) := by decide +kernel
theorem dL_any_273 : decode cL_any 273 = .ok (.iload 4, 2) := by decide +kernel
theorem dL_any_275 : decode cL_any 275 = .ok (.invokestatic 120, 3) := by decide +kernel
theorem dL_any_278 : decode cL_any 278 = .ok (.iconst 1, 1) := by decide +kernel
theorem dL_any_279 : decode cL_any 279 = .ok (.aload_n 1, 1) := by decide +kernel
theorem dL_any_280 : decode cL_any 280 = .ok (.iload_n 2, 1) := by decide +kernel
theorem dL_any_281 : decode cL_any 281 = .ok (.iconst 3, 1) := by decide +kernel
theorem dL_any_282 : decode cL_any 282 = .ok (.iadd, 1) := by decide +kernel
theorem dL_any_283 : decode cL_any 283 = .ok (.iconst 4, 1) := by decide +kernel
theorem dL_any_284 : decode cL_any 284 = .ok (.invokestatic 120, 3) := by decide +kernel
theorem dL_any_287 : decode cL_any 287 = .ok (.iadd, 1) := by decide +kernel
theorem dL_any_288 : decode cL_any 288 = .ok (.invokestatic 124, 3) := by decide +kernel
theorem dL_any_291 : decode cL_any 291 = .ok (.ireturn, 1) := by decide +kernel
theorem dL_any_292 : decode cL_any 292 = .ok (.aload_n 0, 1) := by decide +kernel
theorem dL_any_293 : decode cL_any 293 = .ok (.bipush 7, 2) := by decide +kernel
theorem dL_any_295 : decode cL_any 295 = .ok (.aload_n 1, 1) := by decide +kernel
theorem dL_any_296 : decode cL_any 296 = .ok (.iload_n 2, 1) := by decide +kernel
theorem dL_any_297 : decode cL_any 297 = .ok (.iconst 1, 1) := by decide +kernel
theorem dL_any_298 : decode cL_any 298 = .ok (.iadd, 1) := by decide +kernel
theorem dL_any_299 : decode cL_any 299 = .ok (.iload_n 3, 1) := by decide +kernel
theorem dL_any_300 : decode cL_any 300 = .ok (.invokestatic 120, 3) := by decide +kernel
theorem dL_any_303 : decode cL_any 303 = .ok (.aload_n 1, 1) := by decide +kernel
theorem dL_any_304 : decode cL_any 304 = .ok (.iload_n 2, 1) := by decide +kernel
theorem dL_any_305 : decode cL_any 305 = .ok (.iconst 2, 1) := by decide +kernel
theorem dL_any_306 : decode cL_any 306 = .ok (.iadd, 1) := by decide +kernel
theorem dL_any_307 : decode cL_any 307 = .ok (.iload 4, 2) := by decide +kernel
theorem dL_any_309 : decode cL_any 309 = .ok (.invokestatic 120, 3) := by decide +kernel
theorem dL_any_312 : decode cL_any 312 = .ok (.iconst 0, 1) := by decide +kernel
theorem dL_any_313 : decode cL_any 313 = .ok (.invokestatic 124, 3) := by decide +kernel
theorem dL_any_316 : decode cL_any 316 = .ok (.ireturn, 1) := by decide +kernel
theorem dL_any_317 : decode cL_any 317 = .ok (.aload_n 0, 1) := by decide +kernel
theorem dL_any_318 : decode cL_any 318 = .ok (.bipush 9, 2) := by decide +kernel
theorem dL_any_320 : decode cL_any 320 = .ok (.iconst 0, 1) := by decide +kernel
theorem dL_any_321 : decode cL_any 321 = .ok (.iconst 0, 1) := by decide +kernel
theorem dL_any_322 : decode cL_any 322 = .ok (.iconst 0, 1) := by decide +kernel
theorem dL_any_323 : decode cL_any 323 = .ok (.invokestatic 124, 3) := by decide +kernel
theorem dL_any_326 : decode cL_any 326 = .ok (.ireturn, 1) := by decide +kernel
theorem dL_any_327 : decode cL_any 327 = .ok (.aload_n 0, 1) := by decide +kernel
theorem dL_any_328 : decode cL_any 328 = .ok (.bipush 8, 2) := by decide +kernel
theorem dL_any_330 : decode cL_any 330 = .ok (.aload_n 1, 1) := by decide +kernel
theorem dL_any_331 : decode cL_any 331 = .ok (.iload_n 2, 1) := by decide +kernel
theorem dL_any_332 : decode cL_any 332 = .ok (.iconst 1, 1) := by decide +kernel
theorem dL_any_333 : decode cL_any 333 = .ok (.iadd, 1) := by decide +kernel
theorem dL_any_334 : decode cL_any 334 = .ok (.iload_n 3, 1) := by decide +kernel
theorem dL_any_335 : decode cL_any 335 = .ok (.invokestatic 120, 3) := by decide +kernel
theorem dL_any_338 : decode cL_any 338 = .ok (.iconst 0, 1) := by decide +kernel
theorem dL_any_339 : decode cL_any 339 = .ok (.iconst 0, 1) := by decide +kernel
theorem dL_any_340 : decode cL_any 340 = .ok (.invokestatic 124, 3) := by decide +kernel
theorem dL_any_343 : decode cL_any 343 = .ok (.ireturn, 1) := by decide +kernel
theorem sm_L_any : aSm yL_any cL_any 6 (some .int) 3 := ⟨tw_1001, tw_1000, tw_0, by decide +kernel, by decide +kernel, by decide +kernel⟩
def LL_lay_4 (sa : Nat) (sn : Nat) (xs : Nat → Int32) (P : Int32 → aS → Prop) (K : Int32 → aS → Prop) : Nat → Int32 → Int32 → aS → Prop
  | 0, _, _, _ => False
  | N + 1, v2, v3, q => w_L_pick sa sn xs 0 7 q (fun r1 q2 => ((r1 ≤ v3 → K v2 q2) ∧ (¬ r1 ≤ v3 → w_L_pick sa sn xs (1 + v3) 9 q2 (fun r3 q4 => w_L_deed 0 (1 + r3) 0 0 q4 (fun r5 q6 => ∀ x7 : Int32, x7 = (v2 + r5) → ∀ x8 : Int32, x8 = v3 + 1 → (LL_lay_4 sa sn xs P K N) x7 x8 q6)))))
def LL_lay_44 (sa : Nat) (sn : Nat) (xs : Nat → Int32) (P : Int32 → aS → Prop) (K : Int32 → aS → Prop) : Nat → Int32 → Int32 → aS → Prop
  | 0, _, _, _ => False
  | N + 1, v2, v3, q => w_L_pick sa sn xs 10 9 q (fun r11 q12 => ((r11 ≤ v3 → K v2 q12) ∧ (¬ r11 ≤ v3 → w_L_pick sa sn xs (11 + v3) 3 q12 (fun r13 q14 => w_L_pick sa sn xs (21 + v3) 9 q14 (fun r15 q16 => w_L_deed 1 r13 (1 + r15) 0 q16 (fun r17 q18 => ∀ x19 : Int32, x19 = (v2 + r17) → ∀ x20 : Int32, x20 = v3 + 1 → (LL_lay_44 sa sn xs P K N) x19 x20 q18))))))
def JL_lay_132 (sa : Nat) (sn : Nat) (xs : Nat → Int32) (j3 : Int32) (s0 : Int32) (s1 : Int32) (s3 : Int32) (s5 : Int32) (P : Int32 → aS → Prop) (B : Int32 → Int32 → aS → Prop) (K : Int32 → aS → Prop) (q : aS) : Prop := w_L_pick sa sn xs s1 s0 q (fun r27 q28 => w_L_pick sa sn xs (51 + j3) 100 q28 (fun r29 q30 => w_L_deed s3 r27 r29 0 q30 (fun r31 q32 => ∀ x33 : Int32, x33 = (s5 + r31) → w_L_pick sa sn xs (61 + j3) 3 q32 (fun r34 q35 => w_L_deed 3 j3 r34 0 q35 (fun r36 q37 => ∀ x38 : Int32, x38 = (x33 + r36) → ∀ x39 : Int32, x39 = j3 + 1 → B x38 x39 q37)))))
def LL_lay_94 (sa : Nat) (sn : Nat) (xs : Nat → Int32) (P : Int32 → aS → Prop) (K : Int32 → aS → Prop) : Nat → Int32 → Int32 → aS → Prop
  | 0, _, _, _ => False
  | N + 1, v2, v3, q => w_L_pick sa sn xs 30 7 q (fun r23 q24 => ((r23 ≤ v3 → K v2 q24) ∧ (¬ r23 ≤ v3 → w_L_pick sa sn xs (41 + v3) 2 q24 (fun r25 q26 => ((¬ r25 = 0 → JL_lay_132 sa sn xs v3 5 (31 + v3) 2 v2 P (LL_lay_94 sa sn xs P K N) K q26) ∧ (r25 = 0 → JL_lay_132 sa sn xs v3 10 (31 + v3) 2 v2 P (LL_lay_94 sa sn xs P K N) K q26))))))
def LL_lay_178 (sa : Nat) (sn : Nat) (xs : Nat → Int32) (P : Int32 → aS → Prop) (K : aS → Prop) : Nat → Int32 → Int32 → aS → Prop
  | 0, _, _, _ => False
  | N + 1, v2, v3, q => w_L_pick sa sn xs 70 12 q (fun r42 q43 => ((r42 ≤ v3 → K  q43) ∧ (¬ r42 ≤ v3 → w_L_pick sa sn xs (71 + v3) 6 q43 (fun r44 q45 => w_L_pick sa sn xs (91 + v3) 8 q45 (fun r46 q47 => w_L_pick sa sn xs (111 + v3) 9 q47 (fun r48 q49 => w_L_deed 6 r44 r46 (1 + r48) q49 (fun r50 q51 => ∀ x52 : Int32, x52 = (v2 + r50) → ∀ x53 : Int32, x53 = v3 + 1 → (LL_lay_178 sa sn xs P K N) x52 x53 q51)))))))
def w_L_lay (sa : Nat) (sn : Nat) (xs : Nat → Int32) (q : aS) (P : Int32 → aS → Prop) : Prop := ∃ M58, M58 ≤ 7 ∧ LL_lay_4 sa sn xs P (fun y9 q10 => ∃ M57, M57 ≤ 9 ∧ LL_lay_44 sa sn xs P (fun y21 q22 => ∃ M56, M56 ≤ 7 ∧ LL_lay_94 sa sn xs P (fun y40 q41 => ∃ M55, M55 ≤ 12 ∧ LL_lay_178 sa sn xs P (fun q54 => P 0 q54) M55 y40 0 q41) M56 y21 0 q22) M57 y9 0 q10) M58 0 0 q
def JL_any_191 (sa : Nat) (sn : Nat) (xs : Nat → Int32) (j2 : Int32) (j3 : Int32) (j5 : Int32) (P : Int32 → aS → Prop) (q : aS) : Prop := w_L_pick sa sn xs (j2 + 1) j3 q (fun r29 q30 => w_L_pick sa sn xs (j2 + 2) (j5 + 1) q30 (fun r31 q32 => w_L_deed 3 r29 r31 0 q32 (fun r33 q34 => P r33 q34)))
def JL_any_233 (sa : Nat) (sn : Nat) (xs : Nat → Int32) (j2 : Int32) (j4 : Int32) (j5 : Int32) (P : Int32 → aS → Prop) (q : aS) : Prop := w_L_pick sa sn xs (j2 + 1) j4 q (fun r39 q40 => w_L_pick sa sn xs (j2 + 2) j5 q40 (fun r41 q42 => w_L_deed 5 r39 r41 0 q42 (fun r43 q44 => P r43 q44)))
def JL_any_258 (sa : Nat) (sn : Nat) (xs : Nat → Int32) (j2 : Int32) (j3 : Int32) (j4 : Int32) (P : Int32 → aS → Prop) (q : aS) : Prop := w_L_pick sa sn xs (j2 + 1) j3 q (fun r45 q46 => w_L_pick sa sn xs (j2 + 2) j4 q46 (fun r47 q48 => w_L_pick sa sn xs (j2 + 3) 4 q48 (fun r49 q50 => w_L_deed 6 r45 r47 (1 + r49) q50 (fun r51 q52 => P r51 q52))))
def w_L_any (sa : Nat) (sn : Nat) (xs : Nat → Int32) (x1 : Int32) (q : aS) (P : Int32 → aS → Prop) : Prop := w_X9_account0 2 q (fun r2 q3 => ∀ x4 : Int32, x4 = (if 1 < r2 then r2 else 1) → w_X9_account0 1 q3 (fun r5 q6 => ∀ x7 : Int32, x7 = (if 1 < r5 then r5 else 1) → w_X9_account0 0 q6 (fun r8 q9 => ∀ x10 : Int32, x10 = (if 1 < r8 then r8 else 1) → w_L_pick sa sn xs x1 24 q9 (fun r11 q12 => ((r11 = 0 → w_L_pick sa sn xs (x1 + 1) 9 q12 (fun r13 q14 => w_L_deed 0 (1 + r13) 0 0 q14 (fun r15 q16 => P r15 q16))) ∧ (¬ r11 = 0 → ((r11 = 1 → w_L_pick sa sn xs (x1 + 1) x10 q12 (fun r17 q18 => w_L_pick sa sn xs (x1 + 2) 9 q18 (fun r19 q20 => w_L_deed 1 r17 (1 + r19) 0 q20 (fun r21 q22 => P r21 q22)))) ∧ (¬ r11 = 1 → ((r11 = 2 → w_L_pick sa sn xs (x1 + 1) 10 q12 (fun r23 q24 => w_L_pick sa sn xs (x1 + 2) 100 q24 (fun r25 q26 => w_L_deed 2 r23 r25 0 q26 (fun r27 q28 => P r27 q28)))) ∧ (¬ r11 = 2 → ((r11 = 3 → JL_any_191 sa sn xs x1 x4 x10 P q12) ∧ (¬ r11 = 3 → ((r11 = 4 → JL_any_191 sa sn xs x1 x4 x10 P q12) ∧ (¬ r11 = 4 → ((r11 = 5 → JL_any_191 sa sn xs x1 x4 x10 P q12) ∧ (¬ r11 = 5 → ((r11 = 6 → w_L_pick sa sn xs (x1 + 1) x4 q12 (fun r35 q36 => w_L_deed 4 r35 0 0 q36 (fun r37 q38 => P r37 q38))) ∧ (¬ r11 = 6 → ((r11 = 7 → JL_any_233 sa sn xs x1 x7 x10 P q12) ∧ (¬ r11 = 7 → ((r11 = 8 → JL_any_233 sa sn xs x1 x7 x10 P q12) ∧ (¬ r11 = 8 → ((r11 = 9 → JL_any_258 sa sn xs x1 x4 x7 P q12) ∧ (¬ r11 = 9 → ((r11 = 10 → JL_any_258 sa sn xs x1 x4 x7 P q12) ∧ (¬ r11 = 10 → ((r11 = 11 → JL_any_258 sa sn xs x1 x4 x7 P q12) ∧ (¬ r11 = 11 → ((r11 = 12 → JL_any_258 sa sn xs x1 x4 x7 P q12) ∧ (¬ r11 = 12 → ((r11 = 13 → JL_any_258 sa sn xs x1 x4 x7 P q12) ∧ (¬ r11 = 13 → ((r11 = 14 → w_L_pick sa sn xs (x1 + 1) x4 q12 (fun r53 q54 => w_L_pick sa sn xs (x1 + 2) x7 q54 (fun r55 q56 => w_L_deed 7 r53 r55 0 q56 (fun r57 q58 => P r57 q58)))) ∧ (¬ r11 = 14 → ((r11 = 15 → w_L_deed 9 0 0 0 q12 (fun r59 q60 => P r59 q60)) ∧ (¬ r11 = 15 → ((r11 = 16 → w_L_deed 9 0 0 0 q12 (fun r61 q62 => P r61 q62)) ∧ (¬ r11 = 16 → w_L_pick sa sn xs (x1 + 1) x4 q12 (fun r63 q64 => w_L_deed 8 r63 0 0 q64 (fun r65 q66 => P r65 q66))))))))))))))))))))))))))))))))))))))))
set_option maxRecDepth 20000 in
theorem tLL_lay_4 {f : aF} {g : aG} (hX : isX g) (sa : Nat) (sn : Nat) (xs : Nat → Int32) (hS : isScr sa sn xs g) (hN : isNc g) (P : Int32 → aS → Prop) (hR : f_R f = aR 12 42 252) (hC : aOK f g cL_lay 4 RL) (hE : aEv f g P (fun _ _ => False) 42 252) {K : Int32 → aS → Prop} (hK : ∀ (w2 : Int32) (q : aS), K w2 q → AW f g 42 [some (.ref (gAd g 0)), some (.ref sa), some (.int w2), none] [] q 7 42) : ∀ (N : Nat) (v2 : Int32) (v3 : Int32) (q : aS), N ≤ 7 → LL_lay_4 sa sn xs P K N v2 v3 q → AW f g 4 [some (.ref (gAd g 0)), some (.ref sa), some (.int v2), some (.int v3)] [] q (0 + (7 - N) * 1) (0 + (7 - N) * 6) := by
  intro N
  induction N with
  | zero =>
    intro v2 v3 q _ h
    exact h.elim
  | succ N ih =>
    intro v2 v3 q hM9 h
    unfold LL_lay_4 at h
    obtain ⟨k1, ek1⟩ : ∃ x, x = 0 + (7 - (N + 1)) * 1 := ⟨_, rfl⟩
    obtain ⟨n1, en1⟩ : ∃ x, x = 0 + (7 - (N + 1)) * 6 := ⟨_, rfl⟩
    rw [← ek1, ← en1]
    have hk1 : k1 + 1 ≤ 42 := by omega
    have hn1 : n1 + 6 ≤ 252 := by omega
    have hB : ∀ (w2 : Int32) (w3 : Int32) (q : aS), LL_lay_4 sa sn xs P K N w2 w3 q → AW f g 4 [some (.ref (gAd g 0)), some (.ref sa), some (.int w2), some (.int w3)] [] q (k1 + 1) (n1 + 6) := fun w2 w3 q h => (ih w2 w3 q (by omega) h).widen (by omega) (by omega)
    have hK2 : ∀ (w2 : Int32) (q : aS), K w2 q → AW f g 42 [some (.ref (gAd g 0)), some (.ref sa), some (.int w2), none] [] q (k1 + 1) (n1 + 6) := fun w2 q h => (hK w2 q h).widen (by omega) (by omega)
    clear hM9 ek1 en1 ih
    refine a_iload_n (pc := 4) hC dL_lay_4 rfl ?_
    refine a_aload_n (pc := 5) hC dL_lay_5 rfl ?_
    refine a_iconst (pc := 6) hC dL_lay_6 (v := 0) rfl ?_
    refine a_bipush (pc := 7) hC dL_lay_7 (v := 7) rfl ?_
    refine a_callS (pc := 9) hC hR sm_L_pick tw_664 ⟨(Nat.le_of_ble_eq_true rfl), (Nat.le_of_ble_eq_true rfl), (by omega), (by omega)⟩ dL_lay_9 (t_L_pick hX _ _ _ hS hC.tr _ _ _ _ h) rfl rfl rfl (Nat.le_of_ble_eq_true rfl) (fun r1 q2 h => ?_)
    refine a_icmp_ge (pc := 12) (tgt := 42) hC dL_lay_12 (by decide) (fun c => ?_) (fun c => ?_)
    · replace h := h.1 c
      exact AW.widen (by omega) (by omega) ((hK2 _ _ h).forget ⟨rfl, rfl, rfl, trivial⟩)
    · replace h := h.2 c
      refine a_iload_n (pc := 15) hC dL_lay_15 rfl ?_
      refine a_aload_n (pc := 16) hC dL_lay_16 rfl ?_
      refine a_iconst (pc := 17) hC dL_lay_17 (v := 0) rfl ?_
      refine a_iconst (pc := 18) hC dL_lay_18 (v := 1) rfl ?_
      refine a_aload_n (pc := 19) hC dL_lay_19 rfl ?_
      refine a_iconst (pc := 20) hC dL_lay_20 (v := 1) rfl ?_
      refine a_iload_n (pc := 21) hC dL_lay_21 rfl ?_
      refine a_iadd (pc := 22) hC dL_lay_22 ?_
      refine a_bipush (pc := 23) hC dL_lay_23 (v := 9) rfl ?_
      refine a_callS (pc := 25) hC hR sm_L_pick tw_664 ⟨(Nat.le_of_ble_eq_true rfl), (Nat.le_of_ble_eq_true rfl), (by omega), (by omega)⟩ dL_lay_25 (t_L_pick hX _ _ _ hS hC.tr _ _ _ _ h) rfl rfl rfl (Nat.le_of_ble_eq_true rfl) (fun r3 q4 h => ?_)
      refine a_iadd (pc := 28) hC dL_lay_28 ?_
      refine a_iconst (pc := 29) hC dL_lay_29 (v := 0) rfl ?_
      refine a_iconst (pc := 30) hC dL_lay_30 (v := 0) rfl ?_
      refine a_callSh (pc := 31) hC hR sm_L_deed tw_672 ⟨(Nat.le_of_ble_eq_true rfl), (Nat.le_of_ble_eq_true rfl), (by omega), (by omega)⟩ dL_lay_31 (t_L_deed hX hN hC.tr _ _ _ _ _ _ h) rfl rfl rfl (Nat.le_of_ble_eq_true rfl) (fun r5 q6 h => ?_)
      refine a_iadd (pc := 34) hC dL_lay_34 ?_
      refine a_istore_n (pc := 35) hC dL_lay_35 (Nat.le_of_ble_eq_true rfl) ?_
      replace h := h _ rfl
      refine a_iinc (pc := 36) hC dL_lay_36 rfl (c := 1) rfl ?_
      replace h := h _ rfl
      refine a_goto (pc := 39) (tgt := 4) hC dL_lay_39 (by decide) ?_
      exact AW.widen (by omega) (by omega) ((hB _ _ _ h).forget ⟨rfl, rfl, rfl, rfl, trivial⟩)
set_option maxRecDepth 20000 in
theorem tLL_lay_44 {f : aF} {g : aG} (hX : isX g) (sa : Nat) (sn : Nat) (xs : Nat → Int32) (hS : isScr sa sn xs g) (hN : isNc g) (P : Int32 → aS → Prop) (hR : f_R f = aR 12 42 252) (hC : aOK f g cL_lay 4 RL) (hE : aEv f g P (fun _ _ => False) 42 252) {K : Int32 → aS → Prop} (hK : ∀ (w2 : Int32) (q : aS), K w2 q → AW f g 92 [some (.ref (gAd g 0)), some (.ref sa), some (.int w2), none] [] q 16 96) : ∀ (N : Nat) (v2 : Int32) (v3 : Int32) (q : aS), N ≤ 9 → LL_lay_44 sa sn xs P K N v2 v3 q → AW f g 44 [some (.ref (gAd g 0)), some (.ref sa), some (.int v2), some (.int v3)] [] q (7 + (9 - N) * 1) (42 + (9 - N) * 6) := by
  intro N
  induction N with
  | zero =>
    intro v2 v3 q _ h
    exact h.elim
  | succ N ih =>
    intro v2 v3 q hM9 h
    unfold LL_lay_44 at h
    obtain ⟨k1, ek1⟩ : ∃ x, x = 7 + (9 - (N + 1)) * 1 := ⟨_, rfl⟩
    obtain ⟨n1, en1⟩ : ∃ x, x = 42 + (9 - (N + 1)) * 6 := ⟨_, rfl⟩
    rw [← ek1, ← en1]
    have hk1 : k1 + 1 ≤ 42 := by omega
    have hn1 : n1 + 6 ≤ 252 := by omega
    have hB : ∀ (w2 : Int32) (w3 : Int32) (q : aS), LL_lay_44 sa sn xs P K N w2 w3 q → AW f g 44 [some (.ref (gAd g 0)), some (.ref sa), some (.int w2), some (.int w3)] [] q (k1 + 1) (n1 + 6) := fun w2 w3 q h => (ih w2 w3 q (by omega) h).widen (by omega) (by omega)
    have hK2 : ∀ (w2 : Int32) (q : aS), K w2 q → AW f g 92 [some (.ref (gAd g 0)), some (.ref sa), some (.int w2), none] [] q (k1 + 1) (n1 + 6) := fun w2 q h => (hK w2 q h).widen (by omega) (by omega)
    clear hM9 ek1 en1 ih
    refine a_iload_n (pc := 44) hC dL_lay_44 rfl ?_
    refine a_aload_n (pc := 45) hC dL_lay_45 rfl ?_
    refine a_bipush (pc := 46) hC dL_lay_46 (v := 10) rfl ?_
    refine a_bipush (pc := 48) hC dL_lay_48 (v := 9) rfl ?_
    refine a_callS (pc := 50) hC hR sm_L_pick tw_664 ⟨(Nat.le_of_ble_eq_true rfl), (Nat.le_of_ble_eq_true rfl), (by omega), (by omega)⟩ dL_lay_50 (t_L_pick hX _ _ _ hS hC.tr _ _ _ _ h) rfl rfl rfl (Nat.le_of_ble_eq_true rfl) (fun r11 q12 h => ?_)
    refine a_icmp_ge (pc := 53) (tgt := 92) hC dL_lay_53 (by decide) (fun c => ?_) (fun c => ?_)
    · replace h := h.1 c
      exact AW.widen (by omega) (by omega) ((hK2 _ _ h).forget ⟨rfl, rfl, rfl, trivial⟩)
    · replace h := h.2 c
      refine a_iload_n (pc := 56) hC dL_lay_56 rfl ?_
      refine a_aload_n (pc := 57) hC dL_lay_57 rfl ?_
      refine a_iconst (pc := 58) hC dL_lay_58 (v := 1) rfl ?_
      refine a_aload_n (pc := 59) hC dL_lay_59 rfl ?_
      refine a_bipush (pc := 60) hC dL_lay_60 (v := 11) rfl ?_
      refine a_iload_n (pc := 62) hC dL_lay_62 rfl ?_
      refine a_iadd (pc := 63) hC dL_lay_63 ?_
      refine a_iconst (pc := 64) hC dL_lay_64 (v := 3) rfl ?_
      refine a_callS (pc := 65) hC hR sm_L_pick tw_664 ⟨(Nat.le_of_ble_eq_true rfl), (Nat.le_of_ble_eq_true rfl), (by omega), (by omega)⟩ dL_lay_65 (t_L_pick hX _ _ _ hS hC.tr _ _ _ _ h) rfl rfl rfl (Nat.le_of_ble_eq_true rfl) (fun r13 q14 h => ?_)
      refine a_iconst (pc := 68) hC dL_lay_68 (v := 1) rfl ?_
      refine a_aload_n (pc := 69) hC dL_lay_69 rfl ?_
      refine a_bipush (pc := 70) hC dL_lay_70 (v := 21) rfl ?_
      refine a_iload_n (pc := 72) hC dL_lay_72 rfl ?_
      refine a_iadd (pc := 73) hC dL_lay_73 ?_
      refine a_bipush (pc := 74) hC dL_lay_74 (v := 9) rfl ?_
      refine a_callS (pc := 76) hC hR sm_L_pick tw_664 ⟨(Nat.le_of_ble_eq_true rfl), (Nat.le_of_ble_eq_true rfl), (by omega), (by omega)⟩ dL_lay_76 (t_L_pick hX _ _ _ hS hC.tr _ _ _ _ h) rfl rfl rfl (Nat.le_of_ble_eq_true rfl) (fun r15 q16 h => ?_)
      refine a_iadd (pc := 79) hC dL_lay_79 ?_
      refine a_iconst (pc := 80) hC dL_lay_80 (v := 0) rfl ?_
      refine a_callSh (pc := 81) hC hR sm_L_deed tw_672 ⟨(Nat.le_of_ble_eq_true rfl), (Nat.le_of_ble_eq_true rfl), (by omega), (by omega)⟩ dL_lay_81 (t_L_deed hX hN hC.tr _ _ _ _ _ _ h) rfl rfl rfl (Nat.le_of_ble_eq_true rfl) (fun r17 q18 h => ?_)
      refine a_iadd (pc := 84) hC dL_lay_84 ?_
      refine a_istore_n (pc := 85) hC dL_lay_85 (Nat.le_of_ble_eq_true rfl) ?_
      replace h := h _ rfl
      refine a_iinc (pc := 86) hC dL_lay_86 rfl (c := 1) rfl ?_
      replace h := h _ rfl
      refine a_goto (pc := 89) (tgt := 44) hC dL_lay_89 (by decide) ?_
      exact AW.widen (by omega) (by omega) ((hB _ _ _ h).forget ⟨rfl, rfl, rfl, rfl, trivial⟩)
set_option maxRecDepth 20000 in
theorem tJL_lay_132 {f : aF} {g : aG} (hX : isX g) (sa : Nat) (sn : Nat) (xs : Nat → Int32) (hS : isScr sa sn xs g) (hN : isNc g) (P : Int32 → aS → Prop) (hR : f_R f = aR 12 42 252) (hC : aOK f g cL_lay 4 RL) (hE : aEv f g P (fun _ _ => False) 42 252) (k1 n1 : Nat) (hk1 : k1 + 2 ≤ 42) (hn1 : n1 + 12 ≤ 252) (j3 : Int32) (s0 : Int32) (s1 : Int32) (s3 : Int32) (s5 : Int32) (B : Int32 → Int32 → aS → Prop) (K : Int32 → aS → Prop) (hB : ∀ (w2 : Int32) (w3 : Int32) (q : aS), B w2 w3 q → AW f g 94 [some (.ref (gAd g 0)), some (.ref sa), some (.int w2), some (.int w3)] [] q (k1 + 2) (n1 + 12)) (hK : ∀ (w2 : Int32) (q : aS), K w2 q → AW f g 176 [some (.ref (gAd g 0)), some (.ref sa), some (.int w2), none] [] q (k1 + 2) (n1 + 12)) (q : aS) (h : JL_lay_132 sa sn xs j3 s0 s1 s3 s5 P B K q) : AW f g 132 [some (.ref (gAd g 0)), some (.ref sa), none, some (.int j3)] [.int s0, .int s1, .ref sa, .int s3, .ref (gAd g 0), .int s5] q (k1 + 0) (n1 + 0) := by
  unfold JL_lay_132 at h
  refine a_callS (pc := 132) hC hR sm_L_pick tw_664 ⟨(Nat.le_of_ble_eq_true rfl), (Nat.le_of_ble_eq_true rfl), (by omega), (by omega)⟩ dL_lay_132 (t_L_pick hX _ _ _ hS hC.tr _ _ _ _ h) rfl rfl rfl (Nat.le_of_ble_eq_true rfl) (fun r27 q28 h => ?_)
  refine a_aload_n (pc := 135) hC dL_lay_135 rfl ?_
  refine a_bipush (pc := 136) hC dL_lay_136 (v := 51) rfl ?_
  refine a_iload_n (pc := 138) hC dL_lay_138 rfl ?_
  refine a_iadd (pc := 139) hC dL_lay_139 ?_
  refine a_bipush (pc := 140) hC dL_lay_140 (v := 100) rfl ?_
  refine a_callS (pc := 142) hC hR sm_L_pick tw_664 ⟨(Nat.le_of_ble_eq_true rfl), (Nat.le_of_ble_eq_true rfl), (by omega), (by omega)⟩ dL_lay_142 (t_L_pick hX _ _ _ hS hC.tr _ _ _ _ h) rfl rfl rfl (Nat.le_of_ble_eq_true rfl) (fun r29 q30 h => ?_)
  refine a_iconst (pc := 145) hC dL_lay_145 (v := 0) rfl ?_
  refine a_callSh (pc := 146) hC hR sm_L_deed tw_672 ⟨(Nat.le_of_ble_eq_true rfl), (Nat.le_of_ble_eq_true rfl), (by omega), (by omega)⟩ dL_lay_146 (t_L_deed hX hN hC.tr _ _ _ _ _ _ h) rfl rfl rfl (Nat.le_of_ble_eq_true rfl) (fun r31 q32 h => ?_)
  refine a_iadd (pc := 149) hC dL_lay_149 ?_
  refine a_istore_n (pc := 150) hC dL_lay_150 (Nat.le_of_ble_eq_true rfl) ?_
  replace h := h _ rfl
  refine a_iload_n (pc := 151) hC dL_lay_151 rfl ?_
  refine a_aload_n (pc := 152) hC dL_lay_152 rfl ?_
  refine a_iconst (pc := 153) hC dL_lay_153 (v := 3) rfl ?_
  refine a_iload_n (pc := 154) hC dL_lay_154 rfl ?_
  refine a_aload_n (pc := 155) hC dL_lay_155 rfl ?_
  refine a_bipush (pc := 156) hC dL_lay_156 (v := 61) rfl ?_
  refine a_iload_n (pc := 158) hC dL_lay_158 rfl ?_
  refine a_iadd (pc := 159) hC dL_lay_159 ?_
  refine a_iconst (pc := 160) hC dL_lay_160 (v := 3) rfl ?_
  refine a_callS (pc := 161) hC hR sm_L_pick tw_664 ⟨(Nat.le_of_ble_eq_true rfl), (Nat.le_of_ble_eq_true rfl), (by omega), (by omega)⟩ dL_lay_161 (t_L_pick hX _ _ _ hS hC.tr _ _ _ _ h) rfl rfl rfl (Nat.le_of_ble_eq_true rfl) (fun r34 q35 h => ?_)
  refine a_iconst (pc := 164) hC dL_lay_164 (v := 0) rfl ?_
  refine a_callSh (pc := 165) hC hR sm_L_deed tw_672 ⟨(Nat.le_of_ble_eq_true rfl), (Nat.le_of_ble_eq_true rfl), (by omega), (by omega)⟩ dL_lay_165 (t_L_deed hX hN hC.tr _ _ _ _ _ _ h) rfl rfl rfl (Nat.le_of_ble_eq_true rfl) (fun r36 q37 h => ?_)
  refine a_iadd (pc := 168) hC dL_lay_168 ?_
  refine a_istore_n (pc := 169) hC dL_lay_169 (Nat.le_of_ble_eq_true rfl) ?_
  replace h := h _ rfl
  refine a_iinc (pc := 170) hC dL_lay_170 rfl (c := 1) rfl ?_
  replace h := h _ rfl
  refine a_goto (pc := 173) (tgt := 94) hC dL_lay_173 (by decide) ?_
  exact AW.widen (by omega) (by omega) ((hB _ _ _ h).forget ⟨rfl, rfl, rfl, rfl, trivial⟩)
set_option maxRecDepth 20000 in
theorem tLL_lay_94 {f : aF} {g : aG} (hX : isX g) (sa : Nat) (sn : Nat) (xs : Nat → Int32) (hS : isScr sa sn xs g) (hN : isNc g) (P : Int32 → aS → Prop) (hR : f_R f = aR 12 42 252) (hC : aOK f g cL_lay 4 RL) (hE : aEv f g P (fun _ _ => False) 42 252) {K : Int32 → aS → Prop} (hK : ∀ (w2 : Int32) (q : aS), K w2 q → AW f g 176 [some (.ref (gAd g 0)), some (.ref sa), some (.int w2), none] [] q 30 180) : ∀ (N : Nat) (v2 : Int32) (v3 : Int32) (q : aS), N ≤ 7 → LL_lay_94 sa sn xs P K N v2 v3 q → AW f g 94 [some (.ref (gAd g 0)), some (.ref sa), some (.int v2), some (.int v3)] [] q (16 + (7 - N) * 2) (96 + (7 - N) * 12) := by
  intro N
  induction N with
  | zero =>
    intro v2 v3 q _ h
    exact h.elim
  | succ N ih =>
    intro v2 v3 q hM9 h
    unfold LL_lay_94 at h
    obtain ⟨k1, ek1⟩ : ∃ x, x = 16 + (7 - (N + 1)) * 2 := ⟨_, rfl⟩
    obtain ⟨n1, en1⟩ : ∃ x, x = 96 + (7 - (N + 1)) * 12 := ⟨_, rfl⟩
    rw [← ek1, ← en1]
    have hk1 : k1 + 2 ≤ 42 := by omega
    have hn1 : n1 + 12 ≤ 252 := by omega
    have hB : ∀ (w2 : Int32) (w3 : Int32) (q : aS), LL_lay_94 sa sn xs P K N w2 w3 q → AW f g 94 [some (.ref (gAd g 0)), some (.ref sa), some (.int w2), some (.int w3)] [] q (k1 + 2) (n1 + 12) := fun w2 w3 q h => (ih w2 w3 q (by omega) h).widen (by omega) (by omega)
    have hK2 : ∀ (w2 : Int32) (q : aS), K w2 q → AW f g 176 [some (.ref (gAd g 0)), some (.ref sa), some (.int w2), none] [] q (k1 + 2) (n1 + 12) := fun w2 q h => (hK w2 q h).widen (by omega) (by omega)
    clear hM9 ek1 en1 ih
    refine a_iload_n (pc := 94) hC dL_lay_94 rfl ?_
    refine a_aload_n (pc := 95) hC dL_lay_95 rfl ?_
    refine a_bipush (pc := 96) hC dL_lay_96 (v := 30) rfl ?_
    refine a_bipush (pc := 98) hC dL_lay_98 (v := 7) rfl ?_
    refine a_callS (pc := 100) hC hR sm_L_pick tw_664 ⟨(Nat.le_of_ble_eq_true rfl), (Nat.le_of_ble_eq_true rfl), (by omega), (by omega)⟩ dL_lay_100 (t_L_pick hX _ _ _ hS hC.tr _ _ _ _ h) rfl rfl rfl (Nat.le_of_ble_eq_true rfl) (fun r23 q24 h => ?_)
    refine a_icmp_ge (pc := 103) (tgt := 176) hC dL_lay_103 (by decide) (fun c => ?_) (fun c => ?_)
    · replace h := h.1 c
      exact AW.widen (by omega) (by omega) ((hK2 _ _ h).forget ⟨rfl, rfl, rfl, trivial⟩)
    · replace h := h.2 c
      refine a_iload_n (pc := 106) hC dL_lay_106 rfl ?_
      refine a_aload_n (pc := 107) hC dL_lay_107 rfl ?_
      refine a_iconst (pc := 108) hC dL_lay_108 (v := 2) rfl ?_
      refine a_aload_n (pc := 109) hC dL_lay_109 rfl ?_
      refine a_bipush (pc := 110) hC dL_lay_110 (v := 31) rfl ?_
      refine a_iload_n (pc := 112) hC dL_lay_112 rfl ?_
      refine a_iadd (pc := 113) hC dL_lay_113 ?_
      refine a_aload_n (pc := 114) hC dL_lay_114 rfl ?_
      refine a_bipush (pc := 115) hC dL_lay_115 (v := 41) rfl ?_
      refine a_iload_n (pc := 117) hC dL_lay_117 rfl ?_
      refine a_iadd (pc := 118) hC dL_lay_118 ?_
      refine a_iconst (pc := 119) hC dL_lay_119 (v := 2) rfl ?_
      refine a_callS (pc := 120) hC hR sm_L_pick tw_664 ⟨(Nat.le_of_ble_eq_true rfl), (Nat.le_of_ble_eq_true rfl), (by omega), (by omega)⟩ dL_lay_120 (t_L_pick hX _ _ _ hS hC.tr _ _ _ _ h) rfl rfl rfl (Nat.le_of_ble_eq_true rfl) (fun r25 q26 h => ?_)
      refine a_if_ne (pc := 123) (tgt := 131) hC dL_lay_123 (by decide) (fun c => ?_) (fun c => ?_)
      · replace h := h.1 c
        refine a_iconst (pc := 131) hC dL_lay_131 (v := 5) rfl ?_
        exact (tJL_lay_132 hX sa sn xs hS hN P hR hC hE k1 n1 hk1 hn1 _ _ _ _ _ _ _ hB hK2 _ h).forget ⟨rfl, rfl, rfl, trivial⟩
      · replace h := h.2 c
        refine a_bipush (pc := 126) hC dL_lay_126 (v := 10) rfl ?_
        refine a_goto (pc := 128) (tgt := 132) hC dL_lay_128 (by decide) ?_
        exact (tJL_lay_132 hX sa sn xs hS hN P hR hC hE k1 n1 hk1 hn1 _ _ _ _ _ _ _ hB hK2 _ h).forget ⟨rfl, rfl, rfl, trivial⟩
set_option maxRecDepth 20000 in
theorem tLL_lay_178 {f : aF} {g : aG} (hX : isX g) (sa : Nat) (sn : Nat) (xs : Nat → Int32) (hS : isScr sa sn xs g) (hN : isNc g) (P : Int32 → aS → Prop) (hR : f_R f = aR 12 42 252) (hC : aOK f g cL_lay 4 RL) (hE : aEv f g P (fun _ _ => False) 42 252) {K : aS → Prop} (hK : ∀ (q : aS), K q → AW f g 237 [none, none, none, none] [] q 42 252) : ∀ (N : Nat) (v2 : Int32) (v3 : Int32) (q : aS), N ≤ 12 → LL_lay_178 sa sn xs P K N v2 v3 q → AW f g 178 [some (.ref (gAd g 0)), some (.ref sa), some (.int v2), some (.int v3)] [] q (30 + (12 - N) * 1) (180 + (12 - N) * 6) := by
  intro N
  induction N with
  | zero =>
    intro v2 v3 q _ h
    exact h.elim
  | succ N ih =>
    intro v2 v3 q hM9 h
    unfold LL_lay_178 at h
    obtain ⟨k1, ek1⟩ : ∃ x, x = 30 + (12 - (N + 1)) * 1 := ⟨_, rfl⟩
    obtain ⟨n1, en1⟩ : ∃ x, x = 180 + (12 - (N + 1)) * 6 := ⟨_, rfl⟩
    rw [← ek1, ← en1]
    have hk1 : k1 + 1 ≤ 42 := by omega
    have hn1 : n1 + 6 ≤ 252 := by omega
    have hB : ∀ (w2 : Int32) (w3 : Int32) (q : aS), LL_lay_178 sa sn xs P K N w2 w3 q → AW f g 178 [some (.ref (gAd g 0)), some (.ref sa), some (.int w2), some (.int w3)] [] q (k1 + 1) (n1 + 6) := fun w2 w3 q h => (ih w2 w3 q (by omega) h).widen (by omega) (by omega)
    have hK2 : ∀ (q : aS), K q → AW f g 237 [none, none, none, none] [] q (k1 + 1) (n1 + 6) := fun q h => (hK q h).widen (by omega) (by omega)
    clear hM9 ek1 en1 ih
    refine a_iload_n (pc := 178) hC dL_lay_178 rfl ?_
    refine a_aload_n (pc := 179) hC dL_lay_179 rfl ?_
    refine a_bipush (pc := 180) hC dL_lay_180 (v := 70) rfl ?_
    refine a_bipush (pc := 182) hC dL_lay_182 (v := 12) rfl ?_
    refine a_callS (pc := 184) hC hR sm_L_pick tw_664 ⟨(Nat.le_of_ble_eq_true rfl), (Nat.le_of_ble_eq_true rfl), (by omega), (by omega)⟩ dL_lay_184 (t_L_pick hX _ _ _ hS hC.tr _ _ _ _ h) rfl rfl rfl (Nat.le_of_ble_eq_true rfl) (fun r42 q43 h => ?_)
    refine a_icmp_ge (pc := 187) (tgt := 237) hC dL_lay_187 (by decide) (fun c => ?_) (fun c => ?_)
    · replace h := h.1 c
      exact AW.widen (by omega) (by omega) ((hK2 _ h).forget trivial)
    · replace h := h.2 c
      refine a_iload_n (pc := 190) hC dL_lay_190 rfl ?_
      refine a_aload_n (pc := 191) hC dL_lay_191 rfl ?_
      refine a_bipush (pc := 192) hC dL_lay_192 (v := 6) rfl ?_
      refine a_aload_n (pc := 194) hC dL_lay_194 rfl ?_
      refine a_bipush (pc := 195) hC dL_lay_195 (v := 71) rfl ?_
      refine a_iload_n (pc := 197) hC dL_lay_197 rfl ?_
      refine a_iadd (pc := 198) hC dL_lay_198 ?_
      refine a_bipush (pc := 199) hC dL_lay_199 (v := 6) rfl ?_
      refine a_callS (pc := 201) hC hR sm_L_pick tw_664 ⟨(Nat.le_of_ble_eq_true rfl), (Nat.le_of_ble_eq_true rfl), (by omega), (by omega)⟩ dL_lay_201 (t_L_pick hX _ _ _ hS hC.tr _ _ _ _ h) rfl rfl rfl (Nat.le_of_ble_eq_true rfl) (fun r44 q45 h => ?_)
      refine a_aload_n (pc := 204) hC dL_lay_204 rfl ?_
      refine a_bipush (pc := 205) hC dL_lay_205 (v := 91) rfl ?_
      refine a_iload_n (pc := 207) hC dL_lay_207 rfl ?_
      refine a_iadd (pc := 208) hC dL_lay_208 ?_
      refine a_bipush (pc := 209) hC dL_lay_209 (v := 8) rfl ?_
      refine a_callS (pc := 211) hC hR sm_L_pick tw_664 ⟨(Nat.le_of_ble_eq_true rfl), (Nat.le_of_ble_eq_true rfl), (by omega), (by omega)⟩ dL_lay_211 (t_L_pick hX _ _ _ hS hC.tr _ _ _ _ h) rfl rfl rfl (Nat.le_of_ble_eq_true rfl) (fun r46 q47 h => ?_)
      refine a_iconst (pc := 214) hC dL_lay_214 (v := 1) rfl ?_
      refine a_aload_n (pc := 215) hC dL_lay_215 rfl ?_
      refine a_bipush (pc := 216) hC dL_lay_216 (v := 111) rfl ?_
      refine a_iload_n (pc := 218) hC dL_lay_218 rfl ?_
      refine a_iadd (pc := 219) hC dL_lay_219 ?_
      refine a_bipush (pc := 220) hC dL_lay_220 (v := 9) rfl ?_
      refine a_callS (pc := 222) hC hR sm_L_pick tw_664 ⟨(Nat.le_of_ble_eq_true rfl), (Nat.le_of_ble_eq_true rfl), (by omega), (by omega)⟩ dL_lay_222 (t_L_pick hX _ _ _ hS hC.tr _ _ _ _ h) rfl rfl rfl (Nat.le_of_ble_eq_true rfl) (fun r48 q49 h => ?_)
      refine a_iadd (pc := 225) hC dL_lay_225 ?_
      refine a_callSh (pc := 226) hC hR sm_L_deed tw_672 ⟨(Nat.le_of_ble_eq_true rfl), (Nat.le_of_ble_eq_true rfl), (by omega), (by omega)⟩ dL_lay_226 (t_L_deed hX hN hC.tr _ _ _ _ _ _ h) rfl rfl rfl (Nat.le_of_ble_eq_true rfl) (fun r50 q51 h => ?_)
      refine a_iadd (pc := 229) hC dL_lay_229 ?_
      refine a_istore_n (pc := 230) hC dL_lay_230 (Nat.le_of_ble_eq_true rfl) ?_
      replace h := h _ rfl
      refine a_iinc (pc := 231) hC dL_lay_231 rfl (c := 1) rfl ?_
      replace h := h _ rfl
      refine a_goto (pc := 234) (tgt := 178) hC dL_lay_234 (by decide) ?_
      exact AW.widen (by omega) (by omega) ((hB _ _ _ h).forget ⟨rfl, rfl, rfl, rfl, trivial⟩)
set_option maxRecDepth 20000 in
theorem t_L_lay {l : Launch} {g : aG} (hX : isX g) (sa : Nat) (sn : Nat) (xs : Nat → Int32) (hS : isScr sa sn xs g) (hN : isNc g) (hl : l.stackTraces = false) (q : aS) (P : Int32 → aS → Prop) (h : w_L_lay sa sn xs q P) : aMv l g yL_lay (aWs yL_lay cL_lay 4 none) 12 42 252 [.ref (gAd g 0), .ref sa] q P (fun _ _ => False) := by
  refine aMv_of RL ⟨by decide +kernel, rfl⟩ (cat_all rfl) (Nat.le_of_ble_eq_true rfl) hl hX.cl (fun f hR hC hE => ?_)
  show AW f g 0 [some (.ref (gAd g 0)), some (.ref sa), none, none] [] q 0 0
  unfold w_L_lay at h
  refine a_iconst (pc := 0) hC dL_lay_0 (v := 0) rfl ?_
  refine a_istore_n (pc := 1) hC dL_lay_1 (Nat.le_of_ble_eq_true rfl) ?_
  refine a_iconst (pc := 2) hC dL_lay_2 (v := 0) rfl ?_
  refine a_istore_n (pc := 3) hC dL_lay_3 (Nat.le_of_ble_eq_true rfl) ?_
  obtain ⟨N, hM9, h⟩ := h
  refine (AW.widen (by omega) (by omega) ((tLL_lay_4 hX sa sn xs hS hN P hR hC hE (fun y9 q10 h => ?_) N _ _ _ hM9 h).forget ⟨rfl, rfl, rfl, rfl, trivial⟩))
  refine a_iconst (pc := 42) hC dL_lay_42 (v := 0) rfl ?_
  refine a_istore_n (pc := 43) hC dL_lay_43 (Nat.le_of_ble_eq_true rfl) ?_
  obtain ⟨N, hM9, h⟩ := h
  refine (AW.widen (by omega) (by omega) ((tLL_lay_44 hX sa sn xs hS hN P hR hC hE (fun y21 q22 h => ?_) N _ _ _ hM9 h).forget ⟨rfl, rfl, rfl, rfl, trivial⟩))
  refine a_iconst (pc := 92) hC dL_lay_92 (v := 0) rfl ?_
  refine a_istore_n (pc := 93) hC dL_lay_93 (Nat.le_of_ble_eq_true rfl) ?_
  obtain ⟨N, hM9, h⟩ := h
  refine (AW.widen (by omega) (by omega) ((tLL_lay_94 hX sa sn xs hS hN P hR hC hE (fun y40 q41 h => ?_) N _ _ _ hM9 h).forget ⟨rfl, rfl, rfl, rfl, trivial⟩))
  refine a_iconst (pc := 176) hC dL_lay_176 (v := 0) rfl ?_
  refine a_istore_n (pc := 177) hC dL_lay_177 (Nat.le_of_ble_eq_true rfl) ?_
  obtain ⟨N, hM9, h⟩ := h
  refine (AW.widen (by omega) (by omega) ((tLL_lay_178 hX sa sn xs hS hN P hR hC hE (fun q54 h => ?_) N _ _ _ hM9 h).forget ⟨rfl, rfl, rfl, rfl, trivial⟩))
  exact a_vret (pc := 237) hC hE h (Nat.le_of_ble_eq_true rfl) (Nat.le_of_ble_eq_true rfl) dL_lay_237
set_option maxRecDepth 20000 in
theorem tJL_any_191 {f : aF} {g : aG} (hX : isX g) (sa : Nat) (sn : Nat) (xs : Nat → Int32) (hS : isScr sa sn xs g) (hN : isNc g) (P : Int32 → aS → Prop) (hR : f_R f = aR 12 1 6) (hC : aOK f g cL_any 6 RL) (hE : aEi f g .int P (fun _ _ => False) 1 6) (j2 : Int32) (j3 : Int32) (j5 : Int32) (q : aS) (h : JL_any_191 sa sn xs j2 j3 j5 P q) : AW f g 191 [some (.ref (gAd g 0)), some (.ref sa), some (.int j2), some (.int j3), none, some (.int j5)] [] q 0 0 := by
  unfold JL_any_191 at h
  refine a_aload_n (pc := 191) hC dL_any_191 rfl ?_
  refine a_iconst (pc := 192) hC dL_any_192 (v := 3) rfl ?_
  refine a_aload_n (pc := 193) hC dL_any_193 rfl ?_
  refine a_iload_n (pc := 194) hC dL_any_194 rfl ?_
  refine a_iconst (pc := 195) hC dL_any_195 (v := 1) rfl ?_
  refine a_iadd (pc := 196) hC dL_any_196 ?_
  refine a_iload_n (pc := 197) hC dL_any_197 rfl ?_
  refine a_callS (pc := 198) hC hR sm_L_pick tw_664 ⟨(Nat.le_of_ble_eq_true rfl), (Nat.le_of_ble_eq_true rfl), (Nat.le_of_ble_eq_true rfl), (Nat.le_of_ble_eq_true rfl)⟩ dL_any_198 (t_L_pick hX _ _ _ hS hC.tr _ _ _ _ h) rfl rfl rfl (Nat.le_of_ble_eq_true rfl) (fun r29 q30 h => ?_)
  refine a_aload_n (pc := 201) hC dL_any_201 rfl ?_
  refine a_iload_n (pc := 202) hC dL_any_202 rfl ?_
  refine a_iconst (pc := 203) hC dL_any_203 (v := 2) rfl ?_
  refine a_iadd (pc := 204) hC dL_any_204 ?_
  refine a_iload (pc := 205) hC dL_any_205 rfl ?_
  refine a_iconst (pc := 207) hC dL_any_207 (v := 1) rfl ?_
  refine a_iadd (pc := 208) hC dL_any_208 ?_
  refine a_callS (pc := 209) hC hR sm_L_pick tw_664 ⟨(Nat.le_of_ble_eq_true rfl), (Nat.le_of_ble_eq_true rfl), (Nat.le_of_ble_eq_true rfl), (Nat.le_of_ble_eq_true rfl)⟩ dL_any_209 (t_L_pick hX _ _ _ hS hC.tr _ _ _ _ h) rfl rfl rfl (Nat.le_of_ble_eq_true rfl) (fun r31 q32 h => ?_)
  refine a_iconst (pc := 212) hC dL_any_212 (v := 0) rfl ?_
  refine a_callSh (pc := 213) hC hR sm_L_deed tw_672 ⟨(Nat.le_of_ble_eq_true rfl), (Nat.le_of_ble_eq_true rfl), (Nat.le_of_ble_eq_true rfl), (Nat.le_of_ble_eq_true rfl)⟩ dL_any_213 (t_L_deed hX hN hC.tr _ _ _ _ _ _ h) rfl rfl rfl (Nat.le_of_ble_eq_true rfl) (fun r33 q34 h => ?_)
  exact a_iret (pc := 216) hC hE h (Nat.le_of_ble_eq_true rfl) (Nat.le_of_ble_eq_true rfl) dL_any_216
set_option maxRecDepth 20000 in
theorem tJL_any_233 {f : aF} {g : aG} (hX : isX g) (sa : Nat) (sn : Nat) (xs : Nat → Int32) (hS : isScr sa sn xs g) (hN : isNc g) (P : Int32 → aS → Prop) (hR : f_R f = aR 12 1 6) (hC : aOK f g cL_any 6 RL) (hE : aEi f g .int P (fun _ _ => False) 1 6) (j2 : Int32) (j4 : Int32) (j5 : Int32) (q : aS) (h : JL_any_233 sa sn xs j2 j4 j5 P q) : AW f g 233 [some (.ref (gAd g 0)), some (.ref sa), some (.int j2), none, some (.int j4), some (.int j5)] [] q 0 0 := by
  unfold JL_any_233 at h
  refine a_aload_n (pc := 233) hC dL_any_233 rfl ?_
  refine a_iconst (pc := 234) hC dL_any_234 (v := 5) rfl ?_
  refine a_aload_n (pc := 235) hC dL_any_235 rfl ?_
  refine a_iload_n (pc := 236) hC dL_any_236 rfl ?_
  refine a_iconst (pc := 237) hC dL_any_237 (v := 1) rfl ?_
  refine a_iadd (pc := 238) hC dL_any_238 ?_
  refine a_iload (pc := 239) hC dL_any_239 rfl ?_
  refine a_callS (pc := 241) hC hR sm_L_pick tw_664 ⟨(Nat.le_of_ble_eq_true rfl), (Nat.le_of_ble_eq_true rfl), (Nat.le_of_ble_eq_true rfl), (Nat.le_of_ble_eq_true rfl)⟩ dL_any_241 (t_L_pick hX _ _ _ hS hC.tr _ _ _ _ h) rfl rfl rfl (Nat.le_of_ble_eq_true rfl) (fun r39 q40 h => ?_)
  refine a_aload_n (pc := 244) hC dL_any_244 rfl ?_
  refine a_iload_n (pc := 245) hC dL_any_245 rfl ?_
  refine a_iconst (pc := 246) hC dL_any_246 (v := 2) rfl ?_
  refine a_iadd (pc := 247) hC dL_any_247 ?_
  refine a_iload (pc := 248) hC dL_any_248 rfl ?_
  refine a_callS (pc := 250) hC hR sm_L_pick tw_664 ⟨(Nat.le_of_ble_eq_true rfl), (Nat.le_of_ble_eq_true rfl), (Nat.le_of_ble_eq_true rfl), (Nat.le_of_ble_eq_true rfl)⟩ dL_any_250 (t_L_pick hX _ _ _ hS hC.tr _ _ _ _ h) rfl rfl rfl (Nat.le_of_ble_eq_true rfl) (fun r41 q42 h => ?_)
  refine a_iconst (pc := 253) hC dL_any_253 (v := 0) rfl ?_
  refine a_callSh (pc := 254) hC hR sm_L_deed tw_672 ⟨(Nat.le_of_ble_eq_true rfl), (Nat.le_of_ble_eq_true rfl), (Nat.le_of_ble_eq_true rfl), (Nat.le_of_ble_eq_true rfl)⟩ dL_any_254 (t_L_deed hX hN hC.tr _ _ _ _ _ _ h) rfl rfl rfl (Nat.le_of_ble_eq_true rfl) (fun r43 q44 h => ?_)
  exact a_iret (pc := 257) hC hE h (Nat.le_of_ble_eq_true rfl) (Nat.le_of_ble_eq_true rfl) dL_any_257
set_option maxRecDepth 20000 in
theorem tJL_any_258 {f : aF} {g : aG} (hX : isX g) (sa : Nat) (sn : Nat) (xs : Nat → Int32) (hS : isScr sa sn xs g) (hN : isNc g) (P : Int32 → aS → Prop) (hR : f_R f = aR 12 1 6) (hC : aOK f g cL_any 6 RL) (hE : aEi f g .int P (fun _ _ => False) 1 6) (j2 : Int32) (j3 : Int32) (j4 : Int32) (q : aS) (h : JL_any_258 sa sn xs j2 j3 j4 P q) : AW f g 258 [some (.ref (gAd g 0)), some (.ref sa), some (.int j2), some (.int j3), some (.int j4), none] [] q 0 0 := by
  unfold JL_any_258 at h
  refine a_aload_n (pc := 258) hC dL_any_258 rfl ?_
  refine a_bipush (pc := 259) hC dL_any_259 (v := 6) rfl ?_
  refine a_aload_n (pc := 261) hC dL_any_261 rfl ?_
  refine a_iload_n (pc := 262) hC dL_any_262 rfl ?_
  refine a_iconst (pc := 263) hC dL_any_263 (v := 1) rfl ?_
  refine a_iadd (pc := 264) hC dL_any_264 ?_
  refine a_iload_n (pc := 265) hC dL_any_265 rfl ?_
  refine a_callS (pc := 266) hC hR sm_L_pick tw_664 ⟨(Nat.le_of_ble_eq_true rfl), (Nat.le_of_ble_eq_true rfl), (Nat.le_of_ble_eq_true rfl), (Nat.le_of_ble_eq_true rfl)⟩ dL_any_266 (t_L_pick hX _ _ _ hS hC.tr _ _ _ _ h) rfl rfl rfl (Nat.le_of_ble_eq_true rfl) (fun r45 q46 h => ?_)
  refine a_aload_n (pc := 269) hC dL_any_269 rfl ?_
  refine a_iload_n (pc := 270) hC dL_any_270 rfl ?_
  refine a_iconst (pc := 271) hC dL_any_271 (v := 2) rfl ?_
  refine a_iadd (pc := 272) hC dL_any_272 ?_
  refine a_iload (pc := 273) hC dL_any_273 rfl ?_
  refine a_callS (pc := 275) hC hR sm_L_pick tw_664 ⟨(Nat.le_of_ble_eq_true rfl), (Nat.le_of_ble_eq_true rfl), (Nat.le_of_ble_eq_true rfl), (Nat.le_of_ble_eq_true rfl)⟩ dL_any_275 (t_L_pick hX _ _ _ hS hC.tr _ _ _ _ h) rfl rfl rfl (Nat.le_of_ble_eq_true rfl) (fun r47 q48 h => ?_)
  refine a_iconst (pc := 278) hC dL_any_278 (v := 1) rfl ?_
  refine a_aload_n (pc := 279) hC dL_any_279 rfl ?_
  refine a_iload_n (pc := 280) hC dL_any_280 rfl ?_
  refine a_iconst (pc := 281) hC dL_any_281 (v := 3) rfl ?_
  refine a_iadd (pc := 282) hC dL_any_282 ?_
  refine a_iconst (pc := 283) hC dL_any_283 (v := 4) rfl ?_
  refine a_callS (pc := 284) hC hR sm_L_pick tw_664 ⟨(Nat.le_of_ble_eq_true rfl), (Nat.le_of_ble_eq_true rfl), (Nat.le_of_ble_eq_true rfl), (Nat.le_of_ble_eq_true rfl)⟩ dL_any_284 (t_L_pick hX _ _ _ hS hC.tr _ _ _ _ h) rfl rfl rfl (Nat.le_of_ble_eq_true rfl) (fun r49 q50 h => ?_)
  refine a_iadd (pc := 287) hC dL_any_287 ?_
  refine a_callSh (pc := 288) hC hR sm_L_deed tw_672 ⟨(Nat.le_of_ble_eq_true rfl), (Nat.le_of_ble_eq_true rfl), (Nat.le_of_ble_eq_true rfl), (Nat.le_of_ble_eq_true rfl)⟩ dL_any_288 (t_L_deed hX hN hC.tr _ _ _ _ _ _ h) rfl rfl rfl (Nat.le_of_ble_eq_true rfl) (fun r51 q52 h => ?_)
  exact a_iret (pc := 291) hC hE h (Nat.le_of_ble_eq_true rfl) (Nat.le_of_ble_eq_true rfl) dL_any_291
set_option maxRecDepth 20000 in
theorem t_L_any {l : Launch} {g : aG} (hX : isX g) (sa : Nat) (sn : Nat) (xs : Nat → Int32) (hS : isScr sa sn xs g) (hN : isNc g) (hl : l.stackTraces = false) (x1 : Int32) (q : aS) (P : Int32 → aS → Prop) (h : w_L_any sa sn xs x1 q P) : aMi l g yL_any (aWs yL_any cL_any 6 (some .int)) 12 1 6 [.ref (gAd g 0), .ref sa, .int x1] q P (fun _ _ => False) := by
  refine aMi_of RL ⟨by decide +kernel, rfl⟩ (cat_all rfl) (Nat.le_of_ble_eq_true rfl) hl hX.cl (fun f hR hC hE => ?_)
  show AW f g 0 [some (.ref (gAd g 0)), some (.ref sa), some (.int x1), none, none, none] [] q 0 0
  unfold w_L_any at h
  refine a_iconst (pc := 0) hC dL_any_0 (v := 1) rfl ?_
  refine a_aload_n (pc := 1) hC dL_any_1 rfl ?_
  refine a_iconst (pc := 2) hC dL_any_2 (v := 2) rfl ?_
  refine a_callV (pc := 3) hC hR vm_X9_account tw_327 cl_X9 (oX_0 hX) ⟨(Nat.le_of_ble_eq_true rfl), (Nat.le_of_ble_eq_true rfl), (Nat.le_of_ble_eq_true rfl), (Nat.le_of_ble_eq_true rfl)⟩ dL_any_3 (t_X9_account0 hX hC.tr _ _ _ h) rfl rfl rfl (Nat.le_of_ble_eq_true rfl) (fun r2 q3 h => ?_)
  refine a_mmax (pc := 6) hC hR ⟨(Nat.le_of_ble_eq_true rfl), (Nat.le_of_ble_eq_true rfl), (Nat.le_of_ble_eq_true rfl)⟩ rfl tw_1002 tw_581 tw_23 tw_582 (Nat.le_of_ble_eq_true rfl) dL_any_6 ?_
  refine a_istore_n (pc := 9) hC dL_any_9 (Nat.le_of_ble_eq_true rfl) ?_
  replace h := h _ rfl
  refine a_iconst (pc := 10) hC dL_any_10 (v := 1) rfl ?_
  refine a_aload_n (pc := 11) hC dL_any_11 rfl ?_
  refine a_iconst (pc := 12) hC dL_any_12 (v := 1) rfl ?_
  refine a_callV (pc := 13) hC hR vm_X9_account tw_327 cl_X9 (oX_0 hX) ⟨(Nat.le_of_ble_eq_true rfl), (Nat.le_of_ble_eq_true rfl), (Nat.le_of_ble_eq_true rfl), (Nat.le_of_ble_eq_true rfl)⟩ dL_any_13 (t_X9_account0 hX hC.tr _ _ _ h) rfl rfl rfl (Nat.le_of_ble_eq_true rfl) (fun r5 q6 h => ?_)
  refine a_mmax (pc := 16) hC hR ⟨(Nat.le_of_ble_eq_true rfl), (Nat.le_of_ble_eq_true rfl), (Nat.le_of_ble_eq_true rfl)⟩ rfl tw_1002 tw_581 tw_23 tw_582 (Nat.le_of_ble_eq_true rfl) dL_any_16 ?_
  refine a_istore (pc := 19) hC dL_any_19 (Nat.le_of_ble_eq_true rfl) ?_
  replace h := h _ rfl
  refine a_iconst (pc := 21) hC dL_any_21 (v := 1) rfl ?_
  refine a_aload_n (pc := 22) hC dL_any_22 rfl ?_
  refine a_iconst (pc := 23) hC dL_any_23 (v := 0) rfl ?_
  refine a_callV (pc := 24) hC hR vm_X9_account tw_327 cl_X9 (oX_0 hX) ⟨(Nat.le_of_ble_eq_true rfl), (Nat.le_of_ble_eq_true rfl), (Nat.le_of_ble_eq_true rfl), (Nat.le_of_ble_eq_true rfl)⟩ dL_any_24 (t_X9_account0 hX hC.tr _ _ _ h) rfl rfl rfl (Nat.le_of_ble_eq_true rfl) (fun r8 q9 h => ?_)
  refine a_mmax (pc := 27) hC hR ⟨(Nat.le_of_ble_eq_true rfl), (Nat.le_of_ble_eq_true rfl), (Nat.le_of_ble_eq_true rfl)⟩ rfl tw_1002 tw_581 tw_23 tw_582 (Nat.le_of_ble_eq_true rfl) dL_any_27 ?_
  refine a_istore (pc := 30) hC dL_any_30 (Nat.le_of_ble_eq_true rfl) ?_
  replace h := h _ rfl
  refine a_aload_n (pc := 32) hC dL_any_32 rfl ?_
  refine a_iload_n (pc := 33) hC dL_any_33 rfl ?_
  refine a_bipush (pc := 34) hC dL_any_34 (v := 24) rfl ?_
  refine a_callS (pc := 36) hC hR sm_L_pick tw_664 ⟨(Nat.le_of_ble_eq_true rfl), (Nat.le_of_ble_eq_true rfl), (Nat.le_of_ble_eq_true rfl), (Nat.le_of_ble_eq_true rfl)⟩ dL_any_36 (t_L_pick hX _ _ _ hS hC.tr _ _ _ _ h) rfl rfl rfl (Nat.le_of_ble_eq_true rfl) (fun r11 q12 h => ?_)
  refine tab_or (fun c0 => ?_) (fun c0 => ?_) h
  · intro h
    refine a_tabIn (pc := 39) (tgt := 120) hC dL_any_39 (by rw [c0]; decide) (by rw [c0]; decide) (by rw [c0]; rfl) (by decide) ?_
    refine a_aload_n (pc := 120) hC dL_any_120 rfl ?_
    refine a_iconst (pc := 121) hC dL_any_121 (v := 0) rfl ?_
    refine a_iconst (pc := 122) hC dL_any_122 (v := 1) rfl ?_
    refine a_aload_n (pc := 123) hC dL_any_123 rfl ?_
    refine a_iload_n (pc := 124) hC dL_any_124 rfl ?_
    refine a_iconst (pc := 125) hC dL_any_125 (v := 1) rfl ?_
    refine a_iadd (pc := 126) hC dL_any_126 ?_
    refine a_bipush (pc := 127) hC dL_any_127 (v := 9) rfl ?_
    refine a_callS (pc := 129) hC hR sm_L_pick tw_664 ⟨(Nat.le_of_ble_eq_true rfl), (Nat.le_of_ble_eq_true rfl), (Nat.le_of_ble_eq_true rfl), (Nat.le_of_ble_eq_true rfl)⟩ dL_any_129 (t_L_pick hX _ _ _ hS hC.tr _ _ _ _ h) rfl rfl rfl (Nat.le_of_ble_eq_true rfl) (fun r13 q14 h => ?_)
    refine a_iadd (pc := 132) hC dL_any_132 ?_
    refine a_iconst (pc := 133) hC dL_any_133 (v := 0) rfl ?_
    refine a_iconst (pc := 134) hC dL_any_134 (v := 0) rfl ?_
    refine a_callSh (pc := 135) hC hR sm_L_deed tw_672 ⟨(Nat.le_of_ble_eq_true rfl), (Nat.le_of_ble_eq_true rfl), (Nat.le_of_ble_eq_true rfl), (Nat.le_of_ble_eq_true rfl)⟩ dL_any_135 (t_L_deed hX hN hC.tr _ _ _ _ _ _ h) rfl rfl rfl (Nat.le_of_ble_eq_true rfl) (fun r15 q16 h => ?_)
    exact a_iret (pc := 138) hC hE h (Nat.le_of_ble_eq_true rfl) (Nat.le_of_ble_eq_true rfl) dL_any_138
  intro h
  refine tab_or (fun c1 => ?_) (fun c1 => ?_) h
  · intro h
    refine a_tabIn (pc := 39) (tgt := 139) hC dL_any_39 (by rw [c1]; decide) (by rw [c1]; decide) (by rw [c1]; rfl) (by decide) ?_
    refine a_aload_n (pc := 139) hC dL_any_139 rfl ?_
    refine a_iconst (pc := 140) hC dL_any_140 (v := 1) rfl ?_
    refine a_aload_n (pc := 141) hC dL_any_141 rfl ?_
    refine a_iload_n (pc := 142) hC dL_any_142 rfl ?_
    refine a_iconst (pc := 143) hC dL_any_143 (v := 1) rfl ?_
    refine a_iadd (pc := 144) hC dL_any_144 ?_
    refine a_iload (pc := 145) hC dL_any_145 rfl ?_
    refine a_callS (pc := 147) hC hR sm_L_pick tw_664 ⟨(Nat.le_of_ble_eq_true rfl), (Nat.le_of_ble_eq_true rfl), (Nat.le_of_ble_eq_true rfl), (Nat.le_of_ble_eq_true rfl)⟩ dL_any_147 (t_L_pick hX _ _ _ hS hC.tr _ _ _ _ h) rfl rfl rfl (Nat.le_of_ble_eq_true rfl) (fun r17 q18 h => ?_)
    refine a_iconst (pc := 150) hC dL_any_150 (v := 1) rfl ?_
    refine a_aload_n (pc := 151) hC dL_any_151 rfl ?_
    refine a_iload_n (pc := 152) hC dL_any_152 rfl ?_
    refine a_iconst (pc := 153) hC dL_any_153 (v := 2) rfl ?_
    refine a_iadd (pc := 154) hC dL_any_154 ?_
    refine a_bipush (pc := 155) hC dL_any_155 (v := 9) rfl ?_
    refine a_callS (pc := 157) hC hR sm_L_pick tw_664 ⟨(Nat.le_of_ble_eq_true rfl), (Nat.le_of_ble_eq_true rfl), (Nat.le_of_ble_eq_true rfl), (Nat.le_of_ble_eq_true rfl)⟩ dL_any_157 (t_L_pick hX _ _ _ hS hC.tr _ _ _ _ h) rfl rfl rfl (Nat.le_of_ble_eq_true rfl) (fun r19 q20 h => ?_)
    refine a_iadd (pc := 160) hC dL_any_160 ?_
    refine a_iconst (pc := 161) hC dL_any_161 (v := 0) rfl ?_
    refine a_callSh (pc := 162) hC hR sm_L_deed tw_672 ⟨(Nat.le_of_ble_eq_true rfl), (Nat.le_of_ble_eq_true rfl), (Nat.le_of_ble_eq_true rfl), (Nat.le_of_ble_eq_true rfl)⟩ dL_any_162 (t_L_deed hX hN hC.tr _ _ _ _ _ _ h) rfl rfl rfl (Nat.le_of_ble_eq_true rfl) (fun r21 q22 h => ?_)
    exact a_iret (pc := 165) hC hE h (Nat.le_of_ble_eq_true rfl) (Nat.le_of_ble_eq_true rfl) dL_any_165
  intro h
  refine tab_or (fun c2 => ?_) (fun c2 => ?_) h
  · intro h
    refine a_tabIn (pc := 39) (tgt := 166) hC dL_any_39 (by rw [c2]; decide) (by rw [c2]; decide) (by rw [c2]; rfl) (by decide) ?_
    refine a_aload_n (pc := 166) hC dL_any_166 rfl ?_
    refine a_iconst (pc := 167) hC dL_any_167 (v := 2) rfl ?_
    refine a_aload_n (pc := 168) hC dL_any_168 rfl ?_
    refine a_iload_n (pc := 169) hC dL_any_169 rfl ?_
    refine a_iconst (pc := 170) hC dL_any_170 (v := 1) rfl ?_
    refine a_iadd (pc := 171) hC dL_any_171 ?_
    refine a_bipush (pc := 172) hC dL_any_172 (v := 10) rfl ?_
    refine a_callS (pc := 174) hC hR sm_L_pick tw_664 ⟨(Nat.le_of_ble_eq_true rfl), (Nat.le_of_ble_eq_true rfl), (Nat.le_of_ble_eq_true rfl), (Nat.le_of_ble_eq_true rfl)⟩ dL_any_174 (t_L_pick hX _ _ _ hS hC.tr _ _ _ _ h) rfl rfl rfl (Nat.le_of_ble_eq_true rfl) (fun r23 q24 h => ?_)
    refine a_aload_n (pc := 177) hC dL_any_177 rfl ?_
    refine a_iload_n (pc := 178) hC dL_any_178 rfl ?_
    refine a_iconst (pc := 179) hC dL_any_179 (v := 2) rfl ?_
    refine a_iadd (pc := 180) hC dL_any_180 ?_
    refine a_bipush (pc := 181) hC dL_any_181 (v := 100) rfl ?_
    refine a_callS (pc := 183) hC hR sm_L_pick tw_664 ⟨(Nat.le_of_ble_eq_true rfl), (Nat.le_of_ble_eq_true rfl), (Nat.le_of_ble_eq_true rfl), (Nat.le_of_ble_eq_true rfl)⟩ dL_any_183 (t_L_pick hX _ _ _ hS hC.tr _ _ _ _ h) rfl rfl rfl (Nat.le_of_ble_eq_true rfl) (fun r25 q26 h => ?_)
    refine a_iconst (pc := 186) hC dL_any_186 (v := 0) rfl ?_
    refine a_callSh (pc := 187) hC hR sm_L_deed tw_672 ⟨(Nat.le_of_ble_eq_true rfl), (Nat.le_of_ble_eq_true rfl), (Nat.le_of_ble_eq_true rfl), (Nat.le_of_ble_eq_true rfl)⟩ dL_any_187 (t_L_deed hX hN hC.tr _ _ _ _ _ _ h) rfl rfl rfl (Nat.le_of_ble_eq_true rfl) (fun r27 q28 h => ?_)
    exact a_iret (pc := 190) hC hE h (Nat.le_of_ble_eq_true rfl) (Nat.le_of_ble_eq_true rfl) dL_any_190
  intro h
  refine tab_or (fun c3 => ?_) (fun c3 => ?_) h
  · intro h
    refine a_tabIn (pc := 39) (tgt := 191) hC dL_any_39 (by rw [c3]; decide) (by rw [c3]; decide) (by rw [c3]; rfl) (by decide) ?_
    exact (tJL_any_191 hX sa sn xs hS hN P hR hC hE _ _ _ _ h).forget ⟨rfl, rfl, rfl, rfl, rfl, trivial⟩
  intro h
  refine tab_or (fun c4 => ?_) (fun c4 => ?_) h
  · intro h
    refine a_tabIn (pc := 39) (tgt := 191) hC dL_any_39 (by rw [c4]; decide) (by rw [c4]; decide) (by rw [c4]; rfl) (by decide) ?_
    exact (tJL_any_191 hX sa sn xs hS hN P hR hC hE _ _ _ _ h).forget ⟨rfl, rfl, rfl, rfl, rfl, trivial⟩
  intro h
  refine tab_or (fun c5 => ?_) (fun c5 => ?_) h
  · intro h
    refine a_tabIn (pc := 39) (tgt := 191) hC dL_any_39 (by rw [c5]; decide) (by rw [c5]; decide) (by rw [c5]; rfl) (by decide) ?_
    exact (tJL_any_191 hX sa sn xs hS hN P hR hC hE _ _ _ _ h).forget ⟨rfl, rfl, rfl, rfl, rfl, trivial⟩
  intro h
  refine tab_or (fun c6 => ?_) (fun c6 => ?_) h
  · intro h
    refine a_tabIn (pc := 39) (tgt := 217) hC dL_any_39 (by rw [c6]; decide) (by rw [c6]; decide) (by rw [c6]; rfl) (by decide) ?_
    refine a_aload_n (pc := 217) hC dL_any_217 rfl ?_
    refine a_iconst (pc := 218) hC dL_any_218 (v := 4) rfl ?_
    refine a_aload_n (pc := 219) hC dL_any_219 rfl ?_
    refine a_iload_n (pc := 220) hC dL_any_220 rfl ?_
    refine a_iconst (pc := 221) hC dL_any_221 (v := 1) rfl ?_
    refine a_iadd (pc := 222) hC dL_any_222 ?_
    refine a_iload_n (pc := 223) hC dL_any_223 rfl ?_
    refine a_callS (pc := 224) hC hR sm_L_pick tw_664 ⟨(Nat.le_of_ble_eq_true rfl), (Nat.le_of_ble_eq_true rfl), (Nat.le_of_ble_eq_true rfl), (Nat.le_of_ble_eq_true rfl)⟩ dL_any_224 (t_L_pick hX _ _ _ hS hC.tr _ _ _ _ h) rfl rfl rfl (Nat.le_of_ble_eq_true rfl) (fun r35 q36 h => ?_)
    refine a_iconst (pc := 227) hC dL_any_227 (v := 0) rfl ?_
    refine a_iconst (pc := 228) hC dL_any_228 (v := 0) rfl ?_
    refine a_callSh (pc := 229) hC hR sm_L_deed tw_672 ⟨(Nat.le_of_ble_eq_true rfl), (Nat.le_of_ble_eq_true rfl), (Nat.le_of_ble_eq_true rfl), (Nat.le_of_ble_eq_true rfl)⟩ dL_any_229 (t_L_deed hX hN hC.tr _ _ _ _ _ _ h) rfl rfl rfl (Nat.le_of_ble_eq_true rfl) (fun r37 q38 h => ?_)
    exact a_iret (pc := 232) hC hE h (Nat.le_of_ble_eq_true rfl) (Nat.le_of_ble_eq_true rfl) dL_any_232
  intro h
  refine tab_or (fun c7 => ?_) (fun c7 => ?_) h
  · intro h
    refine a_tabIn (pc := 39) (tgt := 233) hC dL_any_39 (by rw [c7]; decide) (by rw [c7]; decide) (by rw [c7]; rfl) (by decide) ?_
    exact (tJL_any_233 hX sa sn xs hS hN P hR hC hE _ _ _ _ h).forget ⟨rfl, rfl, rfl, rfl, rfl, trivial⟩
  intro h
  refine tab_or (fun c8 => ?_) (fun c8 => ?_) h
  · intro h
    refine a_tabIn (pc := 39) (tgt := 233) hC dL_any_39 (by rw [c8]; decide) (by rw [c8]; decide) (by rw [c8]; rfl) (by decide) ?_
    exact (tJL_any_233 hX sa sn xs hS hN P hR hC hE _ _ _ _ h).forget ⟨rfl, rfl, rfl, rfl, rfl, trivial⟩
  intro h
  refine tab_or (fun c9 => ?_) (fun c9 => ?_) h
  · intro h
    refine a_tabIn (pc := 39) (tgt := 258) hC dL_any_39 (by rw [c9]; decide) (by rw [c9]; decide) (by rw [c9]; rfl) (by decide) ?_
    exact (tJL_any_258 hX sa sn xs hS hN P hR hC hE _ _ _ _ h).forget ⟨rfl, rfl, rfl, rfl, rfl, trivial⟩
  intro h
  refine tab_or (fun c10 => ?_) (fun c10 => ?_) h
  · intro h
    refine a_tabIn (pc := 39) (tgt := 258) hC dL_any_39 (by rw [c10]; decide) (by rw [c10]; decide) (by rw [c10]; rfl) (by decide) ?_
    exact (tJL_any_258 hX sa sn xs hS hN P hR hC hE _ _ _ _ h).forget ⟨rfl, rfl, rfl, rfl, rfl, trivial⟩
  intro h
  refine tab_or (fun c11 => ?_) (fun c11 => ?_) h
  · intro h
    refine a_tabIn (pc := 39) (tgt := 258) hC dL_any_39 (by rw [c11]; decide) (by rw [c11]; decide) (by rw [c11]; rfl) (by decide) ?_
    exact (tJL_any_258 hX sa sn xs hS hN P hR hC hE _ _ _ _ h).forget ⟨rfl, rfl, rfl, rfl, rfl, trivial⟩
  intro h
  refine tab_or (fun c12 => ?_) (fun c12 => ?_) h
  · intro h
    refine a_tabIn (pc := 39) (tgt := 258) hC dL_any_39 (by rw [c12]; decide) (by rw [c12]; decide) (by rw [c12]; rfl) (by decide) ?_
    exact (tJL_any_258 hX sa sn xs hS hN P hR hC hE _ _ _ _ h).forget ⟨rfl, rfl, rfl, rfl, rfl, trivial⟩
  intro h
  refine tab_or (fun c13 => ?_) (fun c13 => ?_) h
  · intro h
    refine a_tabIn (pc := 39) (tgt := 258) hC dL_any_39 (by rw [c13]; decide) (by rw [c13]; decide) (by rw [c13]; rfl) (by decide) ?_
    exact (tJL_any_258 hX sa sn xs hS hN P hR hC hE _ _ _ _ h).forget ⟨rfl, rfl, rfl, rfl, rfl, trivial⟩
  intro h
  refine tab_or (fun c14 => ?_) (fun c14 => ?_) h
  · intro h
    refine a_tabIn (pc := 39) (tgt := 292) hC dL_any_39 (by rw [c14]; decide) (by rw [c14]; decide) (by rw [c14]; rfl) (by decide) ?_
    refine a_aload_n (pc := 292) hC dL_any_292 rfl ?_
    refine a_bipush (pc := 293) hC dL_any_293 (v := 7) rfl ?_
    refine a_aload_n (pc := 295) hC dL_any_295 rfl ?_
    refine a_iload_n (pc := 296) hC dL_any_296 rfl ?_
    refine a_iconst (pc := 297) hC dL_any_297 (v := 1) rfl ?_
    refine a_iadd (pc := 298) hC dL_any_298 ?_
    refine a_iload_n (pc := 299) hC dL_any_299 rfl ?_
    refine a_callS (pc := 300) hC hR sm_L_pick tw_664 ⟨(Nat.le_of_ble_eq_true rfl), (Nat.le_of_ble_eq_true rfl), (Nat.le_of_ble_eq_true rfl), (Nat.le_of_ble_eq_true rfl)⟩ dL_any_300 (t_L_pick hX _ _ _ hS hC.tr _ _ _ _ h) rfl rfl rfl (Nat.le_of_ble_eq_true rfl) (fun r53 q54 h => ?_)
    refine a_aload_n (pc := 303) hC dL_any_303 rfl ?_
    refine a_iload_n (pc := 304) hC dL_any_304 rfl ?_
    refine a_iconst (pc := 305) hC dL_any_305 (v := 2) rfl ?_
    refine a_iadd (pc := 306) hC dL_any_306 ?_
    refine a_iload (pc := 307) hC dL_any_307 rfl ?_
    refine a_callS (pc := 309) hC hR sm_L_pick tw_664 ⟨(Nat.le_of_ble_eq_true rfl), (Nat.le_of_ble_eq_true rfl), (Nat.le_of_ble_eq_true rfl), (Nat.le_of_ble_eq_true rfl)⟩ dL_any_309 (t_L_pick hX _ _ _ hS hC.tr _ _ _ _ h) rfl rfl rfl (Nat.le_of_ble_eq_true rfl) (fun r55 q56 h => ?_)
    refine a_iconst (pc := 312) hC dL_any_312 (v := 0) rfl ?_
    refine a_callSh (pc := 313) hC hR sm_L_deed tw_672 ⟨(Nat.le_of_ble_eq_true rfl), (Nat.le_of_ble_eq_true rfl), (Nat.le_of_ble_eq_true rfl), (Nat.le_of_ble_eq_true rfl)⟩ dL_any_313 (t_L_deed hX hN hC.tr _ _ _ _ _ _ h) rfl rfl rfl (Nat.le_of_ble_eq_true rfl) (fun r57 q58 h => ?_)
    exact a_iret (pc := 316) hC hE h (Nat.le_of_ble_eq_true rfl) (Nat.le_of_ble_eq_true rfl) dL_any_316
  intro h
  refine tab_or (fun c15 => ?_) (fun c15 => ?_) h
  · intro h
    refine a_tabIn (pc := 39) (tgt := 317) hC dL_any_39 (by rw [c15]; decide) (by rw [c15]; decide) (by rw [c15]; rfl) (by decide) ?_
    refine a_aload_n (pc := 317) hC dL_any_317 rfl ?_
    refine a_bipush (pc := 318) hC dL_any_318 (v := 9) rfl ?_
    refine a_iconst (pc := 320) hC dL_any_320 (v := 0) rfl ?_
    refine a_iconst (pc := 321) hC dL_any_321 (v := 0) rfl ?_
    refine a_iconst (pc := 322) hC dL_any_322 (v := 0) rfl ?_
    refine a_callSh (pc := 323) hC hR sm_L_deed tw_672 ⟨(Nat.le_of_ble_eq_true rfl), (Nat.le_of_ble_eq_true rfl), (Nat.le_of_ble_eq_true rfl), (Nat.le_of_ble_eq_true rfl)⟩ dL_any_323 (t_L_deed hX hN hC.tr _ _ _ _ _ _ h) rfl rfl rfl (Nat.le_of_ble_eq_true rfl) (fun r59 q60 h => ?_)
    exact a_iret (pc := 326) hC hE h (Nat.le_of_ble_eq_true rfl) (Nat.le_of_ble_eq_true rfl) dL_any_326
  intro h
  refine tab_or (fun c16 => ?_) (fun c16 => ?_) h
  · intro h
    refine a_tabIn (pc := 39) (tgt := 317) hC dL_any_39 (by rw [c16]; decide) (by rw [c16]; decide) (by rw [c16]; rfl) (by decide) ?_
    refine a_aload_n (pc := 317) hC dL_any_317 rfl ?_
    refine a_bipush (pc := 318) hC dL_any_318 (v := 9) rfl ?_
    refine a_iconst (pc := 320) hC dL_any_320 (v := 0) rfl ?_
    refine a_iconst (pc := 321) hC dL_any_321 (v := 0) rfl ?_
    refine a_iconst (pc := 322) hC dL_any_322 (v := 0) rfl ?_
    refine a_callSh (pc := 323) hC hR sm_L_deed tw_672 ⟨(Nat.le_of_ble_eq_true rfl), (Nat.le_of_ble_eq_true rfl), (Nat.le_of_ble_eq_true rfl), (Nat.le_of_ble_eq_true rfl)⟩ dL_any_323 (t_L_deed hX hN hC.tr _ _ _ _ _ _ h) rfl rfl rfl (Nat.le_of_ble_eq_true rfl) (fun r61 q62 h => ?_)
    exact a_iret (pc := 326) hC hE h (Nat.le_of_ble_eq_true rfl) (Nat.le_of_ble_eq_true rfl) dL_any_326
  intro h
  refine a_tabOut (pc := 39) (tgt := 327) hC dL_any_39 (by have e0 := tab_ne (z := 0) rfl c0; have e1 := tab_ne (z := 1) rfl c1; have e2 := tab_ne (z := 2) rfl c2; have e3 := tab_ne (z := 3) rfl c3; have e4 := tab_ne (z := 4) rfl c4; have e5 := tab_ne (z := 5) rfl c5; have e6 := tab_ne (z := 6) rfl c6; have e7 := tab_ne (z := 7) rfl c7; have e8 := tab_ne (z := 8) rfl c8; have e9 := tab_ne (z := 9) rfl c9; have e10 := tab_ne (z := 10) rfl c10; have e11 := tab_ne (z := 11) rfl c11; have e12 := tab_ne (z := 12) rfl c12; have e13 := tab_ne (z := 13) rfl c13; have e14 := tab_ne (z := 14) rfl c14; have e15 := tab_ne (z := 15) rfl c15; have e16 := tab_ne (z := 16) rfl c16; omega) (by decide) ?_
  refine a_aload_n (pc := 327) hC dL_any_327 rfl ?_
  refine a_bipush (pc := 328) hC dL_any_328 (v := 8) rfl ?_
  refine a_aload_n (pc := 330) hC dL_any_330 rfl ?_
  refine a_iload_n (pc := 331) hC dL_any_331 rfl ?_
  refine a_iconst (pc := 332) hC dL_any_332 (v := 1) rfl ?_
  refine a_iadd (pc := 333) hC dL_any_333 ?_
  refine a_iload_n (pc := 334) hC dL_any_334 rfl ?_
  refine a_callS (pc := 335) hC hR sm_L_pick tw_664 ⟨(Nat.le_of_ble_eq_true rfl), (Nat.le_of_ble_eq_true rfl), (Nat.le_of_ble_eq_true rfl), (Nat.le_of_ble_eq_true rfl)⟩ dL_any_335 (t_L_pick hX _ _ _ hS hC.tr _ _ _ _ h) rfl rfl rfl (Nat.le_of_ble_eq_true rfl) (fun r63 q64 h => ?_)
  refine a_iconst (pc := 338) hC dL_any_338 (v := 0) rfl ?_
  refine a_iconst (pc := 339) hC dL_any_339 (v := 0) rfl ?_
  refine a_callSh (pc := 340) hC hR sm_L_deed tw_672 ⟨(Nat.le_of_ble_eq_true rfl), (Nat.le_of_ble_eq_true rfl), (Nat.le_of_ble_eq_true rfl), (Nat.le_of_ble_eq_true rfl)⟩ dL_any_340 (t_L_deed hX hN hC.tr _ _ _ _ _ _ h) rfl rfl rfl (Nat.le_of_ble_eq_true rfl) (fun r65 q66 h => ?_)
  exact a_iret (pc := 343) hC hE h (Nat.le_of_ble_eq_true rfl) (Nat.le_of_ble_eq_true rfl) dL_any_343
