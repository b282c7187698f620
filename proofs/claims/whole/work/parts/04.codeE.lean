theorem dM_value_0 : decode cM_value 0 = .ok (.aload_n 0, 1) := by decide +kernel
theorem dM_value_1 : decode cM_value 1 = .ok (.aload_n 0, 1) := by decide +kernel
theorem dM_value_2 : decode cM_value 2 = .ok (.getfield 72, 3) := by decide +kernel
theorem dM_value_5 : decode cM_value 5 = .ok (.putfield 111, 3) := by decide +kernel
theorem dM_value_8 : decode cM_value 8 = .ok (.iconst 0, 1) := by decide +kernel
theorem dM_value_9 : decode cM_value 9 = .ok (.istore_n 1, 1) := by decide +kernel
theorem dM_value_10 : decode cM_value 10 = .ok (.iload_n 1, 1) := by decide +kernel
theorem dM_value_11 : decode cM_value 11 = .ok (.aload_n 0, 1) := by decide +kernel
theorem dM_value_12 : decode cM_value 12 = .ok (.getfield 72, 3) := by decide +kernel
theorem dM_value_15 : decode cM_value 15 = .ok (.if_icmp .ge 21, 3) := by decide +kernel
theorem dM_value_18 : decode cM_value 18 = .ok (.aload_n 0, 1) := by decide +kernel
theorem dM_value_19 : decode cM_value 19 = .ok (.getfield 13, 3) := by decide +kernel
theorem dM_value_22 : decode cM_value 22 = .ok (.iload_n 1, 1) := by decide +kernel
theorem dM_value_23 : decode cM_value 23 = .ok (.aload_n 0, 1) := by decide +kernel
theorem dM_value_24 : decode cM_value 24 = .ok (.getfield 7, 3) := by decide +kernel
theorem dM_value_27 : decode cM_value 27 = .ok (.iload_n 1, 1) := by decide +kernel
theorem dM_value_28 : decode cM_value 28 = .ok (.iaload, 1) := by decide +kernel
theorem dM_value_29 : decode cM_value 29 = .ok (.iastore, 1) := by decide +kernel
theorem dM_value_30 : decode cM_value 30 = .ok (.iinc 1 1, 3) := by decide +kernel
theorem dM_value_33 : decode cM_value 33 = .ok (.goto (-23), 3) := by decide +kernel
theorem dM_value_36 : decode cM_value 36 = .ok (.aload_n 0, 1) := by decide +kernel
theorem dM_value_37 : decode cM_value 37 = .ok (.iconst 0, 1) := by decide +kernel
theorem dM_value_38 : decode cM_value 38 = .ok (.putfield 72, 3) := by decide +kernel
theorem dM_value_41 : decode cM_value 41 = .ok (.aload_n 0, 1) := by decide +kernel
theorem dM_value_42 : decode cM_value 42 = .ok (.iconst 0, 1) := by decide +kernel
theorem dM_value_43 : decode cM_value 43 = .ok (.putfield 108, 3) := by decide +kernel
theorem dM_value_46 : decode cM_value 46 = .ok (.aload_n 0, 1) := by decide +kernel
theorem dM_value_47 : decode cM_value 47 = .ok (.iconst 0, 1) := by decide +kernel
theorem dM_value_48 : decode cM_value 48 = .ok (.putfield 124, 3) := by decide +kernel
theorem dM_value_51 : decode cM_value 51 = .ok (.aload_n 0, 1) := by decide +kernel
theorem dM_value_52 : decode cM_value 52 = .ok (.iconst 0, 1) := by decide +kernel
theorem dM_value_53 : decode cM_value 53 = .ok (.putfield 114, 3) := by decide +kernel
theorem dM_value_56 : decode cM_value 56 = .ok (.aload_n 0, 1) := by decide +kernel
theorem dM_value_57 : decode cM_value 57 = .ok (.iconst 0, 1) := by decide +kernel
theorem dM_value_58 : decode cM_value 58 = .ok (.putfield 121, 3) := by decide +kernel
theorem dM_value_61 : decode cM_value 61 = .ok (.aload_n 0, 1) := by decide +kernel
theorem dM_value_62 : decode cM_value 62 = .ok (.iconst 0, 1) := by decide +kernel
theorem dM_value_63 : decode cM_value 63 = .ok (.putfield 102, 3) := by decide +kernel
theorem dM_value_66 : decode cM_value 66 = .ok (.aload_n 0, 1) := by decide +kernel
theorem dM_value_67 : decode cM_value 67 = .ok (.invokevirtual 127, 3) := by decide +kernel
theorem dM_value_70 : decode cM_value 70 = .ok (.ifCond .lt 7, 3) := by decide +kernel
theorem dM_value_73 : decode cM_value 73 = .ok (.iconst 1, 1) := by decide +kernel
theorem dM_value_74 : decode cM_value 74 = .ok (.goto 4, 3) := by decide +kernel
theorem dM_value_77 : decode cM_value 77 = .ok (.iconst 0, 1) := by decide +kernel
theorem dM_value_78 : decode cM_value 78 = .ok (.istore_n 1, 1) := by decide +kernel
theorem dM_value_79 : decode cM_value 79 = .ok (.iload_n 1, 1) := by decide +kernel
theorem dM_value_80 : decode cM_value 80 = .ok (.ifCond .eq 36, 3) := by decide +kernel
theorem dM_value_83 : decode cM_value 83 = .ok (.aload_n 0, 1) := by decide +kernel
theorem dM_value_84 : decode cM_value 84 = .ok (.iconst 0, 1) := by decide +kernel
theorem dM_value_85 : decode cM_value 85 = .ok (.iconst 1, 1) := by decide +kernel
theorem dM_value_86 : decode cM_value 86 = .ok (.invokevirtual 143, 3) := by decide +kernel
theorem dM_value_89 : decode cM_value 89 = .ok (.aload_n 0, 1) := by decide +kernel
theorem dM_value_90 : decode cM_value 90 = .ok (.invokevirtual 187, 3) := by decide +kernel
theorem dM_value_93 : decode cM_value 93 = .ok (.aload_n 0, 1) := by decide +kernel
theorem dM_value_94 : decode cM_value 94 = .ok (.aload_n 0, 1) := by decide +kernel
theorem dM_value_95 : decode cM_value 95 = .ok (.getfield 102, 3) := by decide +kernel
theorem dM_value_98 : decode cM_value 98 = .ok (.ifCond .ne 10, 3) := by decide +kernel
theorem dM_value_101 : decode cM_value 101 = .ok (.aload_n 0, 1) := by decide +kernel
theorem dM_value_102 : decode cM_value 102 = .ok (.invokevirtual 127, 3) := by decide +kernel
theorem dM_value_105 : decode cM_value 105 = .ok (.ifCond .lt 7, 3) := by decide +kernel
theorem dM_value_108 : decode cM_value 108 = .ok (.iconst 1, 1) := by decide +kernel
theorem dM_value_109 : decode cM_value 109 = .ok (.goto 4, 3) := by decide +kernel
theorem dM_value_112 : decode cM_value 112 = .ok (.iconst 0, 1) := by decide +kernel
theorem dM_value_113 : decode cM_value 113 = .ok (.putfield 102, 3) := by decide +kernel
theorem dM_value_116 : decode cM_value 116 = .ok (.aload_n 0, 1) := by decide +kernel
theorem dM_value_117 : decode cM_value 117 = .ok (.dup, 1) := by decide +kernel
theorem dM_value_118 : decode cM_value 118 = .ok (.getfield 190, 3) := by decide +kernel
theorem dM_value_121 : decode cM_value 121 = .ok (.aload_n 0, 1) := by decide +kernel
theorem dM_value_122 : decode cM_value 122 = .ok (.getfield 102, 3) := by decide +kernel
theorem dM_value_125 : decode cM_value 125 = .ok (.ifCond .eq 7, 3) := by decide +kernel
theorem dM_value_128 : decode cM_value 128 = .ok (.iconst 0, 1) := by decide +kernel
theorem dM_value_129 : decode cM_value 129 = .ok (.goto 4, 3) := by decide +kernel
theorem dM_value_132 : decode cM_value 132 = .ok (.iconst 1, 1) := by decide +kernel
theorem dM_value_133 : decode cM_value 133 = .ok (.iadd, 1) := by decide +kernel
theorem dM_value_134 : decode cM_value 134 = .ok (.putfield 190, 3) := by decide +kernel
theorem dM_value_137 : decode cM_value 137 = .ok (.aload_n 0, 1) := by decide +kernel
theorem dM_value_138 : decode cM_value 138 = .ok (.dup, 1) := by decide +kernel
theorem dM_value_139 : decode cM_value 139 = .ok (.getfield 193, 3) := by decide +kernel
theorem dM_value_142 : decode cM_value 142 = .ok (.aload_n 0, 1) := by decide +kernel
theorem dM_value_143 : decode cM_value 143 = .ok (.getfield 102, 3) := by decide +kernel
theorem dM_value_146 : decode cM_value 146 = .ok (.ifCond .eq 7, 3) := by decide +kernel
theorem dM_value_149 : decode cM_value 149 = .ok (.iconst 1, 1) := by decide +kernel
theorem dM_value_150 : decode cM_value 150 = .ok (.goto 4, 3) := by decide +kernel
theorem dM_value_153 : decode cM_value 153 = .ok (.iconst 0, 1) := by decide +kernel
theorem dM_value_154 : decode cM_value 154 = .ok (.iadd, 1) := by decide +kernel
theorem dM_value_155 : decode cM_value 155 = .ok (.putfield 193, 3) := by decide +kernel
theorem dM_value_158 : decode cM_value 158 = .ok (.aload_n 0, 1) := by decide +kernel
theorem dM_value_159 : decode cM_value 159 = .ok (.aload_n 0, 1) := by decide +kernel
theorem dM_value_160 : decode cM_value 160 = .ok (.getfield 102, 3) := by decide +kernel
theorem dM_value_163 : decode cM_value 163 = .ok (.ifCond .eq 7, 3) := by decide +kernel
theorem dM_value_166 : decode cM_value 166 = .ok (.iconst 1, 1) := by decide +kernel
theorem dM_value_167 : decode cM_value 167 = .ok (.goto 4, 3) := by decide +kernel
theorem dM_value_170 : decode cM_value 170 = .ok (.iconst 0, 1) := by decide +kernel
theorem dM_value_171 : decode cM_value 171 = .ok (.putfield 55, 3) := by decide +kernel
theorem dM_value_174 : decode cM_value 174 = .ok (.aload_n 0, 1) := by decide +kernel
theorem dM_value_175 : decode cM_value 175 = .ok (.getfield 102, 3) := by decide +kernel
theorem dM_value_178 : decode cM_value 178 = .ok (.ifCond .ne 7, 3) := by decide +kernel
theorem dM_value_181 : decode cM_value 181 = .ok (.iload_n 1, 1) := by decide +kernel
theorem dM_value_182 : decode cM_value 182 = .ok (.ifCond .ne 7, 3) := by decide +kernel
theorem dM_value_185 : decode cM_value 185 = .ok (.lconst 0, 1) := by decide +kernel
theorem dM_value_186 : decode cM_value 186 = .ok (.goto 7, 3) := by decide +kernel
theorem dM_value_189 : decode cM_value 189 = .ok (.aload_n 0, 1) := by decide +kernel
theorem dM_value_190 : decode cM_value 190 = .ok (.invokevirtual 147, 3) := by decide +kernel
theorem dM_value_193 : decode cM_value 193 = .ok (.lreturn, 1) := by decide +kernel
theorem dM_go_0 : decode cM_go 0 = .ok (.aload_n 0, 1) := by decide +kernel
theorem dM_go_1 : decode cM_go 1 = .ok (.getfield 114, 3) := by decide +kernel
theorem dM_go_4 : decode cM_go 4 = .ok (.ifCond .le 540, 3) := by decide +kernel
theorem dM_go_7 : decode cM_go 7 = .ok (.aload_n 0, 1) := by decide +kernel
theorem dM_go_8 : decode cM_go 8 = .ok (.getfield 102, 3) := by decide +kernel
theorem dM_go_11 : decode cM_go 11 = .ok (.ifCond .ne 533, 3) := by decide +kernel
theorem dM_go_14 : decode cM_go 14 = .ok (.aload_n 0, 1) := by decide +kernel
theorem dM_go_15 : decode cM_go 15 = .ok (.dup, 1) := by decide +kernel
theorem dM_go_16 : decode cM_go 16 = .ok (.getfield 114, 3) := by decide +kernel
theorem dM_go_19 : decode cM_go 19 = .ok (.iconst 1, 1) := by decide +kernel
theorem dM_go_20 : decode cM_go 20 = .ok (.isub, 1) := by decide +kernel
theorem dM_go_21 : decode cM_go 21 = .ok (.putfield 114, 3) := by decide +kernel
theorem dM_go_24 : decode cM_go 24 = .ok (.aload_n 0, 1) := by decide +kernel
theorem dM_go_25 : decode cM_go 25 = .ok (.getfield 25, 3) := by decide +kernel
theorem dM_go_28 : decode cM_go 28 = .ok (.aload_n 0, 1) := by decide +kernel
theorem dM_go_29 : decode cM_go 29 = .ok (.getfield 114, 3) := by decide +kernel
theorem dM_go_32 : decode cM_go 32 = .ok (.baload, 1) := by decide +kernel
theorem dM_go_33 : decode cM_go 33 = .ok (.istore_n 1, 1) := by decide +kernel
theorem dM_go_34 : decode cM_go 34 = .ok (.aload_n 0, 1) := by decide +kernel
theorem dM_go_35 : decode cM_go 35 = .ok (.getfield 19, 3) := by decide +kernel
theorem dM_go_38 : decode cM_go 38 = .ok (.aload_n 0, 1) := by decide +kernel
theorem dM_go_39 : decode cM_go 39 = .ok (.getfield 114, 3) := by decide +kernel
theorem dM_go_42 : decode cM_go 42 = .ok (.iaload, 1) := by decide +kernel
theorem dM_go_43 : decode cM_go 43 = .ok (.istore_n 2, 1) := by decide +kernel
theorem dM_go_44 : decode cM_go 44 = .ok (.aload_n 0, 1) := by decide +kernel
theorem dM_go_45 : decode cM_go 45 = .ok (.getfield 22, 3) := by decide +kernel
theorem dM_go_48 : decode cM_go 48 = .ok (.aload_n 0, 1) := by decide +kernel
theorem dM_go_49 : decode cM_go 49 = .ok (.getfield 114, 3) := by decide +kernel
theorem dM_go_52 : decode cM_go 52 = .ok (.iaload, 1) := by decide +kernel
theorem dM_go_53 : decode cM_go 53 = .ok (.istore_n 3, 1) := by decide +kernel
theorem dM_go_54 : decode cM_go 54 = .ok (.aload_n 0, 1) := by decide +kernel
theorem dM_go_55 : decode cM_go 55 = .ok (.getfield 29, 3) := by decide +kernel
theorem dM_go_58 : decode cM_go 58 = .ok (.aload_n 0, 1) := by decide +kernel
theorem dM_go_59 : decode cM_go 59 = .ok (.getfield 114, 3) := by decide +kernel
theorem dM_go_62 : decode cM_go 62 = .ok (.laload, 1) := by decide +kernel
theorem dM_go_63 : decode cM_go 63 = .ok (.lstore 4, 2) := by decide +kernel
theorem dM_go_65 : decode cM_go 65 = .ok (.aload_n 0, 1) := by decide +kernel
theorem dM_go_66 : decode cM_go 66 = .ok (.getfield 16, 3) := by decide +kernel
theorem dM_go_69 : decode cM_go 69 = .ok (.aload_n 0, 1) := by decide +kernel
theorem dM_go_70 : decode cM_go 70 = .ok (.getfield 114, 3) := by decide +kernel
theorem dM_go_73 : decode cM_go 73 = .ok (.iaload, 1) := by decide +kernel
theorem dM_go_74 : decode cM_go 74 = .ok (.tableswitch 457 0 9 #[54, 62, 138, 227, 262, 281, 290, 328, 336, 409], 54) := by decide +kernel
theorem dM_go_128 : decode cM_go 128 = .ok (.aload_n 0, 1) := by decide +kernel
theorem dM_go_129 : decode cM_go 129 = .ok (.iload_n 1, 1) := by decide +kernel
theorem dM_go_130 : decode cM_go 130 = .ok (.invokevirtual 170, 3) := by decide +kernel
theorem dM_go_133 : decode cM_go 133 = .ok (.goto 408, 3) := by decide +kernel
theorem dM_go_136 : decode cM_go 136 = .ok (.aload_n 0, 1) := by decide +kernel
theorem dM_go_137 : decode cM_go 137 = .ok (.invokevirtual 127, 3) := by decide +kernel
theorem dM_go_140 : decode cM_go 140 = .ok (.bipush 63, 2) := by decide +kernel
theorem dM_go_142 : decode cM_go 142 = .ok (.if_icmp .eq 6, 3) := by decide +kernel
theorem dM_go_145 : decode cM_go 145 = .ok (.goto 396, 3) := by decide +kernel
theorem dM_go_148 : decode cM_go 148 = .ok (.aload_n 0, 1) := by decide +kernel
theorem dM_go_149 : decode cM_go 149 = .ok (.dup, 1) := by decide +kernel
theorem dM_go_150 : decode cM_go 150 = .ok (.getfield 108, 3) := by decide +kernel
theorem dM_go_153 : decode cM_go 153 = .ok (.iconst 1, 1) := by decide +kernel
theorem dM_go_154 : decode cM_go 154 = .ok (.iadd, 1) := by decide +kernel
theorem dM_go_155 : decode cM_go 155 = .ok (.putfield 108, 3) := by decide +kernel
theorem dM_go_158 : decode cM_go 158 = .ok (.aload_n 0, 1) := by decide +kernel
theorem dM_go_159 : decode cM_go 159 = .ok (.invokevirtual 140, 3) := by decide +kernel
theorem dM_go_162 : decode cM_go 162 = .ok (.aload_n 0, 1) := by decide +kernel
theorem dM_go_163 : decode cM_go 163 = .ok (.invokevirtual 147, 3) := by decide +kernel
theorem dM_go_166 : decode cM_go 166 = .ok (.lstore 6, 2) := by decide +kernel
theorem dM_go_168 : decode cM_go 168 = .ok (.aload_n 0, 1) := by decide +kernel
theorem dM_go_169 : decode cM_go 169 = .ok (.iconst 2, 1) := by decide +kernel
theorem dM_go_170 : decode cM_go 170 = .ok (.iload_n 1, 1) := by decide +kernel
theorem dM_go_171 : decode cM_go 171 = .ok (.lload 6, 2) := by decide +kernel
theorem dM_go_173 : decode cM_go 173 = .ok (.lconst 0, 1) := by decide +kernel
theorem dM_go_174 : decode cM_go 174 = .ok (.lcmp, 1) := by decide +kernel
theorem dM_go_175 : decode cM_go 175 = .ok (.ifCond .eq 7, 3) := by decide +kernel
theorem dM_go_178 : decode cM_go 178 = .ok (.iconst 1, 1) := by decide +kernel
theorem dM_go_179 : decode cM_go 179 = .ok (.goto 4, 3) := by decide +kernel
theorem dM_go_182 : decode cM_go 182 = .ok (.iconst 0, 1) := by decide +kernel
theorem dM_go_183 : decode cM_go 183 = .ok (.iconst 0, 1) := by decide +kernel
theorem dM_go_184 : decode cM_go 184 = .ok (.lconst 0, 1) := by decide +kernel
theorem dM_go_185 : decode cM_go 185 = .ok (.invokevirtual 117, 3) := by decide +kernel
theorem dM_go_188 : decode cM_go 188 = .ok (.aload_n 0, 1) := by decide +kernel
theorem dM_go_189 : decode cM_go 189 = .ok (.iconst 0, 1) := by decide +kernel
theorem dM_go_190 : decode cM_go 190 = .ok (.iload_n 1, 1) := by decide +kernel
theorem dM_go_191 : decode cM_go 191 = .ok (.ifCond .eq 14, 3) := by decide +kernel
theorem dM_go_194 : decode cM_go 194 = .ok (.lload 6, 2) := by decide +kernel
theorem dM_go_196 : decode cM_go 196 = .ok (.lconst 0, 1) := by decide +kernel
theorem dM_go_197 : decode cM_go 197 = .ok (.lcmp, 1) := by decide +kernel
theorem dM_go_198 : decode cM_go 198 = .ok (.ifCond .eq 7, 3) := by decide +kernel
theorem dM_go_201 : decode cM_go 201 = .ok (.iconst 1, 1) := by decide +kernel
theorem dM_go_202 : decode cM_go 202 = .ok (.goto 4, 3) := by decide +kernel
theorem dM_go_205 : decode cM_go 205 = .ok (.iconst 0, 1) := by decide +kernel
theorem dM_go_206 : decode cM_go 206 = .ok (.invokevirtual 143, 3) := by decide +kernel
theorem dM_go_209 : decode cM_go 209 = .ok (.goto 332, 3) := by decide +kernel
theorem dM_go_212 : decode cM_go 212 = .ok (.aload_n 0, 1) := by decide +kernel
theorem dM_go_213 : decode cM_go 213 = .ok (.aload_n 0, 1) := by decide +kernel
theorem dM_go_214 : decode cM_go 214 = .ok (.getfield 102, 3) := by decide +kernel
theorem dM_go_217 : decode cM_go 217 = .ok (.ifCond .ne 12, 3) := by decide +kernel
theorem dM_go_220 : decode cM_go 220 = .ok (.aload_n 0, 1) := by decide +kernel
theorem dM_go_221 : decode cM_go 221 = .ok (.invokevirtual 127, 3) := by decide +kernel
theorem dM_go_224 : decode cM_go 224 = .ok (.bipush 58, 2) := by decide +kernel
theorem dM_go_226 : decode cM_go 226 = .ok (.if_icmp .eq 7, 3) := by decide +kernel
theorem dM_go_229 : decode cM_go 229 = .ok (.iconst 1, 1) := by decide +kernel
theorem dM_go_230 : decode cM_go 230 = .ok (.goto 4, 3) := by decide +kernel
theorem dM_go_233 : decode cM_go 233 = .ok (.iconst 0, 1) := by decide +kernel
theorem dM_go_234 : decode cM_go 234 = .ok (.putfield 102, 3) := by decide +kernel
theorem dM_go_237 : decode cM_go 237 = .ok (.aload_n 0, 1) := by decide +kernel
theorem dM_go_238 : decode cM_go 238 = .ok (.dup, 1) := by decide +kernel
theorem dM_go_239 : decode cM_go 239 = .ok (.getfield 108, 3) := by decide +kernel
theorem dM_go_242 : decode cM_go 242 = .ok (.iconst 1, 1) := by decide +kernel
theorem dM_go_243 : decode cM_go 243 = .ok (.iadd, 1) := by decide +kernel
theorem dM_go_244 : decode cM_go 244 = .ok (.putfield 108, 3) := by decide +kernel
theorem dM_go_247 : decode cM_go 247 = .ok (.aload_n 0, 1) := by decide +kernel
theorem dM_go_248 : decode cM_go 248 = .ok (.iconst 3, 1) := by decide +kernel
theorem dM_go_249 : decode cM_go 249 = .ok (.iload_n 1, 1) := by decide +kernel
theorem dM_go_250 : decode cM_go 250 = .ok (.iload_n 2, 1) := by decide +kernel
theorem dM_go_251 : decode cM_go 251 = .ok (.iconst 0, 1) := by decide +kernel
theorem dM_go_252 : decode cM_go 252 = .ok (.aload_n 0, 1) := by decide +kernel
theorem dM_go_253 : decode cM_go 253 = .ok (.invokevirtual 147, 3) := by decide +kernel
theorem dM_go_256 : decode cM_go 256 = .ok (.invokevirtual 117, 3) := by decide +kernel
theorem dM_go_259 : decode cM_go 259 = .ok (.aload_n 0, 1) := by decide +kernel
theorem dM_go_260 : decode cM_go 260 = .ok (.iconst 1, 1) := by decide +kernel
theorem dM_go_261 : decode cM_go 261 = .ok (.iload_n 1, 1) := by decide +kernel
theorem dM_go_262 : decode cM_go 262 = .ok (.ifCond .eq 11, 3) := by decide +kernel
theorem dM_go_265 : decode cM_go 265 = .ok (.iload_n 2, 1) := by decide +kernel
theorem dM_go_266 : decode cM_go 266 = .ok (.ifCond .ne 7, 3) := by decide +kernel
theorem dM_go_269 : decode cM_go 269 = .ok (.iconst 1, 1) := by decide +kernel
theorem dM_go_270 : decode cM_go 270 = .ok (.goto 4, 3) := by decide +kernel
theorem dM_go_273 : decode cM_go 273 = .ok (.iconst 0, 1) := by decide +kernel
theorem dM_go_274 : decode cM_go 274 = .ok (.invokevirtual 143, 3) := by decide +kernel
theorem dM_go_277 : decode cM_go 277 = .ok (.aload_n 0, 1) := by decide +kernel
theorem dM_go_278 : decode cM_go 278 = .ok (.iconst 4, 1) := by decide +kernel
theorem dM_go_279 : decode cM_go 279 = .ok (.iload_n 1, 1) := by decide +kernel
theorem dM_go_280 : decode cM_go 280 = .ok (.ifCond .eq 11, 3) := by decide +kernel
theorem dM_go_283 : decode cM_go 283 = .ok (.iload_n 2, 1) := by decide +kernel
theorem dM_go_284 : decode cM_go 284 = .ok (.ifCond .ne 7, 3) := by decide +kernel
theorem dM_go_287 : decode cM_go 287 = .ok (.iconst 1, 1) := by decide +kernel
theorem dM_go_288 : decode cM_go 288 = .ok (.goto 4, 3) := by decide +kernel
theorem dM_go_291 : decode cM_go 291 = .ok (.iconst 0, 1) := by decide +kernel
theorem dM_go_292 : decode cM_go 292 = .ok (.iconst 1, 1) := by decide +kernel
theorem dM_go_293 : decode cM_go 293 = .ok (.iconst 0, 1) := by decide +kernel
theorem dM_go_294 : decode cM_go 294 = .ok (.lconst 0, 1) := by decide +kernel
theorem dM_go_295 : decode cM_go 295 = .ok (.invokevirtual 117, 3) := by decide +kernel
theorem dM_go_298 : decode cM_go 298 = .ok (.goto 243, 3) := by decide +kernel
theorem dM_go_301 : decode cM_go 301 = .ok (.aload_n 0, 1) := by decide +kernel
theorem dM_go_302 : decode cM_go 302 = .ok (.dup, 1) := by decide +kernel
theorem dM_go_303 : decode cM_go 303 = .ok (.getfield 124, 3) := by decide +kernel
theorem dM_go_306 : decode cM_go 306 = .ok (.iconst 1, 1) := by decide +kernel
theorem dM_go_307 : decode cM_go 307 = .ok (.isub, 1) := by decide +kernel
theorem dM_go_308 : decode cM_go 308 = .ok (.putfield 124, 3) := by decide +kernel
theorem dM_go_311 : decode cM_go 311 = .ok (.aload_n 0, 1) := by decide +kernel
theorem dM_go_312 : decode cM_go 312 = .ok (.invokevirtual 147, 3) := by decide +kernel
theorem dM_go_315 : decode cM_go 315 = .ok (.lstore 8, 2) := by decide +kernel
theorem dM_go_317 : decode cM_go 317 = .ok (.aload_n 0, 1) := by decide +kernel
theorem dM_go_318 : decode cM_go 318 = .ok (.iload_n 2, 1) := by decide +kernel
theorem dM_go_319 : decode cM_go 319 = .ok (.iconst 1, 1) := by decide +kernel
theorem dM_go_320 : decode cM_go 320 = .ok (.if_icmp .ne 8, 3) := by decide +kernel
theorem dM_go_323 : decode cM_go 323 = .ok (.lload 4, 2) := by decide +kernel
theorem dM_go_325 : decode cM_go 325 = .ok (.goto 5, 3) := by decide +kernel
theorem dM_go_328 : decode cM_go 328 = .ok (.lload 8, 2) := by decide +kernel
theorem dM_go_330 : decode cM_go 330 = .ok (.invokevirtual 163, 3) := by decide +kernel
theorem dM_go_333 : decode cM_go 333 = .ok (.goto 208, 3) := by decide +kernel
theorem dM_go_336 : decode cM_go 336 = .ok (.aload_n 0, 1) := by decide +kernel
theorem dM_go_337 : decode cM_go 337 = .ok (.iconst 5, 1) := by decide +kernel
theorem dM_go_338 : decode cM_go 338 = .ok (.iload_n 1, 1) := by decide +kernel
theorem dM_go_339 : decode cM_go 339 = .ok (.iload_n 2, 1) := by decide +kernel
theorem dM_go_340 : decode cM_go 340 = .ok (.iconst 0, 1) := by decide +kernel
theorem dM_go_341 : decode cM_go 341 = .ok (.lconst 0, 1) := by decide +kernel
theorem dM_go_342 : decode cM_go 342 = .ok (.invokevirtual 117, 3) := by decide +kernel
theorem dM_go_345 : decode cM_go 345 = .ok (.aload_n 0, 1) := by decide +kernel
theorem dM_go_346 : decode cM_go 346 = .ok (.bipush 7, 2) := by decide +kernel
theorem dM_go_348 : decode cM_go 348 = .ok (.iload_n 1, 1) := by decide +kernel
theorem dM_go_349 : decode cM_go 349 = .ok (.invokevirtual 143, 3) := by decide +kernel
theorem dM_go_352 : decode cM_go 352 = .ok (.goto 189, 3) := by decide +kernel
theorem dM_go_355 : decode cM_go 355 = .ok (.aload_n 0, 1) := by decide +kernel
theorem dM_go_356 : decode cM_go 356 = .ok (.iload_n 1, 1) := by decide +kernel
theorem dM_go_357 : decode cM_go 357 = .ok (.iload_n 2, 1) := by decide +kernel
theorem dM_go_358 : decode cM_go 358 = .ok (.invokevirtual 174, 3) := by decide +kernel
theorem dM_go_361 : decode cM_go 361 = .ok (.goto 180, 3) := by decide +kernel
theorem dM_go_364 : decode cM_go 364 = .ok (.aload_n 0, 1) := by decide +kernel
theorem dM_go_365 : decode cM_go 365 = .ok (.aload_n 0, 1) := by decide +kernel
theorem dM_go_366 : decode cM_go 366 = .ok (.iload_n 2, 1) := by decide +kernel
theorem dM_go_367 : decode cM_go 367 = .ok (.iload_n 3, 1) := by decide +kernel
theorem dM_go_368 : decode cM_go 368 = .ok (.ifCond .ge 8, 3) := by decide +kernel
theorem dM_go_371 : decode cM_go 371 = .ok (.iload_n 3, 1) := by decide +kernel
theorem dM_go_372 : decode cM_go 372 = .ok (.ineg, 1) := by decide +kernel
theorem dM_go_373 : decode cM_go 373 = .ok (.goto 4, 3) := by decide +kernel
theorem dM_go_376 : decode cM_go 376 = .ok (.iload_n 3, 1) := by decide +kernel
theorem dM_go_377 : decode cM_go 377 = .ok (.iload_n 3, 1) := by decide +kernel
theorem dM_go_378 : decode cM_go 378 = .ok (.ifCond .ge 7, 3) := by decide +kernel
theorem dM_go_381 : decode cM_go 381 = .ok (.iconst 1, 1) := by decide +kernel
theorem dM_go_382 : decode cM_go 382 = .ok (.goto 4, 3) := by decide +kernel
theorem dM_go_385 : decode cM_go 385 = .ok (.iconst 0, 1) := by decide +kernel
theorem dM_go_386 : decode cM_go 386 = .ok (.lload 4, 2) := by decide +kernel
theorem dM_go_388 : decode cM_go 388 = .ok (.aload_n 0, 1) := by decide +kernel
theorem dM_go_389 : decode cM_go 389 = .ok (.invokevirtual 147, 3) := by decide +kernel
theorem dM_go_392 : decode cM_go 392 = .ok (.iload_n 1, 1) := by decide +kernel
theorem dM_go_393 : decode cM_go 393 = .ok (.invokevirtual 155, 3) := by decide +kernel
theorem dM_go_396 : decode cM_go 396 = .ok (.invokevirtual 163, 3) := by decide +kernel
theorem dM_go_399 : decode cM_go 399 = .ok (.goto 142, 3) := by decide +kernel
theorem dM_go_402 : decode cM_go 402 = .ok (.aload_n 0, 1) := by decide +kernel
theorem dM_go_403 : decode cM_go 403 = .ok (.iload_n 1, 1) := by decide +kernel
theorem dM_go_404 : decode cM_go 404 = .ok (.invokevirtual 178, 3) := by decide +kernel
theorem dM_go_407 : decode cM_go 407 = .ok (.goto 134, 3) := by decide +kernel
theorem dM_go_410 : decode cM_go 410 = .ok (.aload_n 0, 1) := by decide +kernel
theorem dM_go_411 : decode cM_go 411 = .ok (.dup, 1) := by decide +kernel
theorem dM_go_412 : decode cM_go 412 = .ok (.getfield 124, 3) := by decide +kernel
theorem dM_go_415 : decode cM_go 415 = .ok (.iconst 1, 1) := by decide +kernel
theorem dM_go_416 : decode cM_go 416 = .ok (.isub, 1) := by decide +kernel
theorem dM_go_417 : decode cM_go 417 = .ok (.putfield 124, 3) := by decide +kernel
theorem dM_go_420 : decode cM_go 420 = .ok (.aload_n 0, 1) := by decide +kernel
theorem dM_go_421 : decode cM_go 421 = .ok (.invokevirtual 147, 3) := by decide +kernel
theorem dM_go_424 : decode cM_go 424 = .ok (.lstore 10, 2) := by decide +kernel
theorem dM_go_426 : decode cM_go 426 = .ok (.aload_n 0, 1) := by decide +kernel
theorem dM_go_427 : decode cM_go 427 = .ok (.iload_n 2, 1) := by decide +kernel
theorem dM_go_428 : decode cM_go 428 = .ok (.bipush 43, 2) := by decide +kernel
theorem dM_go_430 : decode cM_go 430 = .ok (.if_icmp .ne 8, 3) := by decide +kernel
theorem dM_go_433 : decode cM_go 433 = .ok (.lload 10, 2) := by decide +kernel
theorem dM_go_435 : decode cM_go 435 = .ok (.goto 42, 3) := by decide +kernel
theorem dM_go_438 : decode cM_go 438 = .ok (.iload_n 2, 1) := by decide +kernel
theorem dM_go_439 : decode cM_go 439 = .ok (.bipush 45, 2) := by decide +kernel
theorem dM_go_441 : decode cM_go 441 = .ok (.if_icmp .ne 9, 3) := by decide +kernel
theorem dM_go_444 : decode cM_go 444 = .ok (.lload 10, 2) := by decide +kernel
theorem dM_go_446 : decode cM_go 446 = .ok (.lneg, 1) := by decide +kernel
theorem dM_go_447 : decode cM_go 447 = .ok (.goto 30, 3) := by decide +kernel
theorem dM_go_450 : decode cM_go 450 = .ok (.iload_n 2, 1) := by decide +kernel
theorem dM_go_451 : decode cM_go 451 = .ok (.bipush 126, 2) := by decide +kernel
theorem dM_go_453 : decode cM_go 453 = .ok (.if_icmp .ne 12, 3) := by decide +kernel
theorem dM_go_456 : decode cM_go 456 = .ok (.lload 10, 2) := by decide +kernel
theorem dM_go_458 : decode cM_go 458 = .ok (.ldc2_w 181, 3) := by decide +kernel
theorem dM_go_461 : decode cM_go 461 = .ok (.lxor, 1) := by decide +kernel
theorem dM_go_462 : decode cM_go 462 = .ok (.goto 15, 3) := by decide +kernel
theorem dM_go_465 : decode cM_go 465 = .ok (.lload 10, 2) := by decide +kernel
theorem dM_go_467 : decode cM_go 467 = .ok (.lconst 0, 1) := by decide +kernel
theorem dM_go_468 : decode cM_go 468 = .ok (.lcmp, 1) := by decide +kernel
theorem dM_go_469 : decode cM_go 469 = .ok (.ifCond .ne 7, 3) := by decide +kernel
theorem dM_go_472 : decode cM_go 472 = .ok (.lconst 1, 1) := by decide +kernel
theorem dM_go_473 : decode cM_go 473 = .ok (.goto 4, 3) := by decide +kernel
theorem dM_go_476 : decode cM_go 476 = .ok (.lconst 0, 1) := by decide +kernel
theorem dM_go_477 : decode cM_go 477 = .ok (.invokevirtual 163, 3) := by decide +kernel
theorem dM_go_480 : decode cM_go 480 = .ok (.goto 61, 3) := by decide +kernel
theorem dM_go_483 : decode cM_go 483 = .ok (.aload_n 0, 1) := by decide +kernel
theorem dM_go_484 : decode cM_go 484 = .ok (.aload_n 0, 1) := by decide +kernel
theorem dM_go_485 : decode cM_go 485 = .ok (.getfield 102, 3) := by decide +kernel
theorem dM_go_488 : decode cM_go 488 = .ok (.ifCond .ne 12, 3) := by decide +kernel
theorem dM_go_491 : decode cM_go 491 = .ok (.aload_n 0, 1) := by decide +kernel
theorem dM_go_492 : decode cM_go 492 = .ok (.invokevirtual 127, 3) := by decide +kernel
theorem dM_go_495 : decode cM_go 495 = .ok (.bipush 41, 2) := by decide +kernel
theorem dM_go_497 : decode cM_go 497 = .ok (.if_icmp .eq 7, 3) := by decide +kernel
theorem dM_go_500 : decode cM_go 500 = .ok (.iconst 1, 1) := by decide +kernel
theorem dM_go_501 : decode cM_go 501 = .ok (.goto 4, 3) := by decide +kernel
theorem dM_go_504 : decode cM_go 504 = .ok (.iconst 0, 1) := by decide +kernel
theorem dM_go_505 : decode cM_go 505 = .ok (.putfield 102, 3) := by decide +kernel
theorem dM_go_508 : decode cM_go 508 = .ok (.aload_n 0, 1) := by decide +kernel
theorem dM_go_509 : decode cM_go 509 = .ok (.dup, 1) := by decide +kernel
theorem dM_go_510 : decode cM_go 510 = .ok (.getfield 108, 3) := by decide +kernel
theorem dM_go_513 : decode cM_go 513 = .ok (.iconst 1, 1) := by decide +kernel
theorem dM_go_514 : decode cM_go 514 = .ok (.iadd, 1) := by decide +kernel
theorem dM_go_515 : decode cM_go 515 = .ok (.putfield 108, 3) := by decide +kernel
theorem dM_go_518 : decode cM_go 518 = .ok (.aload_n 0, 1) := by decide +kernel
theorem dM_go_519 : decode cM_go 519 = .ok (.dup, 1) := by decide +kernel
theorem dM_go_520 : decode cM_go 520 = .ok (.getfield 124, 3) := by decide +kernel
theorem dM_go_523 : decode cM_go 523 = .ok (.iconst 1, 1) := by decide +kernel
theorem dM_go_524 : decode cM_go 524 = .ok (.isub, 1) := by decide +kernel
theorem dM_go_525 : decode cM_go 525 = .ok (.putfield 124, 3) := by decide +kernel
theorem dM_go_528 : decode cM_go 528 = .ok (.goto 13, 3) := by decide +kernel
theorem dM_go_531 : decode cM_go 531 = .ok (.aload_n 0, 1) := by decide +kernel
theorem dM_go_532 : decode cM_go 532 = .ok (.iload_n 1, 1) := by decide +kernel
theorem dM_go_533 : decode cM_go 533 = .ok (.iload_n 2, 1) := by decide +kernel
theorem dM_go_534 : decode cM_go 534 = .ok (.iload_n 3, 1) := by decide +kernel
theorem dM_go_535 : decode cM_go 535 = .ok (.lload 4, 2) := by decide +kernel
theorem dM_go_537 : decode cM_go 537 = .ok (.l2i, 1) := by decide +kernel
theorem dM_go_538 : decode cM_go 538 = .ok (.invokevirtual 183, 3) := by decide +kernel
theorem dM_go_541 : decode cM_go 541 = .ok (.goto (-541), 3) := by decide +kernel
theorem dM_go_544 : decode cM_go 544 = .ok (.return_, 1) := by decide +kernel
theorem dM_aSum_0 : decode cM_aSum 0 = .ok (.aload_n 0, 1) := by decide +kernel
theorem dM_aSum_1 : decode cM_aSum 1 = .ok (.invokevirtual 127, 3) := by decide +kernel
theorem dM_aSum_4 : decode cM_aSum 4 = .ok (.istore_n 2, 1) := by decide +kernel
theorem dM_aSum_5 : decode cM_aSum 5 = .ok (.iload_n 2, 1) := by decide +kernel
theorem dM_aSum_6 : decode cM_aSum 6 = .ok (.ifCond .lt 101, 3) := by decide +kernel
theorem dM_aSum_9 : decode cM_aSum 9 = .ok (.iload_n 2, 1) := by decide +kernel
theorem dM_aSum_10 : decode cM_aSum 10 = .ok (.invokestatic 82, 3) := by decide +kernel
theorem dM_aSum_13 : decode cM_aSum 13 = .ok (.ifCond .eq 94, 3) := by decide +kernel
theorem dM_aSum_16 : decode cM_aSum 16 = .ok (.aload_n 0, 1) := by decide +kernel
theorem dM_aSum_17 : decode cM_aSum 17 = .ok (.getfield 108, 3) := by decide +kernel
theorem dM_aSum_20 : decode cM_aSum 20 = .ok (.istore_n 3, 1) := by decide +kernel
theorem dM_aSum_21 : decode cM_aSum 21 = .ok (.aload_n 0, 1) := by decide +kernel
theorem dM_aSum_22 : decode cM_aSum 22 = .ok (.invokevirtual 134, 3) := by decide +kernel
theorem dM_aSum_25 : decode cM_aSum 25 = .ok (.istore 4, 2) := by decide +kernel
theorem dM_aSum_27 : decode cM_aSum 27 = .ok (.aload_n 0, 1) := by decide +kernel
theorem dM_aSum_28 : decode cM_aSum 28 = .ok (.iload 4, 2) := by decide +kernel
theorem dM_aSum_30 : decode cM_aSum 30 = .ok (.putfield 108, 3) := by decide +kernel
theorem dM_aSum_33 : decode cM_aSum 33 = .ok (.aload_n 0, 1) := by decide +kernel
theorem dM_aSum_34 : decode cM_aSum 34 = .ok (.invokevirtual 137, 3) := by decide +kernel
theorem dM_aSum_37 : decode cM_aSum 37 = .ok (.istore 5, 2) := by decide +kernel
theorem dM_aSum_39 : decode cM_aSum 39 = .ok (.iload 5, 2) := by decide +kernel
theorem dM_aSum_41 : decode cM_aSum 41 = .ok (.ifCond .le 61, 3) := by decide +kernel
theorem dM_aSum_44 : decode cM_aSum 44 = .ok (.iload 5, 2) := by decide +kernel
theorem dM_aSum_46 : decode cM_aSum 46 = .ok (.iconst 1, 1) := by decide +kernel
theorem dM_aSum_47 : decode cM_aSum 47 = .ok (.if_icmp .ne 7, 3) := by decide +kernel
theorem dM_aSum_50 : decode cM_aSum 50 = .ok (.iconst 0, 1) := by decide +kernel
theorem dM_aSum_51 : decode cM_aSum 51 = .ok (.goto 12, 3) := by decide +kernel
theorem dM_aSum_54 : decode cM_aSum 54 = .ok (.aload_n 0, 1) := by decide +kernel
theorem dM_aSum_55 : decode cM_aSum 55 = .ok (.getfield 13, 3) := by decide +kernel
theorem dM_aSum_58 : decode cM_aSum 58 = .ok (.aload_n 0, 1) := by decide +kernel
theorem dM_aSum_59 : decode cM_aSum 59 = .ok (.getfield 108, 3) := by decide +kernel
theorem dM_aSum_62 : decode cM_aSum 62 = .ok (.iaload, 1) := by decide +kernel
theorem dM_aSum_63 : decode cM_aSum 63 = .ok (.istore 6, 2) := by decide +kernel
theorem dM_aSum_65 : decode cM_aSum 65 = .ok (.aload_n 0, 1) := by decide +kernel
theorem dM_aSum_66 : decode cM_aSum 66 = .ok (.dup, 1) := by decide +kernel
theorem dM_aSum_67 : decode cM_aSum 67 = .ok (.getfield 108, 3) := by decide +kernel
theorem dM_aSum_70 : decode cM_aSum 70 = .ok (.iload 5, 2) := by decide +kernel
theorem dM_aSum_72 : decode cM_aSum 72 = .ok (.iadd, 1) := by decide +kernel
theorem dM_aSum_73 : decode cM_aSum 73 = .ok (.putfield 108, 3) := by decide +kernel
theorem dM_aSum_76 : decode cM_aSum 76 = .ok (.aload_n 0, 1) := by decide +kernel
theorem dM_aSum_77 : decode cM_aSum 77 = .ok (.invokevirtual 140, 3) := by decide +kernel
theorem dM_aSum_80 : decode cM_aSum 80 = .ok (.aload_n 0, 1) := by decide +kernel
theorem dM_aSum_81 : decode cM_aSum 81 = .ok (.bipush 10, 2) := by decide +kernel
theorem dM_aSum_83 : decode cM_aSum 83 = .ok (.iload_n 1, 1) := by decide +kernel
theorem dM_aSum_84 : decode cM_aSum 84 = .ok (.iload_n 3, 1) := by decide +kernel
theorem dM_aSum_85 : decode cM_aSum 85 = .ok (.iload 4, 2) := by decide +kernel
theorem dM_aSum_87 : decode cM_aSum 87 = .ok (.iload_n 3, 1) := by decide +kernel
theorem dM_aSum_88 : decode cM_aSum 88 = .ok (.isub, 1) := by decide +kernel
theorem dM_aSum_89 : decode cM_aSum 89 = .ok (.iload 6, 2) := by decide +kernel
theorem dM_aSum_91 : decode cM_aSum 91 = .ok (.i2l, 1) := by decide +kernel
theorem dM_aSum_92 : decode cM_aSum 92 = .ok (.invokevirtual 117, 3) := by decide +kernel
theorem dM_aSum_95 : decode cM_aSum 95 = .ok (.aload_n 0, 1) := by decide +kernel
theorem dM_aSum_96 : decode cM_aSum 96 = .ok (.iconst 0, 1) := by decide +kernel
theorem dM_aSum_97 : decode cM_aSum 97 = .ok (.iload_n 1, 1) := by decide +kernel
theorem dM_aSum_98 : decode cM_aSum 98 = .ok (.invokevirtual 143, 3) := by decide +kernel
theorem dM_aSum_101 : decode cM_aSum 101 = .ok (.return_, 1) := by decide +kernel
theorem dM_aSum_102 : decode cM_aSum 102 = .ok (.aload_n 0, 1) := by decide +kernel
theorem dM_aSum_103 : decode cM_aSum 103 = .ok (.iload_n 3, 1) := by decide +kernel
theorem dM_aSum_104 : decode cM_aSum 104 = .ok (.putfield 108, 3) := by decide +kernel
theorem dM_aSum_107 : decode cM_aSum 107 = .ok (.aload_n 0, 1) := by decide +kernel
theorem dM_aSum_108 : decode cM_aSum 108 = .ok (.iconst 1, 1) := by decide +kernel
theorem dM_aSum_109 : decode cM_aSum 109 = .ok (.iload_n 1, 1) := by decide +kernel
theorem dM_aSum_110 : decode cM_aSum 110 = .ok (.invokevirtual 143, 3) := by decide +kernel
theorem dM_aSum_113 : decode cM_aSum 113 = .ok (.aload_n 0, 1) := by decide +kernel
theorem dM_aSum_114 : decode cM_aSum 114 = .ok (.iconst 4, 1) := by decide +kernel
theorem dM_aSum_115 : decode cM_aSum 115 = .ok (.iload_n 1, 1) := by decide +kernel
theorem dM_aSum_116 : decode cM_aSum 116 = .ok (.iconst 1, 1) := by decide +kernel
theorem dM_aSum_117 : decode cM_aSum 117 = .ok (.iconst 0, 1) := by decide +kernel
theorem dM_aSum_118 : decode cM_aSum 118 = .ok (.lconst 0, 1) := by decide +kernel
theorem dM_aSum_119 : decode cM_aSum 119 = .ok (.invokevirtual 117, 3) := by decide +kernel
theorem dM_aSum_122 : decode cM_aSum 122 = .ok (.return_, 1) := by decide +kernel
theorem dM_gives_0 : decode cM_gives 0 = .ok (.aload_n 0, 1) := by decide +kernel
theorem dM_gives_1 : decode cM_gives 1 = .ok (.invokevirtual 127, 3) := by decide +kernel
theorem dM_gives_4 : decode cM_gives 4 = .ok (.istore_n 1, 1) := by decide +kernel
theorem dM_gives_5 : decode cM_gives 5 = .ok (.iload_n 1, 1) := by decide +kernel
theorem dM_gives_6 : decode cM_gives 6 = .ok (.bipush 61, 2) := by decide +kernel
theorem dM_gives_8 : decode cM_gives 8 = .ok (.if_icmp .ne 19, 3) := by decide +kernel
theorem dM_gives_11 : decode cM_gives 11 = .ok (.aload_n 0, 1) := by decide +kernel
theorem dM_gives_12 : decode cM_gives 12 = .ok (.iconst 1, 1) := by decide +kernel
theorem dM_gives_13 : decode cM_gives 13 = .ok (.invokevirtual 131, 3) := by decide +kernel
theorem dM_gives_16 : decode cM_gives 16 = .ok (.bipush 61, 2) := by decide +kernel
theorem dM_gives_18 : decode cM_gives 18 = .ok (.if_icmp .ne 7, 3) := by decide +kernel
theorem dM_gives_21 : decode cM_gives 21 = .ok (.iconst 0, 1) := by decide +kernel
theorem dM_gives_22 : decode cM_gives 22 = .ok (.goto 4, 3) := by decide +kernel
theorem dM_gives_25 : decode cM_gives 25 = .ok (.iconst 1, 1) := by decide +kernel
theorem dM_gives_26 : decode cM_gives 26 = .ok (.ireturn, 1) := by decide +kernel
theorem dM_gives_27 : decode cM_gives 27 = .ok (.iload_n 1, 1) := by decide +kernel
theorem dM_gives_28 : decode cM_gives 28 = .ok (.bipush 60, 2) := by decide +kernel
theorem dM_gives_30 : decode cM_gives 30 = .ok (.if_icmp .eq 9, 3) := by decide +kernel
theorem dM_gives_33 : decode cM_gives 33 = .ok (.iload_n 1, 1) := by decide +kernel
theorem dM_gives_34 : decode cM_gives 34 = .ok (.bipush 62, 2) := by decide +kernel
theorem dM_gives_36 : decode cM_gives 36 = .ok (.if_icmp .ne 28, 3) := by decide +kernel
theorem dM_gives_39 : decode cM_gives 39 = .ok (.aload_n 0, 1) := by decide +kernel
theorem dM_gives_40 : decode cM_gives 40 = .ok (.iconst 1, 1) := by decide +kernel
theorem dM_gives_41 : decode cM_gives 41 = .ok (.invokevirtual 131, 3) := by decide +kernel
theorem dM_gives_44 : decode cM_gives 44 = .ok (.iload_n 1, 1) := by decide +kernel
theorem dM_gives_45 : decode cM_gives 45 = .ok (.if_icmp .ne 19, 3) := by decide +kernel
theorem dM_gives_48 : decode cM_gives 48 = .ok (.aload_n 0, 1) := by decide +kernel
theorem dM_gives_49 : decode cM_gives 49 = .ok (.iconst 2, 1) := by decide +kernel
theorem dM_gives_50 : decode cM_gives 50 = .ok (.invokevirtual 131, 3) := by decide +kernel
theorem dM_gives_53 : decode cM_gives 53 = .ok (.bipush 61, 2) := by decide +kernel
theorem dM_gives_55 : decode cM_gives 55 = .ok (.if_icmp .ne 7, 3) := by decide +kernel
theorem dM_gives_58 : decode cM_gives 58 = .ok (.iconst 3, 1) := by decide +kernel
theorem dM_gives_59 : decode cM_gives 59 = .ok (.goto 4, 3) := by decide +kernel
theorem dM_gives_62 : decode cM_gives 62 = .ok (.iconst 0, 1) := by decide +kernel
theorem dM_gives_63 : decode cM_gives 63 = .ok (.ireturn, 1) := by decide +kernel
theorem dM_gives_64 : decode cM_gives 64 = .ok (.iload_n 1, 1) := by decide +kernel
theorem dM_gives_65 : decode cM_gives 65 = .ok (.bipush 42, 2) := by decide +kernel
theorem dM_gives_67 : decode cM_gives 67 = .ok (.if_icmp .eq 45, 3) := by decide +kernel
theorem dM_gives_70 : decode cM_gives 70 = .ok (.iload_n 1, 1) := by decide +kernel
theorem dM_gives_71 : decode cM_gives 71 = .ok (.bipush 47, 2) := by decide +kernel
theorem dM_gives_73 : decode cM_gives 73 = .ok (.if_icmp .eq 39, 3) := by decide +kernel
theorem dM_gives_76 : decode cM_gives 76 = .ok (.iload_n 1, 1) := by decide +kernel
theorem dM_gives_77 : decode cM_gives 77 = .ok (.bipush 37, 2) := by decide +kernel
theorem dM_gives_79 : decode cM_gives 79 = .ok (.if_icmp .eq 33, 3) := by decide +kernel
theorem dM_gives_82 : decode cM_gives 82 = .ok (.iload_n 1, 1) := by decide +kernel
theorem dM_gives_83 : decode cM_gives 83 = .ok (.bipush 43, 2) := by decide +kernel
theorem dM_gives_85 : decode cM_gives 85 = .ok (.if_icmp .eq 27, 3) := by decide +kernel
theorem dM_gives_88 : decode cM_gives 88 = .ok (.iload_n 1, 1) := by decide +kernel
theorem dM_gives_89 : decode cM_gives 89 = .ok (.bipush 45, 2) := by decide +kernel
theorem dM_gives_91 : decode cM_gives 91 = .ok (.if_icmp .eq 21, 3) := by decide +kernel
theorem dM_gives_94 : decode cM_gives 94 = .ok (.iload_n 1, 1) := by decide +kernel
theorem dM_gives_95 : decode cM_gives 95 = .ok (.bipush 38, 2) := by decide +kernel
theorem dM_gives_97 : decode cM_gives 97 = .ok (.if_icmp .eq 15, 3) := by decide +kernel
theorem dM_gives_100 : decode cM_gives 100 = .ok (.iload_n 1, 1) := by decide +kernel
theorem dM_gives_101 : decode cM_gives 101 = .ok (.bipush 94, 2) := by decide +kernel
theorem dM_gives_103 : decode cM_gives 103 = .ok (.if_icmp .eq 9, 3) := by decide +kernel
theorem dM_gives_106 : decode cM_gives 106 = .ok (.iload_n 1, 1) := by decide +kernel
theorem dM_gives_107 : decode cM_gives 107 = .ok (.bipush 124, 2) := by decide +kernel
theorem dM_gives_109 : decode cM_gives 109 = .ok (.if_icmp .ne 7, 3) := by decide +kernel
theorem dM_gives_112 : decode cM_gives 112 = .ok (.iconst 1, 1) := by decide +kernel
theorem dM_gives_113 : decode cM_gives 113 = .ok (.goto 4, 3) := by decide +kernel
theorem dM_gives_116 : decode cM_gives 116 = .ok (.iconst 0, 1) := by decide +kernel
theorem dM_gives_117 : decode cM_gives 117 = .ok (.istore_n 2, 1) := by decide +kernel
theorem dM_gives_118 : decode cM_gives 118 = .ok (.iload_n 2, 1) := by decide +kernel
theorem dM_gives_119 : decode cM_gives 119 = .ok (.ifCond .eq 17, 3) := by decide +kernel
theorem dM_gives_122 : decode cM_gives 122 = .ok (.aload_n 0, 1) := by decide +kernel
theorem dM_gives_123 : decode cM_gives 123 = .ok (.iconst 1, 1) := by decide +kernel
theorem dM_gives_124 : decode cM_gives 124 = .ok (.invokevirtual 131, 3) := by decide +kernel
theorem dM_gives_127 : decode cM_gives 127 = .ok (.bipush 61, 2) := by decide +kernel
theorem dM_gives_129 : decode cM_gives 129 = .ok (.if_icmp .ne 7, 3) := by decide +kernel
theorem dM_gives_132 : decode cM_gives 132 = .ok (.iconst 2, 1) := by decide +kernel
theorem dM_gives_133 : decode cM_gives 133 = .ok (.goto 4, 3) := by decide +kernel
theorem dM_gives_136 : decode cM_gives 136 = .ok (.iconst 0, 1) := by decide +kernel
theorem dM_gives_137 : decode cM_gives 137 = .ok (.ireturn, 1) := by decide +kernel
theorem dM_more_0 : decode cM_more 0 = .ok (.aload_n 0, 1) := by decide +kernel
theorem dM_more_1 : decode cM_more 1 = .ok (.invokevirtual 167, 3) := by decide +kernel
theorem dM_more_4 : decode cM_more 4 = .ok (.istore_n 3, 1) := by decide +kernel
theorem dM_more_5 : decode cM_more 5 = .ok (.iload_n 3, 1) := by decide +kernel
theorem dM_more_6 : decode cM_more 6 = .ok (.ifCond .eq 8, 3) := by decide +kernel
theorem dM_more_9 : decode cM_more 9 = .ok (.iload_n 3, 1) := by decide +kernel
theorem dM_more_10 : decode cM_more 10 = .ok (.iload_n 2, 1) := by decide +kernel
theorem dM_more_11 : decode cM_more 11 = .ok (.if_icmp .ge 4, 3) := by decide +kernel
theorem dM_more_14 : decode cM_more 14 = .ok (.return_, 1) := by decide +kernel
theorem dM_more_15 : decode cM_more 15 = .ok (.aload_n 0, 1) := by decide +kernel
theorem dM_more_16 : decode cM_more 16 = .ok (.invokevirtual 127, 3) := by decide +kernel
theorem dM_more_19 : decode cM_more 19 = .ok (.istore 4, 2) := by decide +kernel
theorem dM_more_21 : decode cM_more 21 = .ok (.iload_n 3, 1) := by decide +kernel
theorem dM_more_22 : decode cM_more 22 = .ok (.iconst 1, 1) := by decide +kernel
theorem dM_more_23 : decode cM_more 23 = .ok (.if_icmp .eq 36, 3) := by decide +kernel
theorem dM_more_26 : decode cM_more 26 = .ok (.iload_n 3, 1) := by decide +kernel
theorem dM_more_27 : decode cM_more 27 = .ok (.iconst 2, 1) := by decide +kernel
theorem dM_more_28 : decode cM_more 28 = .ok (.if_icmp .eq 31, 3) := by decide +kernel
theorem dM_more_31 : decode cM_more 31 = .ok (.iload_n 3, 1) := by decide +kernel
theorem dM_more_32 : decode cM_more 32 = .ok (.bipush 6, 2) := by decide +kernel
theorem dM_more_34 : decode cM_more 34 = .ok (.if_icmp .eq 25, 3) := by decide +kernel
theorem dM_more_37 : decode cM_more 37 = .ok (.iload_n 3, 1) := by decide +kernel
theorem dM_more_38 : decode cM_more 38 = .ok (.bipush 8, 2) := by decide +kernel
theorem dM_more_40 : decode cM_more 40 = .ok (.if_icmp .eq 19, 3) := by decide +kernel
theorem dM_more_43 : decode cM_more 43 = .ok (.iload_n 3, 1) := by decide +kernel
theorem dM_more_44 : decode cM_more 44 = .ok (.bipush 7, 2) := by decide +kernel
theorem dM_more_46 : decode cM_more 46 = .ok (.if_icmp .ne 17, 3) := by decide +kernel
theorem dM_more_49 : decode cM_more 49 = .ok (.aload_n 0, 1) := by decide +kernel
theorem dM_more_50 : decode cM_more 50 = .ok (.iconst 1, 1) := by decide +kernel
theorem dM_more_51 : decode cM_more 51 = .ok (.invokevirtual 131, 3) := by decide +kernel
theorem dM_more_54 : decode cM_more 54 = .ok (.bipush 61, 2) := by decide +kernel
theorem dM_more_56 : decode cM_more 56 = .ok (.if_icmp .ne 7, 3) := by decide +kernel
theorem dM_more_59 : decode cM_more 59 = .ok (.iconst 1, 1) := by decide +kernel
theorem dM_more_60 : decode cM_more 60 = .ok (.goto 4, 3) := by decide +kernel
theorem dM_more_63 : decode cM_more 63 = .ok (.iconst 0, 1) := by decide +kernel
theorem dM_more_64 : decode cM_more 64 = .ok (.istore 5, 2) := by decide +kernel
theorem dM_more_66 : decode cM_more 66 = .ok (.aload_n 0, 1) := by decide +kernel
theorem dM_more_67 : decode cM_more 67 = .ok (.dup, 1) := by decide +kernel
theorem dM_more_68 : decode cM_more 68 = .ok (.getfield 108, 3) := by decide +kernel
theorem dM_more_71 : decode cM_more 71 = .ok (.iload 5, 2) := by decide +kernel
theorem dM_more_73 : decode cM_more 73 = .ok (.ifCond .eq 7, 3) := by decide +kernel
theorem dM_more_76 : decode cM_more 76 = .ok (.iconst 2, 1) := by decide +kernel
theorem dM_more_77 : decode cM_more 77 = .ok (.goto 4, 3) := by decide +kernel
theorem dM_more_80 : decode cM_more 80 = .ok (.iconst 1, 1) := by decide +kernel
theorem dM_more_81 : decode cM_more 81 = .ok (.iadd, 1) := by decide +kernel
theorem dM_more_82 : decode cM_more 82 = .ok (.putfield 108, 3) := by decide +kernel
theorem dM_more_85 : decode cM_more 85 = .ok (.aload_n 0, 1) := by decide +kernel
theorem dM_more_86 : decode cM_more 86 = .ok (.invokevirtual 147, 3) := by decide +kernel
theorem dM_more_89 : decode cM_more 89 = .ok (.lstore 6, 2) := by decide +kernel
theorem dM_more_91 : decode cM_more 91 = .ok (.iload_n 1, 1) := by decide +kernel
theorem dM_more_92 : decode cM_more 92 = .ok (.ifCond .eq 34, 3) := by decide +kernel
theorem dM_more_95 : decode cM_more 95 = .ok (.iload_n 3, 1) := by decide +kernel
theorem dM_more_96 : decode cM_more 96 = .ok (.iconst 1, 1) := by decide +kernel
theorem dM_more_97 : decode cM_more 97 = .ok (.if_icmp .ne 13, 3) := by decide +kernel
theorem dM_more_100 : decode cM_more 100 = .ok (.lload 6, 2) := by decide +kernel
theorem dM_more_102 : decode cM_more 102 = .ok (.lconst 0, 1) := by decide +kernel
theorem dM_more_103 : decode cM_more 103 = .ok (.lcmp, 1) := by decide +kernel
theorem dM_more_104 : decode cM_more 104 = .ok (.ifCond .ne 22, 3) := by decide +kernel
theorem dM_more_107 : decode cM_more 107 = .ok (.goto 15, 3) := by decide +kernel
theorem dM_more_110 : decode cM_more 110 = .ok (.iload_n 3, 1) := by decide +kernel
theorem dM_more_111 : decode cM_more 111 = .ok (.iconst 2, 1) := by decide +kernel
theorem dM_more_112 : decode cM_more 112 = .ok (.if_icmp .ne 10, 3) := by decide +kernel
theorem dM_more_115 : decode cM_more 115 = .ok (.lload 6, 2) := by decide +kernel
theorem dM_more_117 : decode cM_more 117 = .ok (.lconst 0, 1) := by decide +kernel
theorem dM_more_118 : decode cM_more 118 = .ok (.lcmp, 1) := by decide +kernel
theorem dM_more_119 : decode cM_more 119 = .ok (.ifCond .eq 7, 3) := by decide +kernel
theorem dM_more_122 : decode cM_more 122 = .ok (.iconst 1, 1) := by decide +kernel
theorem dM_more_123 : decode cM_more 123 = .ok (.goto 4, 3) := by decide +kernel
theorem dM_more_126 : decode cM_more 126 = .ok (.iconst 0, 1) := by decide +kernel
theorem dM_more_127 : decode cM_more 127 = .ok (.istore 8, 2) := by decide +kernel
theorem dM_more_129 : decode cM_more 129 = .ok (.aload_n 0, 1) := by decide +kernel
theorem dM_more_130 : decode cM_more 130 = .ok (.iconst 5, 1) := by decide +kernel
theorem dM_more_131 : decode cM_more 131 = .ok (.iload_n 1, 1) := by decide +kernel
theorem dM_more_132 : decode cM_more 132 = .ok (.invokevirtual 143, 3) := by decide +kernel
theorem dM_more_135 : decode cM_more 135 = .ok (.aload_n 0, 1) := by decide +kernel
theorem dM_more_136 : decode cM_more 136 = .ok (.getfield 19, 3) := by decide +kernel
theorem dM_more_139 : decode cM_more 139 = .ok (.aload_n 0, 1) := by decide +kernel
theorem dM_more_140 : decode cM_more 140 = .ok (.getfield 114, 3) := by decide +kernel
theorem dM_more_143 : decode cM_more 143 = .ok (.iconst 1, 1) := by decide +kernel
theorem dM_more_144 : decode cM_more 144 = .ok (.isub, 1) := by decide +kernel
theorem dM_more_145 : decode cM_more 145 = .ok (.iload_n 2, 1) := by decide +kernel
theorem dM_more_146 : decode cM_more 146 = .ok (.iastore, 1) := by decide +kernel
theorem dM_more_147 : decode cM_more 147 = .ok (.aload_n 0, 1) := by decide +kernel
theorem dM_more_148 : decode cM_more 148 = .ok (.bipush 6, 2) := by decide +kernel
theorem dM_more_150 : decode cM_more 150 = .ok (.iload_n 1, 1) := by decide +kernel
theorem dM_more_151 : decode cM_more 151 = .ok (.iload 4, 2) := by decide +kernel
theorem dM_more_153 : decode cM_more 153 = .ok (.iload 5, 2) := by decide +kernel
theorem dM_more_155 : decode cM_more 155 = .ok (.ifCond .eq 8, 3) := by decide +kernel
theorem dM_more_158 : decode cM_more 158 = .ok (.iload_n 3, 1) := by decide +kernel
theorem dM_more_159 : decode cM_more 159 = .ok (.ineg, 1) := by decide +kernel
theorem dM_more_160 : decode cM_more 160 = .ok (.goto 4, 3) := by decide +kernel
theorem dM_more_163 : decode cM_more 163 = .ok (.iload_n 3, 1) := by decide +kernel
theorem dM_more_164 : decode cM_more 164 = .ok (.lload 6, 2) := by decide +kernel
theorem dM_more_166 : decode cM_more 166 = .ok (.invokevirtual 117, 3) := by decide +kernel
theorem dM_more_169 : decode cM_more 169 = .ok (.aload_n 0, 1) := by decide +kernel
theorem dM_more_170 : decode cM_more 170 = .ok (.iconst 4, 1) := by decide +kernel
theorem dM_more_171 : decode cM_more 171 = .ok (.iload 8, 2) := by decide +kernel
theorem dM_more_173 : decode cM_more 173 = .ok (.iload_n 3, 1) := by decide +kernel
theorem dM_more_174 : decode cM_more 174 = .ok (.iconst 1, 1) := by decide +kernel
theorem dM_more_175 : decode cM_more 175 = .ok (.iadd, 1) := by decide +kernel
theorem dM_more_176 : decode cM_more 176 = .ok (.iconst 0, 1) := by decide +kernel
theorem dM_more_177 : decode cM_more 177 = .ok (.lconst 0, 1) := by decide +kernel
theorem dM_more_178 : decode cM_more 178 = .ok (.invokevirtual 117, 3) := by decide +kernel
theorem dM_more_181 : decode cM_more 181 = .ok (.return_, 1) := by decide +kernel
theorem dM_rank_0 : decode cM_rank 0 = .ok (.aload_n 0, 1) := by decide +kernel
theorem dM_rank_1 : decode cM_rank 1 = .ok (.invokevirtual 127, 3) := by decide +kernel
theorem dM_rank_4 : decode cM_rank 4 = .ok (.istore_n 1, 1) := by decide +kernel
theorem dM_rank_5 : decode cM_rank 5 = .ok (.aload_n 0, 1) := by decide +kernel
theorem dM_rank_6 : decode cM_rank 6 = .ok (.iconst 1, 1) := by decide +kernel
theorem dM_rank_7 : decode cM_rank 7 = .ok (.invokevirtual 131, 3) := by decide +kernel
theorem dM_rank_10 : decode cM_rank 10 = .ok (.istore_n 2, 1) := by decide +kernel
theorem dM_rank_11 : decode cM_rank 11 = .ok (.iload_n 1, 1) := by decide +kernel
theorem dM_rank_12 : decode cM_rank 12 = .ok (.bipush 124, 2) := by decide +kernel
theorem dM_rank_14 : decode cM_rank 14 = .ok (.if_icmp .ne 25, 3) := by decide +kernel
theorem dM_rank_17 : decode cM_rank 17 = .ok (.iload_n 2, 1) := by decide +kernel
theorem dM_rank_18 : decode cM_rank 18 = .ok (.bipush 124, 2) := by decide +kernel
theorem dM_rank_20 : decode cM_rank 20 = .ok (.if_icmp .ne 7, 3) := by decide +kernel
theorem dM_rank_23 : decode cM_rank 23 = .ok (.iconst 1, 1) := by decide +kernel
theorem dM_rank_24 : decode cM_rank 24 = .ok (.goto 14, 3) := by decide +kernel
theorem dM_rank_27 : decode cM_rank 27 = .ok (.iload_n 2, 1) := by decide +kernel
theorem dM_rank_28 : decode cM_rank 28 = .ok (.bipush 61, 2) := by decide +kernel
theorem dM_rank_30 : decode cM_rank 30 = .ok (.if_icmp .ne 7, 3) := by decide +kernel
theorem dM_rank_33 : decode cM_rank 33 = .ok (.iconst 0, 1) := by decide +kernel
theorem dM_rank_34 : decode cM_rank 34 = .ok (.goto 4, 3) := by decide +kernel
theorem dM_rank_37 : decode cM_rank 37 = .ok (.iconst 3, 1) := by decide +kernel
theorem dM_rank_38 : decode cM_rank 38 = .ok (.ireturn, 1) := by decide +kernel
theorem dM_rank_39 : decode cM_rank 39 = .ok (.iload_n 1, 1) := by decide +kernel
theorem dM_rank_40 : decode cM_rank 40 = .ok (.bipush 38, 2) := by decide +kernel
theorem dM_rank_42 : decode cM_rank 42 = .ok (.if_icmp .ne 25, 3) := by decide +kernel
theorem dM_rank_45 : decode cM_rank 45 = .ok (.iload_n 2, 1) := by decide +kernel
theorem dM_rank_46 : decode cM_rank 46 = .ok (.bipush 38, 2) := by decide +kernel
theorem dM_rank_48 : decode cM_rank 48 = .ok (.if_icmp .ne 7, 3) := by decide +kernel
theorem dM_rank_51 : decode cM_rank 51 = .ok (.iconst 2, 1) := by decide +kernel
theorem dM_rank_52 : decode cM_rank 52 = .ok (.goto 14, 3) := by decide +kernel
theorem dM_rank_55 : decode cM_rank 55 = .ok (.iload_n 2, 1) := by decide +kernel
theorem dM_rank_56 : decode cM_rank 56 = .ok (.bipush 61, 2) := by decide +kernel
theorem dM_rank_58 : decode cM_rank 58 = .ok (.if_icmp .ne 7, 3) := by decide +kernel
theorem dM_rank_61 : decode cM_rank 61 = .ok (.iconst 0, 1) := by decide +kernel
theorem dM_rank_62 : decode cM_rank 62 = .ok (.goto 4, 3) := by decide +kernel
theorem dM_rank_65 : decode cM_rank 65 = .ok (.iconst 5, 1) := by decide +kernel
theorem dM_rank_66 : decode cM_rank 66 = .ok (.ireturn, 1) := by decide +kernel
theorem dM_rank_67 : decode cM_rank 67 = .ok (.iload_n 1, 1) := by decide +kernel
theorem dM_rank_68 : decode cM_rank 68 = .ok (.bipush 94, 2) := by decide +kernel
theorem dM_rank_70 : decode cM_rank 70 = .ok (.if_icmp .ne 15, 3) := by decide +kernel
theorem dM_rank_73 : decode cM_rank 73 = .ok (.iload_n 2, 1) := by decide +kernel
theorem dM_rank_74 : decode cM_rank 74 = .ok (.bipush 61, 2) := by decide +kernel
theorem dM_rank_76 : decode cM_rank 76 = .ok (.if_icmp .ne 7, 3) := by decide +kernel
theorem dM_rank_79 : decode cM_rank 79 = .ok (.iconst 0, 1) := by decide +kernel
theorem dM_rank_80 : decode cM_rank 80 = .ok (.goto 4, 3) := by decide +kernel
theorem dM_rank_83 : decode cM_rank 83 = .ok (.iconst 4, 1) := by decide +kernel
theorem dM_rank_84 : decode cM_rank 84 = .ok (.ireturn, 1) := by decide +kernel
theorem dM_rank_85 : decode cM_rank 85 = .ok (.iload_n 1, 1) := by decide +kernel
theorem dM_rank_86 : decode cM_rank 86 = .ok (.bipush 61, 2) := by decide +kernel
theorem dM_rank_88 : decode cM_rank 88 = .ok (.if_icmp .eq 9, 3) := by decide +kernel
theorem dM_rank_91 : decode cM_rank 91 = .ok (.iload_n 1, 1) := by decide +kernel
theorem dM_rank_92 : decode cM_rank 92 = .ok (.bipush 33, 2) := by decide +kernel
theorem dM_rank_94 : decode cM_rank 94 = .ok (.if_icmp .ne 16, 3) := by decide +kernel
theorem dM_rank_97 : decode cM_rank 97 = .ok (.iload_n 2, 1) := by decide +kernel
theorem dM_rank_98 : decode cM_rank 98 = .ok (.bipush 61, 2) := by decide +kernel
theorem dM_rank_100 : decode cM_rank 100 = .ok (.if_icmp .ne 8, 3) := by decide +kernel
theorem dM_rank_103 : decode cM_rank 103 = .ok (.bipush 6, 2) := by decide +kernel
theorem dM_rank_105 : decode cM_rank 105 = .ok (.goto 4, 3) := by decide +kernel
theorem dM_rank_108 : decode cM_rank 108 = .ok (.iconst 0, 1) := by decide +kernel
theorem dM_rank_109 : decode cM_rank 109 = .ok (.ireturn, 1) := by decide +kernel
theorem dM_rank_110 : decode cM_rank 110 = .ok (.iload_n 1, 1) := by decide +kernel
theorem dM_rank_111 : decode cM_rank 111 = .ok (.bipush 60, 2) := by decide +kernel
theorem dM_rank_113 : decode cM_rank 113 = .ok (.if_icmp .eq 9, 3) := by decide +kernel
theorem dM_rank_116 : decode cM_rank 116 = .ok (.iload_n 1, 1) := by decide +kernel
theorem dM_rank_117 : decode cM_rank 117 = .ok (.bipush 62, 2) := by decide +kernel
theorem dM_rank_119 : decode cM_rank 119 = .ok (.if_icmp .ne 30, 3) := by decide +kernel
theorem dM_rank_122 : decode cM_rank 122 = .ok (.iload_n 2, 1) := by decide +kernel
theorem dM_rank_123 : decode cM_rank 123 = .ok (.iload_n 1, 1) := by decide +kernel
theorem dM_rank_124 : decode cM_rank 124 = .ok (.if_icmp .eq 8, 3) := by decide +kernel
theorem dM_rank_127 : decode cM_rank 127 = .ok (.bipush 7, 2) := by decide +kernel
theorem dM_rank_129 : decode cM_rank 129 = .ok (.goto 19, 3) := by decide +kernel
theorem dM_rank_132 : decode cM_rank 132 = .ok (.aload_n 0, 1) := by decide +kernel
theorem dM_rank_133 : decode cM_rank 133 = .ok (.iconst 2, 1) := by decide +kernel
theorem dM_rank_134 : decode cM_rank 134 = .ok (.invokevirtual 131, 3) := by decide +kernel
theorem dM_rank_137 : decode cM_rank 137 = .ok (.bipush 61, 2) := by decide +kernel
theorem dM_rank_139 : decode cM_rank 139 = .ok (.if_icmp .ne 7, 3) := by decide +kernel
theorem dM_rank_142 : decode cM_rank 142 = .ok (.iconst 0, 1) := by decide +kernel
theorem dM_rank_143 : decode cM_rank 143 = .ok (.goto 5, 3) := by decide +kernel
theorem dM_rank_146 : decode cM_rank 146 = .ok (.bipush 8, 2) := by decide +kernel
theorem dM_rank_148 : decode cM_rank 148 = .ok (.ireturn, 1) := by decide +kernel
theorem dM_rank_149 : decode cM_rank 149 = .ok (.iload_n 1, 1) := by decide +kernel
theorem dM_rank_150 : decode cM_rank 150 = .ok (.bipush 43, 2) := by decide +kernel
theorem dM_rank_152 : decode cM_rank 152 = .ok (.if_icmp .eq 9, 3) := by decide +kernel
theorem dM_rank_155 : decode cM_rank 155 = .ok (.iload_n 1, 1) := by decide +kernel
theorem dM_rank_156 : decode cM_rank 156 = .ok (.bipush 45, 2) := by decide +kernel
theorem dM_rank_158 : decode cM_rank 158 = .ok (.if_icmp .ne 16, 3) := by decide +kernel
theorem dM_rank_161 : decode cM_rank 161 = .ok (.iload_n 2, 1) := by decide +kernel
theorem dM_rank_162 : decode cM_rank 162 = .ok (.bipush 61, 2) := by decide +kernel
theorem dM_rank_164 : decode cM_rank 164 = .ok (.if_icmp .ne 7, 3) := by decide +kernel
theorem dM_rank_167 : decode cM_rank 167 = .ok (.iconst 0, 1) := by decide +kernel
theorem dM_rank_168 : decode cM_rank 168 = .ok (.goto 5, 3) := by decide +kernel
theorem dM_rank_171 : decode cM_rank 171 = .ok (.bipush 9, 2) := by decide +kernel
theorem dM_rank_173 : decode cM_rank 173 = .ok (.ireturn, 1) := by decide +kernel
theorem dM_rank_174 : decode cM_rank 174 = .ok (.iload_n 1, 1) := by decide +kernel
theorem dM_rank_175 : decode cM_rank 175 = .ok (.bipush 42, 2) := by decide +kernel
theorem dM_rank_177 : decode cM_rank 177 = .ok (.if_icmp .eq 15, 3) := by decide +kernel
theorem dM_rank_180 : decode cM_rank 180 = .ok (.iload_n 1, 1) := by decide +kernel
theorem dM_rank_181 : decode cM_rank 181 = .ok (.bipush 47, 2) := by decide +kernel
theorem dM_rank_183 : decode cM_rank 183 = .ok (.if_icmp .eq 9, 3) := by decide +kernel
theorem dM_rank_186 : decode cM_rank 186 = .ok (.iload_n 1, 1) := by decide +kernel
theorem dM_rank_187 : decode cM_rank 187 = .ok (.bipush 37, 2) := by decide +kernel
theorem dM_rank_189 : decode cM_rank 189 = .ok (.if_icmp .ne 14, 3) := by decide +kernel
theorem dM_rank_192 : decode cM_rank 192 = .ok (.iload_n 2, 1) := by decide +kernel
theorem dM_rank_193 : decode cM_rank 193 = .ok (.bipush 61, 2) := by decide +kernel
theorem dM_rank_195 : decode cM_rank 195 = .ok (.if_icmp .eq 8, 3) := by decide +kernel
theorem dM_rank_198 : decode cM_rank 198 = .ok (.bipush 10, 2) := by decide +kernel
theorem dM_rank_200 : decode cM_rank 200 = .ok (.goto 4, 3) := by decide +kernel
theorem dM_rank_203 : decode cM_rank 203 = .ok (.iconst 0, 1) := by decide +kernel
theorem dM_rank_204 : decode cM_rank 204 = .ok (.ireturn, 1) := by decide +kernel
theorem dM_joined_0 : decode cM_joined 0 = .ok (.iload_n 1, 1) := by decide +kernel
theorem dM_joined_1 : decode cM_joined 1 = .ok (.lookupswitch 317 #[(33, 185), (37, 217), (38, 132), (42, 211), (43, 199), (45, 205), (47, 217), (60, 276), (61, 171), (94, 165), (124, 99)], 99) := by decide +kernel
theorem dM_joined_100 : decode cM_joined 100 = .ok (.iload_n 2, 1) := by decide +kernel
theorem dM_joined_101 : decode cM_joined 101 = .ok (.iconst 1, 1) := by decide +kernel
theorem dM_joined_102 : decode cM_joined 102 = .ok (.if_icmp .ne 25, 3) := by decide +kernel
theorem dM_joined_105 : decode cM_joined 105 = .ok (.lload 4, 2) := by decide +kernel
theorem dM_joined_107 : decode cM_joined 107 = .ok (.lconst 0, 1) := by decide +kernel
theorem dM_joined_108 : decode cM_joined 108 = .ok (.lcmp, 1) := by decide +kernel
theorem dM_joined_109 : decode cM_joined 109 = .ok (.ifCond .ne 10, 3) := by decide +kernel
theorem dM_joined_112 : decode cM_joined 112 = .ok (.lload 6, 2) := by decide +kernel
theorem dM_joined_114 : decode cM_joined 114 = .ok (.lconst 0, 1) := by decide +kernel
theorem dM_joined_115 : decode cM_joined 115 = .ok (.lcmp, 1) := by decide +kernel
theorem dM_joined_116 : decode cM_joined 116 = .ok (.ifCond .eq 7, 3) := by decide +kernel
theorem dM_joined_119 : decode cM_joined 119 = .ok (.lconst 1, 1) := by decide +kernel
theorem dM_joined_120 : decode cM_joined 120 = .ok (.goto 12, 3) := by decide +kernel
theorem dM_joined_123 : decode cM_joined 123 = .ok (.lconst 0, 1) := by decide +kernel
theorem dM_joined_124 : decode cM_joined 124 = .ok (.goto 8, 3) := by decide +kernel
theorem dM_joined_127 : decode cM_joined 127 = .ok (.lload 4, 2) := by decide +kernel
theorem dM_joined_129 : decode cM_joined 129 = .ok (.lload 6, 2) := by decide +kernel
theorem dM_joined_131 : decode cM_joined 131 = .ok (.lor, 1) := by decide +kernel
theorem dM_joined_132 : decode cM_joined 132 = .ok (.lreturn, 1) := by decide +kernel
theorem dM_joined_133 : decode cM_joined 133 = .ok (.iload_n 2, 1) := by decide +kernel
theorem dM_joined_134 : decode cM_joined 134 = .ok (.iconst 2, 1) := by decide +kernel
theorem dM_joined_135 : decode cM_joined 135 = .ok (.if_icmp .ne 25, 3) := by decide +kernel
theorem dM_joined_138 : decode cM_joined 138 = .ok (.lload 4, 2) := by decide +kernel
theorem dM_joined_140 : decode cM_joined 140 = .ok (.lconst 0, 1) := by decide +kernel
theorem dM_joined_141 : decode cM_joined 141 = .ok (.lcmp, 1) := by decide +kernel
theorem dM_joined_142 : decode cM_joined 142 = .ok (.ifCond .eq 14, 3) := by decide +kernel
theorem dM_joined_145 : decode cM_joined 145 = .ok (.lload 6, 2) := by decide +kernel
theorem dM_joined_147 : decode cM_joined 147 = .ok (.lconst 0, 1) := by decide +kernel
theorem dM_joined_148 : decode cM_joined 148 = .ok (.lcmp, 1) := by decide +kernel
theorem dM_joined_149 : decode cM_joined 149 = .ok (.ifCond .eq 7, 3) := by decide +kernel
theorem dM_joined_152 : decode cM_joined 152 = .ok (.lconst 1, 1) := by decide +kernel
theorem dM_joined_153 : decode cM_joined 153 = .ok (.goto 12, 3) := by decide +kernel
theorem dM_joined_156 : decode cM_joined 156 = .ok (.lconst 0, 1) := by decide +kernel
theorem dM_joined_157 : decode cM_joined 157 = .ok (.goto 8, 3) := by decide +kernel
theorem dM_joined_160 : decode cM_joined 160 = .ok (.lload 4, 2) := by decide +kernel
theorem dM_joined_162 : decode cM_joined 162 = .ok (.lload 6, 2) := by decide +kernel
theorem dM_joined_164 : decode cM_joined 164 = .ok (.land, 1) := by decide +kernel
theorem dM_joined_165 : decode cM_joined 165 = .ok (.lreturn, 1) := by decide +kernel
theorem dM_joined_166 : decode cM_joined 166 = .ok (.lload 4, 2) := by decide +kernel
theorem dM_joined_168 : decode cM_joined 168 = .ok (.lload 6, 2) := by decide +kernel
theorem dM_joined_170 : decode cM_joined 170 = .ok (.lxor, 1) := by decide +kernel
theorem dM_joined_171 : decode cM_joined 171 = .ok (.lreturn, 1) := by decide +kernel
theorem dM_joined_172 : decode cM_joined 172 = .ok (.lload 4, 2) := by decide +kernel
theorem dM_joined_174 : decode cM_joined 174 = .ok (.lload 6, 2) := by decide +kernel
theorem dM_joined_176 : decode cM_joined 176 = .ok (.lcmp, 1) := by decide +kernel
theorem dM_joined_177 : decode cM_joined 177 = .ok (.ifCond .ne 7, 3) := by decide +kernel
theorem dM_joined_180 : decode cM_joined 180 = .ok (.lconst 1, 1) := by decide +kernel
theorem dM_joined_181 : decode cM_joined 181 = .ok (.goto 4, 3) := by decide +kernel
theorem dM_joined_184 : decode cM_joined 184 = .ok (.lconst 0, 1) := by decide +kernel
theorem dM_joined_185 : decode cM_joined 185 = .ok (.lreturn, 1) := by decide +kernel
theorem dM_joined_186 : decode cM_joined 186 = .ok (.lload 4, 2) := by decide +kernel
theorem dM_joined_188 : decode cM_joined 188 = .ok (.lload 6, 2) := by decide +kernel
theorem dM_joined_190 : decode cM_joined 190 = .ok (.lcmp, 1) := by decide +kernel
theorem dM_joined_191 : decode cM_joined 191 = .ok (.ifCond .eq 7, 3) := by decide +kernel
theorem dM_joined_194 : decode cM_joined 194 = .ok (.lconst 1, 1) := by decide +kernel
theorem dM_joined_195 : decode cM_joined 195 = .ok (.goto 4, 3) := by decide +kernel
theorem dM_joined_198 : decode cM_joined 198 = .ok (.lconst 0, 1) := by decide +kernel
theorem dM_joined_199 : decode cM_joined 199 = .ok (.lreturn, 1) := by decide +kernel
theorem dM_joined_200 : decode cM_joined 200 = .ok (.lload 4, 2) := by decide +kernel
theorem dM_joined_202 : decode cM_joined 202 = .ok (.lload 6, 2) := by decide +kernel
theorem dM_joined_204 : decode cM_joined 204 = .ok (.ladd, 1) := by decide +kernel
theorem dM_joined_205 : decode cM_joined 205 = .ok (.lreturn, 1) := by decide +kernel
theorem dM_joined_206 : decode cM_joined 206 = .ok (.lload 4, 2) := by decide +kernel
theorem dM_joined_208 : decode cM_joined 208 = .ok (.lload 6, 2) := by decide +kernel
theorem dM_joined_210 : decode cM_joined 210 = .ok (.lsub, 1) := by decide +kernel
theorem dM_joined_211 : decode cM_joined 211 = .ok (.lreturn, 1) := by decide +kernel
theorem dM_joined_212 : decode cM_joined 212 = .ok (.lload 4, 2) := by decide +kernel
theorem dM_joined_214 : decode cM_joined 214 = .ok (.lload 6, 2) := by decide +kernel
theorem dM_joined_216 : decode cM_joined 216 = .ok (.lmul, 1) := by decide +kernel
theorem dM_joined_217 : decode cM_joined 217 = .ok (.lreturn, 1) := by decide +kernel
theorem dM_joined_218 : decode cM_joined 218 = .ok (.aload_n 0, 1) := by decide +kernel
theorem dM_joined_219 : decode cM_joined 219 = .ok (.aload_n 0, 1) := by decide +kernel
theorem dM_joined_220 : decode cM_joined 220 = .ok (.getfield 102, 3) := by decide +kernel
theorem dM_joined_223 : decode cM_joined 223 = .ok (.ifCond .ne 15, 3) := by decide +kernel
theorem dM_joined_226 : decode cM_joined 226 = .ok (.iload 8, 2) := by decide +kernel
theorem dM_joined_228 : decode cM_joined 228 = .ok (.ifCond .eq 14, 3) := by decide +kernel
theorem dM_joined_231 : decode cM_joined 231 = .ok (.lload 6, 2) := by decide +kernel
theorem dM_joined_233 : decode cM_joined 233 = .ok (.lconst 0, 1) := by decide +kernel
theorem dM_joined_234 : decode cM_joined 234 = .ok (.lcmp, 1) := by decide +kernel
theorem dM_joined_235 : decode cM_joined 235 = .ok (.ifCond .ne 7, 3) := by decide +kernel
theorem dM_joined_238 : decode cM_joined 238 = .ok (.iconst 1, 1) := by decide +kernel
theorem dM_joined_239 : decode cM_joined 239 = .ok (.goto 4, 3) := by decide +kernel
theorem dM_joined_242 : decode cM_joined 242 = .ok (.iconst 0, 1) := by decide +kernel
theorem dM_joined_243 : decode cM_joined 243 = .ok (.putfield 102, 3) := by decide +kernel
theorem dM_joined_246 : decode cM_joined 246 = .ok (.lload 6, 2) := by decide +kernel
theorem dM_joined_248 : decode cM_joined 248 = .ok (.lconst 0, 1) := by decide +kernel
theorem dM_joined_249 : decode cM_joined 249 = .ok (.lcmp, 1) := by decide +kernel
theorem dM_joined_250 : decode cM_joined 250 = .ok (.ifCond .ne 7, 3) := by decide +kernel
theorem dM_joined_253 : decode cM_joined 253 = .ok (.lconst 0, 1) := by decide +kernel
theorem dM_joined_254 : decode cM_joined 254 = .ok (.goto 22, 3) := by decide +kernel
theorem dM_joined_257 : decode cM_joined 257 = .ok (.iload_n 1, 1) := by decide +kernel
theorem dM_joined_258 : decode cM_joined 258 = .ok (.bipush 47, 2) := by decide +kernel
theorem dM_joined_260 : decode cM_joined 260 = .ok (.if_icmp .ne 11, 3) := by decide +kernel
theorem dM_joined_263 : decode cM_joined 263 = .ok (.lload 4, 2) := by decide +kernel
theorem dM_joined_265 : decode cM_joined 265 = .ok (.lload 6, 2) := by decide +kernel
theorem dM_joined_267 : decode cM_joined 267 = .ok (.ldiv, 1) := by decide +kernel
theorem dM_joined_268 : decode cM_joined 268 = .ok (.goto 8, 3) := by decide +kernel
theorem dM_joined_271 : decode cM_joined 271 = .ok (.lload 4, 2) := by decide +kernel
theorem dM_joined_273 : decode cM_joined 273 = .ok (.lload 6, 2) := by decide +kernel
theorem dM_joined_275 : decode cM_joined 275 = .ok (.lrem, 1) := by decide +kernel
theorem dM_joined_276 : decode cM_joined 276 = .ok (.lreturn, 1) := by decide +kernel
theorem dM_joined_277 : decode cM_joined 277 = .ok (.iload_n 2, 1) := by decide +kernel
theorem dM_joined_278 : decode cM_joined 278 = .ok (.bipush 8, 2) := by decide +kernel
theorem dM_joined_280 : decode cM_joined 280 = .ok (.if_icmp .ne 12, 3) := by decide +kernel
theorem dM_joined_283 : decode cM_joined 283 = .ok (.lload 4, 2) := by decide +kernel
theorem dM_joined_285 : decode cM_joined 285 = .ok (.lload 6, 2) := by decide +kernel
theorem dM_joined_287 : decode cM_joined 287 = .ok (.l2i, 1) := by decide +kernel
theorem dM_joined_288 : decode cM_joined 288 = .ok (.lshl, 1) := by decide +kernel
theorem dM_joined_289 : decode cM_joined 289 = .ok (.goto 28, 3) := by decide +kernel
theorem dM_joined_292 : decode cM_joined 292 = .ok (.lload 4, 2) := by decide +kernel
theorem dM_joined_294 : decode cM_joined 294 = .ok (.lload 6, 2) := by decide +kernel
theorem dM_joined_296 : decode cM_joined 296 = .ok (.lcmp, 1) := by decide +kernel
theorem dM_joined_297 : decode cM_joined 297 = .ok (.ifCond .lt 15, 3) := by decide +kernel
theorem dM_joined_300 : decode cM_joined 300 = .ok (.iload_n 3, 1) := by decide +kernel
theorem dM_joined_301 : decode cM_joined 301 = .ok (.ifCond .eq 15, 3) := by decide +kernel
theorem dM_joined_304 : decode cM_joined 304 = .ok (.lload 4, 2) := by decide +kernel
theorem dM_joined_306 : decode cM_joined 306 = .ok (.lload 6, 2) := by decide +kernel
theorem dM_joined_308 : decode cM_joined 308 = .ok (.lcmp, 1) := by decide +kernel
theorem dM_joined_309 : decode cM_joined 309 = .ok (.ifCond .ne 7, 3) := by decide +kernel
theorem dM_joined_312 : decode cM_joined 312 = .ok (.lconst 1, 1) := by decide +kernel
theorem dM_joined_313 : decode cM_joined 313 = .ok (.goto 4, 3) := by decide +kernel
theorem dM_joined_316 : decode cM_joined 316 = .ok (.lconst 0, 1) := by decide +kernel
theorem dM_joined_317 : decode cM_joined 317 = .ok (.lreturn, 1) := by decide +kernel
theorem dM_joined_318 : decode cM_joined 318 = .ok (.iload_n 2, 1) := by decide +kernel
theorem dM_joined_319 : decode cM_joined 319 = .ok (.bipush 8, 2) := by decide +kernel
theorem dM_joined_321 : decode cM_joined 321 = .ok (.if_icmp .ne 12, 3) := by decide +kernel
theorem dM_joined_324 : decode cM_joined 324 = .ok (.lload 4, 2) := by decide +kernel
theorem dM_joined_326 : decode cM_joined 326 = .ok (.lload 6, 2) := by decide +kernel
theorem dM_joined_328 : decode cM_joined 328 = .ok (.l2i, 1) := by decide +kernel
theorem dM_joined_329 : decode cM_joined 329 = .ok (.lshr, 1) := by decide +kernel
theorem dM_joined_330 : decode cM_joined 330 = .ok (.goto 28, 3) := by decide +kernel
theorem dM_joined_333 : decode cM_joined 333 = .ok (.lload 4, 2) := by decide +kernel
theorem dM_joined_335 : decode cM_joined 335 = .ok (.lload 6, 2) := by decide +kernel
theorem dM_joined_337 : decode cM_joined 337 = .ok (.lcmp, 1) := by decide +kernel
theorem dM_joined_338 : decode cM_joined 338 = .ok (.ifCond .gt 15, 3) := by decide +kernel
theorem dM_joined_341 : decode cM_joined 341 = .ok (.iload_n 3, 1) := by decide +kernel
theorem dM_joined_342 : decode cM_joined 342 = .ok (.ifCond .eq 15, 3) := by decide +kernel
theorem dM_joined_345 : decode cM_joined 345 = .ok (.lload 4, 2) := by decide +kernel
theorem dM_joined_347 : decode cM_joined 347 = .ok (.lload 6, 2) := by decide +kernel
theorem dM_joined_349 : decode cM_joined 349 = .ok (.lcmp, 1) := by decide +kernel
theorem dM_joined_350 : decode cM_joined 350 = .ok (.ifCond .ne 7, 3) := by decide +kernel
theorem dM_joined_353 : decode cM_joined 353 = .ok (.lconst 1, 1) := by decide +kernel
theorem dM_joined_354 : decode cM_joined 354 = .ok (.goto 4, 3) := by decide +kernel
theorem dM_joined_357 : decode cM_joined 357 = .ok (.lconst 0, 1) := by decide +kernel
theorem dM_joined_358 : decode cM_joined 358 = .ok (.lreturn, 1) := by decide +kernel
theorem dM_term_0 : decode cM_term 0 = .ok (.aload_n 0, 1) := by decide +kernel
theorem dM_term_1 : decode cM_term 1 = .ok (.invokevirtual 127, 3) := by decide +kernel
theorem dM_term_4 : decode cM_term 4 = .ok (.istore_n 2, 1) := by decide +kernel
theorem dM_term_5 : decode cM_term 5 = .ok (.iload_n 2, 1) := by decide +kernel
theorem dM_term_6 : decode cM_term 6 = .ok (.bipush 43, 2) := by decide +kernel
theorem dM_term_8 : decode cM_term 8 = .ok (.if_icmp .eq 21, 3) := by decide +kernel
theorem dM_term_11 : decode cM_term 11 = .ok (.iload_n 2, 1) := by decide +kernel
theorem dM_term_12 : decode cM_term 12 = .ok (.bipush 45, 2) := by decide +kernel
theorem dM_term_14 : decode cM_term 14 = .ok (.if_icmp .eq 15, 3) := by decide +kernel
theorem dM_term_17 : decode cM_term 17 = .ok (.iload_n 2, 1) := by decide +kernel
theorem dM_term_18 : decode cM_term 18 = .ok (.bipush 33, 2) := by decide +kernel
theorem dM_term_20 : decode cM_term 20 = .ok (.if_icmp .eq 9, 3) := by decide +kernel
theorem dM_term_23 : decode cM_term 23 = .ok (.iload_n 2, 1) := by decide +kernel
theorem dM_term_24 : decode cM_term 24 = .ok (.bipush 126, 2) := by decide +kernel
theorem dM_term_26 : decode cM_term 26 = .ok (.if_icmp .ne 37, 3) := by decide +kernel
theorem dM_term_29 : decode cM_term 29 = .ok (.aload_n 0, 1) := by decide +kernel
theorem dM_term_30 : decode cM_term 30 = .ok (.dup, 1) := by decide +kernel
theorem dM_term_31 : decode cM_term 31 = .ok (.getfield 108, 3) := by decide +kernel
theorem dM_term_34 : decode cM_term 34 = .ok (.iconst 1, 1) := by decide +kernel
theorem dM_term_35 : decode cM_term 35 = .ok (.iadd, 1) := by decide +kernel
theorem dM_term_36 : decode cM_term 36 = .ok (.putfield 108, 3) := by decide +kernel
theorem dM_term_39 : decode cM_term 39 = .ok (.aload_n 0, 1) := by decide +kernel
theorem dM_term_40 : decode cM_term 40 = .ok (.invokevirtual 140, 3) := by decide +kernel
theorem dM_term_43 : decode cM_term 43 = .ok (.aload_n 0, 1) := by decide +kernel
theorem dM_term_44 : decode cM_term 44 = .ok (.bipush 8, 2) := by decide +kernel
theorem dM_term_46 : decode cM_term 46 = .ok (.iload_n 1, 1) := by decide +kernel
theorem dM_term_47 : decode cM_term 47 = .ok (.iload_n 2, 1) := by decide +kernel
theorem dM_term_48 : decode cM_term 48 = .ok (.iconst 0, 1) := by decide +kernel
theorem dM_term_49 : decode cM_term 49 = .ok (.lconst 0, 1) := by decide +kernel
theorem dM_term_50 : decode cM_term 50 = .ok (.invokevirtual 117, 3) := by decide +kernel
theorem dM_term_53 : decode cM_term 53 = .ok (.aload_n 0, 1) := by decide +kernel
theorem dM_term_54 : decode cM_term 54 = .ok (.bipush 7, 2) := by decide +kernel
theorem dM_term_56 : decode cM_term 56 = .ok (.iload_n 1, 1) := by decide +kernel
theorem dM_term_57 : decode cM_term 57 = .ok (.invokevirtual 143, 3) := by decide +kernel
theorem dM_term_60 : decode cM_term 60 = .ok (.goto 167, 3) := by decide +kernel
theorem dM_term_63 : decode cM_term 63 = .ok (.iload_n 2, 1) := by decide +kernel
theorem dM_term_64 : decode cM_term 64 = .ok (.bipush 40, 2) := by decide +kernel
theorem dM_term_66 : decode cM_term 66 = .ok (.if_icmp .ne 33, 3) := by decide +kernel
theorem dM_term_69 : decode cM_term 69 = .ok (.aload_n 0, 1) := by decide +kernel
theorem dM_term_70 : decode cM_term 70 = .ok (.dup, 1) := by decide +kernel
theorem dM_term_71 : decode cM_term 71 = .ok (.getfield 108, 3) := by decide +kernel
theorem dM_term_74 : decode cM_term 74 = .ok (.iconst 1, 1) := by decide +kernel
theorem dM_term_75 : decode cM_term 75 = .ok (.iadd, 1) := by decide +kernel
theorem dM_term_76 : decode cM_term 76 = .ok (.putfield 108, 3) := by decide +kernel
theorem dM_term_79 : decode cM_term 79 = .ok (.aload_n 0, 1) := by decide +kernel
theorem dM_term_80 : decode cM_term 80 = .ok (.invokevirtual 140, 3) := by decide +kernel
theorem dM_term_83 : decode cM_term 83 = .ok (.aload_n 0, 1) := by decide +kernel
theorem dM_term_84 : decode cM_term 84 = .ok (.bipush 9, 2) := by decide +kernel
theorem dM_term_86 : decode cM_term 86 = .ok (.iload_n 1, 1) := by decide +kernel
theorem dM_term_87 : decode cM_term 87 = .ok (.invokevirtual 143, 3) := by decide +kernel
theorem dM_term_90 : decode cM_term 90 = .ok (.aload_n 0, 1) := by decide +kernel
theorem dM_term_91 : decode cM_term 91 = .ok (.iconst 0, 1) := by decide +kernel
theorem dM_term_92 : decode cM_term 92 = .ok (.iload_n 1, 1) := by decide +kernel
theorem dM_term_93 : decode cM_term 93 = .ok (.invokevirtual 143, 3) := by decide +kernel
theorem dM_term_96 : decode cM_term 96 = .ok (.goto 131, 3) := by decide +kernel
theorem dM_term_99 : decode cM_term 99 = .ok (.iload_n 2, 1) := by decide +kernel
theorem dM_term_100 : decode cM_term 100 = .ok (.ifCond .lt 49, 3) := by decide +kernel
theorem dM_term_103 : decode cM_term 103 = .ok (.iload_n 2, 1) := by decide +kernel
theorem dM_term_104 : decode cM_term 104 = .ok (.invokestatic 82, 3) := by decide +kernel
theorem dM_term_107 : decode cM_term 107 = .ok (.ifCond .eq 42, 3) := by decide +kernel
theorem dM_term_110 : decode cM_term 110 = .ok (.aload_n 0, 1) := by decide +kernel
theorem dM_term_111 : decode cM_term 111 = .ok (.getfield 108, 3) := by decide +kernel
theorem dM_term_114 : decode cM_term 114 = .ok (.istore_n 3, 1) := by decide +kernel
theorem dM_term_115 : decode cM_term 115 = .ok (.aload_n 0, 1) := by decide +kernel
theorem dM_term_116 : decode cM_term 116 = .ok (.aload_n 0, 1) := by decide +kernel
theorem dM_term_117 : decode cM_term 117 = .ok (.invokevirtual 134, 3) := by decide +kernel
theorem dM_term_120 : decode cM_term 120 = .ok (.putfield 108, 3) := by decide +kernel
theorem dM_term_123 : decode cM_term 123 = .ok (.aload_n 0, 1) := by decide +kernel
theorem dM_term_124 : decode cM_term 124 = .ok (.iload_n 1, 1) := by decide +kernel
theorem dM_term_125 : decode cM_term 125 = .ok (.ifCond .eq 17, 3) := by decide +kernel
theorem dM_term_128 : decode cM_term 128 = .ok (.aload_n 0, 1) := by decide +kernel
theorem dM_term_129 : decode cM_term 129 = .ok (.iload_n 3, 1) := by decide +kernel
theorem dM_term_130 : decode cM_term 130 = .ok (.aload_n 0, 1) := by decide +kernel
theorem dM_term_131 : decode cM_term 131 = .ok (.getfield 108, 3) := by decide +kernel
theorem dM_term_134 : decode cM_term 134 = .ok (.iload_n 3, 1) := by decide +kernel
theorem dM_term_135 : decode cM_term 135 = .ok (.isub, 1) := by decide +kernel
theorem dM_term_136 : decode cM_term 136 = .ok (.invokevirtual 151, 3) := by decide +kernel
theorem dM_term_139 : decode cM_term 139 = .ok (.goto 4, 3) := by decide +kernel
theorem dM_term_142 : decode cM_term 142 = .ok (.lconst 0, 1) := by decide +kernel
theorem dM_term_143 : decode cM_term 143 = .ok (.invokevirtual 163, 3) := by decide +kernel
theorem dM_term_146 : decode cM_term 146 = .ok (.goto 81, 3) := by decide +kernel
theorem dM_term_149 : decode cM_term 149 = .ok (.iload_n 2, 1) := by decide +kernel
theorem dM_term_150 : decode cM_term 150 = .ok (.ifCond .lt 29, 3) := by decide +kernel
theorem dM_term_153 : decode cM_term 153 = .ok (.iload_n 2, 1) := by decide +kernel
theorem dM_term_154 : decode cM_term 154 = .ok (.invokestatic 85, 3) := by decide +kernel
theorem dM_term_157 : decode cM_term 157 = .ok (.ifCond .eq 22, 3) := by decide +kernel
theorem dM_term_160 : decode cM_term 160 = .ok (.aload_n 0, 1) := by decide +kernel
theorem dM_term_161 : decode cM_term 161 = .ok (.aload_n 0, 1) := by decide +kernel
theorem dM_term_162 : decode cM_term 162 = .ok (.getfield 13, 3) := by decide +kernel
theorem dM_term_165 : decode cM_term 165 = .ok (.aload_n 0, 1) := by decide +kernel
theorem dM_term_166 : decode cM_term 166 = .ok (.getfield 108, 3) := by decide +kernel
theorem dM_term_169 : decode cM_term 169 = .ok (.aload_n 0, 1) := by decide +kernel
theorem dM_term_170 : decode cM_term 170 = .ok (.getfield 111, 3) := by decide +kernel
theorem dM_term_173 : decode cM_term 173 = .ok (.invokevirtual 99, 3) := by decide +kernel
theorem dM_term_176 : decode cM_term 176 = .ok (.goto 4, 3) := by decide +kernel
theorem dM_term_179 : decode cM_term 179 = .ok (.iconst (-1), 1) := by decide +kernel
theorem dM_term_180 : decode cM_term 180 = .ok (.istore_n 3, 1) := by decide +kernel
theorem dM_term_181 : decode cM_term 181 = .ok (.aload_n 0, 1) := by decide +kernel
theorem dM_term_182 : decode cM_term 182 = .ok (.aload_n 0, 1) := by decide +kernel
theorem dM_term_183 : decode cM_term 183 = .ok (.getfield 102, 3) := by decide +kernel
theorem dM_term_186 : decode cM_term 186 = .ok (.ifCond .ne 8, 3) := by decide +kernel
theorem dM_term_189 : decode cM_term 189 = .ok (.iload_n 3, 1) := by decide +kernel
theorem dM_term_190 : decode cM_term 190 = .ok (.iconst (-1), 1) := by decide +kernel
theorem dM_term_191 : decode cM_term 191 = .ok (.if_icmp .ne 7, 3) := by decide +kernel
theorem dM_term_194 : decode cM_term 194 = .ok (.iconst 1, 1) := by decide +kernel
theorem dM_term_195 : decode cM_term 195 = .ok (.goto 4, 3) := by decide +kernel
theorem dM_term_198 : decode cM_term 198 = .ok (.iconst 0, 1) := by decide +kernel
theorem dM_term_199 : decode cM_term 199 = .ok (.putfield 102, 3) := by decide +kernel
theorem dM_term_202 : decode cM_term 202 = .ok (.aload_n 0, 1) := by decide +kernel
theorem dM_term_203 : decode cM_term 203 = .ok (.iload_n 3, 1) := by decide +kernel
theorem dM_term_204 : decode cM_term 204 = .ok (.iconst (-1), 1) := by decide +kernel
theorem dM_term_205 : decode cM_term 205 = .ok (.if_icmp .ne 10, 3) := by decide +kernel
theorem dM_term_208 : decode cM_term 208 = .ok (.aload_n 0, 1) := by decide +kernel
theorem dM_term_209 : decode cM_term 209 = .ok (.getfield 111, 3) := by decide +kernel
theorem dM_term_212 : decode cM_term 212 = .ok (.goto 4, 3) := by decide +kernel
theorem dM_term_215 : decode cM_term 215 = .ok (.iload_n 3, 1) := by decide +kernel
theorem dM_term_216 : decode cM_term 216 = .ok (.putfield 108, 3) := by decide +kernel
theorem dM_term_219 : decode cM_term 219 = .ok (.aload_n 0, 1) := by decide +kernel
theorem dM_term_220 : decode cM_term 220 = .ok (.aload_n 0, 1) := by decide +kernel
theorem dM_term_221 : decode cM_term 221 = .ok (.getfield 91, 3) := by decide +kernel
theorem dM_term_224 : decode cM_term 224 = .ok (.invokevirtual 163, 3) := by decide +kernel
theorem dM_term_227 : decode cM_term 227 = .ok (.return_, 1) := by decide +kernel
theorem dM_give_0 : decode cM_give 0 = .ok (.aload_n 0, 1) := by decide +kernel
theorem dM_give_1 : decode cM_give 1 = .ok (.aload_n 0, 1) := by decide +kernel
theorem dM_give_2 : decode cM_give 2 = .ok (.getfield 13, 3) := by decide +kernel
theorem dM_give_5 : decode cM_give 5 = .ok (.iload_n 1, 1) := by decide +kernel
theorem dM_give_6 : decode cM_give 6 = .ok (.iload_n 2, 1) := by decide +kernel
theorem dM_give_7 : decode cM_give 7 = .ok (.invokevirtual 88, 3) := by decide +kernel
theorem dM_give_10 : decode cM_give 10 = .ok (.istore 5, 2) := by decide +kernel
theorem dM_give_12 : decode cM_give 12 = .ok (.iload 5, 2) := by decide +kernel
theorem dM_give_14 : decode cM_give 14 = .ok (.iconst (-1), 1) := by decide +kernel
theorem dM_give_15 : decode cM_give 15 = .ok (.if_icmp .ne 9, 3) := by decide +kernel
theorem dM_give_18 : decode cM_give 18 = .ok (.aload_n 0, 1) := by decide +kernel
theorem dM_give_19 : decode cM_give 19 = .ok (.iconst 1, 1) := by decide +kernel
theorem dM_give_20 : decode cM_give 20 = .ok (.putfield 102, 3) := by decide +kernel
theorem dM_give_23 : decode cM_give 23 = .ok (.return_, 1) := by decide +kernel
theorem dM_give_24 : decode cM_give 24 = .ok (.iconst 0, 1) := by decide +kernel
theorem dM_give_25 : decode cM_give 25 = .ok (.istore 6, 2) := by decide +kernel
theorem dM_give_27 : decode cM_give 27 = .ok (.lload_n 3, 1) := by decide +kernel
theorem dM_give_28 : decode cM_give 28 = .ok (.lstore 7, 2) := by decide +kernel
theorem dM_give_30 : decode cM_give 30 = .ok (.lload 7, 2) := by decide +kernel
theorem dM_give_32 : decode cM_give 32 = .ok (.lconst 0, 1) := by decide +kernel
theorem dM_give_33 : decode cM_give 33 = .ok (.lcmp, 1) := by decide +kernel
theorem dM_give_34 : decode cM_give 34 = .ok (.ifCond .ne 8, 3) := by decide +kernel
theorem dM_give_37 : decode cM_give 37 = .ok (.iload 6, 2) := by decide +kernel
theorem dM_give_39 : decode cM_give 39 = .ok (.ifCond .ne 55, 3) := by decide +kernel
theorem dM_give_42 : decode cM_give 42 = .ok (.lload 7, 2) := by decide +kernel
theorem dM_give_44 : decode cM_give 44 = .ok (.ldc2_w 106, 3) := by decide +kernel
theorem dM_give_47 : decode cM_give 47 = .ok (.lrem, 1) := by decide +kernel
theorem dM_give_48 : decode cM_give 48 = .ok (.l2i, 1) := by decide +kernel
theorem dM_give_49 : decode cM_give 49 = .ok (.istore 9, 2) := by decide +kernel
theorem dM_give_51 : decode cM_give 51 = .ok (.aload_n 0, 1) := by decide +kernel
theorem dM_give_52 : decode cM_give 52 = .ok (.getfield 39, 3) := by decide +kernel
theorem dM_give_55 : decode cM_give 55 = .ok (.bipush 24, 2) := by decide +kernel
theorem dM_give_57 : decode cM_give 57 = .ok (.iload 5, 2) := by decide +kernel
theorem dM_give_59 : decode cM_give 59 = .ok (.imul, 1) := by decide +kernel
theorem dM_give_60 : decode cM_give 60 = .ok (.iload 6, 2) := by decide +kernel
theorem dM_give_62 : decode cM_give 62 = .ok (.iadd, 1) := by decide +kernel
theorem dM_give_63 : decode cM_give 63 = .ok (.bipush 48, 2) := by decide +kernel
theorem dM_give_65 : decode cM_give 65 = .ok (.iload 9, 2) := by decide +kernel
theorem dM_give_67 : decode cM_give 67 = .ok (.ifCond .ge 9, 3) := by decide +kernel
theorem dM_give_70 : decode cM_give 70 = .ok (.iload 9, 2) := by decide +kernel
theorem dM_give_72 : decode cM_give 72 = .ok (.ineg, 1) := by decide +kernel
theorem dM_give_73 : decode cM_give 73 = .ok (.goto 5, 3) := by decide +kernel
theorem dM_give_76 : decode cM_give 76 = .ok (.iload 9, 2) := by decide +kernel
theorem dM_give_78 : decode cM_give 78 = .ok (.iadd, 1) := by decide +kernel
theorem dM_give_79 : decode cM_give 79 = .ok (.iastore, 1) := by decide +kernel
theorem dM_give_80 : decode cM_give 80 = .ok (.iinc 6 1, 3) := by decide +kernel
theorem dM_give_83 : decode cM_give 83 = .ok (.lload 7, 2) := by decide +kernel
theorem dM_give_85 : decode cM_give 85 = .ok (.ldc2_w 106, 3) := by decide +kernel
theorem dM_give_88 : decode cM_give 88 = .ok (.ldiv, 1) := by decide +kernel
theorem dM_give_89 : decode cM_give 89 = .ok (.lstore 7, 2) := by decide +kernel
theorem dM_give_91 : decode cM_give 91 = .ok (.goto (-61), 3) := by decide +kernel
theorem dM_give_94 : decode cM_give 94 = .ok (.lload_n 3, 1) := by decide +kernel
theorem dM_give_95 : decode cM_give 95 = .ok (.lconst 0, 1) := by decide +kernel
theorem dM_give_96 : decode cM_give 96 = .ok (.lcmp, 1) := by decide +kernel
theorem dM_give_97 : decode cM_give 97 = .ok (.ifCond .ge 21, 3) := by decide +kernel
theorem dM_give_100 : decode cM_give 100 = .ok (.aload_n 0, 1) := by decide +kernel
theorem dM_give_101 : decode cM_give 101 = .ok (.getfield 39, 3) := by decide +kernel
theorem dM_give_104 : decode cM_give 104 = .ok (.bipush 24, 2) := by decide +kernel
theorem dM_give_106 : decode cM_give 106 = .ok (.iload 5, 2) := by decide +kernel
theorem dM_give_108 : decode cM_give 108 = .ok (.imul, 1) := by decide +kernel
theorem dM_give_109 : decode cM_give 109 = .ok (.iload 6, 2) := by decide +kernel
theorem dM_give_111 : decode cM_give 111 = .ok (.iadd, 1) := by decide +kernel
theorem dM_give_112 : decode cM_give 112 = .ok (.bipush 45, 2) := by decide +kernel
theorem dM_give_114 : decode cM_give 114 = .ok (.iastore, 1) := by decide +kernel
theorem dM_give_115 : decode cM_give 115 = .ok (.iinc 6 1, 3) := by decide +kernel
theorem dM_give_118 : decode cM_give 118 = .ok (.iconst 0, 1) := by decide +kernel
theorem dM_give_119 : decode cM_give 119 = .ok (.istore 9, 2) := by decide +kernel
theorem dM_give_121 : decode cM_give 121 = .ok (.iload 9, 2) := by decide +kernel
theorem dM_give_123 : decode cM_give 123 = .ok (.iload 6, 2) := by decide +kernel
theorem dM_give_125 : decode cM_give 125 = .ok (.iconst 2, 1) := by decide +kernel
theorem dM_give_126 : decode cM_give 126 = .ok (.idiv, 1) := by decide +kernel
theorem dM_give_127 : decode cM_give 127 = .ok (.if_icmp .ge 75, 3) := by decide +kernel
theorem dM_give_130 : decode cM_give 130 = .ok (.aload_n 0, 1) := by decide +kernel
theorem dM_give_131 : decode cM_give 131 = .ok (.getfield 39, 3) := by decide +kernel
theorem dM_give_134 : decode cM_give 134 = .ok (.bipush 24, 2) := by decide +kernel
theorem dM_give_136 : decode cM_give 136 = .ok (.iload 5, 2) := by decide +kernel
theorem dM_give_138 : decode cM_give 138 = .ok (.imul, 1) := by decide +kernel
theorem dM_give_139 : decode cM_give 139 = .ok (.iload 9, 2) := by decide +kernel
theorem dM_give_141 : decode cM_give 141 = .ok (.iadd, 1) := by decide +kernel
theorem dM_give_142 : decode cM_give 142 = .ok (.iaload, 1) := by decide +kernel
theorem dM_give_143 : decode cM_give 143 = .ok (.istore 10, 2) := by decide +kernel
theorem dM_give_145 : decode cM_give 145 = .ok (.aload_n 0, 1) := by decide +kernel
theorem dM_give_146 : decode cM_give 146 = .ok (.getfield 39, 3) := by decide +kernel
theorem dM_give_149 : decode cM_give 149 = .ok (.bipush 24, 2) := by decide +kernel
theorem dM_give_151 : decode cM_give 151 = .ok (.iload 5, 2) := by decide +kernel
theorem dM_give_153 : decode cM_give 153 = .ok (.imul, 1) := by decide +kernel
theorem dM_give_154 : decode cM_give 154 = .ok (.iload 9, 2) := by decide +kernel
theorem dM_give_156 : decode cM_give 156 = .ok (.iadd, 1) := by decide +kernel
theorem dM_give_157 : decode cM_give 157 = .ok (.aload_n 0, 1) := by decide +kernel
theorem dM_give_158 : decode cM_give 158 = .ok (.getfield 39, 3) := by decide +kernel
theorem dM_give_161 : decode cM_give 161 = .ok (.bipush 24, 2) := by decide +kernel
theorem dM_give_163 : decode cM_give 163 = .ok (.iload 5, 2) := by decide +kernel
theorem dM_give_165 : decode cM_give 165 = .ok (.imul, 1) := by decide +kernel
theorem dM_give_166 : decode cM_give 166 = .ok (.iload 6, 2) := by decide +kernel
theorem dM_give_168 : decode cM_give 168 = .ok (.iadd, 1) := by decide +kernel
theorem dM_give_169 : decode cM_give 169 = .ok (.iconst 1, 1) := by decide +kernel
theorem dM_give_170 : decode cM_give 170 = .ok (.isub, 1) := by decide +kernel
theorem dM_give_171 : decode cM_give 171 = .ok (.iload 9, 2) := by decide +kernel
theorem dM_give_173 : decode cM_give 173 = .ok (.isub, 1) := by decide +kernel
theorem dM_give_174 : decode cM_give 174 = .ok (.iaload, 1) := by decide +kernel
theorem dM_give_175 : decode cM_give 175 = .ok (.iastore, 1) := by decide +kernel
theorem dM_give_176 : decode cM_give 176 = .ok (.aload_n 0, 1) := by decide +kernel
theorem dM_give_177 : decode cM_give 177 = .ok (.getfield 39, 3) := by decide +kernel
theorem dM_give_180 : decode cM_give 180 = .ok (.bipush 24, 2) := by decide +kernel
theorem dM_give_182 : decode cM_give 182 = .ok (.iload 5, 2) := by decide +kernel
theorem dM_give_184 : decode cM_give 184 = .ok (.imul, 1) := by decide +kernel
theorem dM_give_185 : decode cM_give 185 = .ok (.iload 6, 2) := by decide +kernel
theorem dM_give_187 : decode cM_give 187 = .ok (.iadd, 1) := by decide +kernel
theorem dM_give_188 : decode cM_give 188 = .ok (.iconst 1, 1) := by decide +kernel
theorem dM_give_189 : decode cM_give 189 = .ok (.isub, 1) := by decide +kernel
theorem dM_give_190 : decode cM_give 190 = .ok (.iload 9, 2) := by decide +kernel
theorem dM_give_192 : decode cM_give 192 = .ok (.isub, 1) := by decide +kernel
theorem dM_give_193 : decode cM_give 193 = .ok (.iload 10, 2) := by decide +kernel
theorem dM_give_195 : decode cM_give 195 = .ok (.iastore, 1) := by decide +kernel
theorem dM_give_196 : decode cM_give 196 = .ok (.iinc 9 1, 3) := by decide +kernel
theorem dM_give_199 : decode cM_give 199 = .ok (.goto (-78), 3) := by decide +kernel
theorem dM_give_202 : decode cM_give 202 = .ok (.aload_n 0, 1) := by decide +kernel
theorem dM_give_203 : decode cM_give 203 = .ok (.getfield 45, 3) := by decide +kernel
theorem dM_give_206 : decode cM_give 206 = .ok (.iload 5, 2) := by decide +kernel
theorem dM_give_208 : decode cM_give 208 = .ok (.iload 6, 2) := by decide +kernel
theorem dM_give_210 : decode cM_give 210 = .ok (.iastore, 1) := by decide +kernel
theorem dM_give_211 : decode cM_give 211 = .ok (.return_, 1) := by decide +kernel
