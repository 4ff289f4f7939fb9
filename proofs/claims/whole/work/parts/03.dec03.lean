theorem dX7_firstBody_0 : decode cX7_firstBody 0 = .ok (.aload_n 0, 1) := by decide +kernel
theorem dX7_firstBody_1 : decode cX7_firstBody 1 = .ok (.getfield 26, 3) := by decide +kernel
theorem dX7_firstBody_4 : decode cX7_firstBody 4 = .ok (.getfield 320, 3) := by decide +kernel
theorem dX7_firstBody_7 : decode cX7_firstBody 7 = .ok (.iload_n 1, 1) := by decide +kernel
theorem dX7_firstBody_8 : decode cX7_firstBody 8 = .ok (.iaload, 1) := by decide +kernel
theorem dX7_firstBody_9 : decode cX7_firstBody 9 = .ok (.istore_n 3, 1) := by decide +kernel
theorem dX7_firstBody_10 : decode cX7_firstBody 10 = .ok (.iload_n 2, 1) := by decide +kernel
theorem dX7_firstBody_11 : decode cX7_firstBody 11 = .ok (.ifCond .ne 11, 3) := by decide +kernel
theorem dX7_firstBody_14 : decode cX7_firstBody 14 = .ok (.getstatic 371, 3) := by decide +kernel
theorem dX7_firstBody_17 : decode cX7_firstBody 17 = .ok (.iload_n 3, 1) := by decide +kernel
theorem dX7_firstBody_18 : decode cX7_firstBody 18 = .ok (.iaload, 1) := by decide +kernel
theorem dX7_firstBody_19 : decode cX7_firstBody 19 = .ok (.goto 8, 3) := by decide +kernel
theorem dX7_firstBody_22 : decode cX7_firstBody 22 = .ok (.getstatic 374, 3) := by decide +kernel
theorem dX7_firstBody_25 : decode cX7_firstBody 25 = .ok (.iload_n 3, 1) := by decide +kernel
theorem dX7_firstBody_26 : decode cX7_firstBody 26 = .ok (.iaload, 1) := by decide +kernel
theorem dX7_firstBody_27 : decode cX7_firstBody 27 = .ok (.ireturn, 1) := by decide +kernel
theorem dX7_body_0 : decode cX7_body 0 = .ok (.iload_n 3, 1) := by decide +kernel
theorem dX7_body_1 : decode cX7_body 1 = .ok (.bipush 8, 2) := by decide +kernel
theorem dX7_body_3 : decode cX7_body 3 = .ok (.if_icmp .le 5, 3) := by decide +kernel
theorem dX7_body_6 : decode cX7_body 6 = .ok (.iconst 0, 1) := by decide +kernel
theorem dX7_body_7 : decode cX7_body 7 = .ok (.ireturn, 1) := by decide +kernel
theorem dX7_body_8 : decode cX7_body 8 = .ok (.aload_n 0, 1) := by decide +kernel
theorem dX7_body_9 : decode cX7_body 9 = .ok (.getfield 76, 3) := by decide +kernel
theorem dX7_body_12 : decode cX7_body 12 = .ok (.bipush 16, 2) := by decide +kernel
theorem dX7_body_14 : decode cX7_body 14 = .ok (.if_icmp .ge 23, 3) := by decide +kernel
theorem dX7_body_17 : decode cX7_body 17 = .ok (.aload_n 0, 1) := by decide +kernel
theorem dX7_body_18 : decode cX7_body 18 = .ok (.getfield 73, 3) := by decide +kernel
theorem dX7_body_21 : decode cX7_body 21 = .ok (.aload_n 0, 1) := by decide +kernel
theorem dX7_body_22 : decode cX7_body 22 = .ok (.getfield 76, 3) := by decide +kernel
theorem dX7_body_25 : decode cX7_body 25 = .ok (.iload_n 1, 1) := by decide +kernel
theorem dX7_body_26 : decode cX7_body 26 = .ok (.iastore, 1) := by decide +kernel
theorem dX7_body_27 : decode cX7_body 27 = .ok (.aload_n 0, 1) := by decide +kernel
theorem dX7_body_28 : decode cX7_body 28 = .ok (.dup, 1) := by decide +kernel
theorem dX7_body_29 : decode cX7_body 29 = .ok (.getfield 76, 3) := by decide +kernel
theorem dX7_body_32 : decode cX7_body 32 = .ok (.iconst 1, 1) := by decide +kernel
theorem dX7_body_33 : decode cX7_body 33 = .ok (.iadd, 1) := by decide +kernel
theorem dX7_body_34 : decode cX7_body 34 = .ok (.putfield 76, 3) := by decide +kernel
theorem dX7_body_37 : decode cX7_body 37 = .ok (.iload_n 3, 1) := by decide +kernel
theorem dX7_body_38 : decode cX7_body 38 = .ok (.iconst 1, 1) := by decide +kernel
theorem dX7_body_39 : decode cX7_body 39 = .ok (.iadd, 1) := by decide +kernel
theorem dX7_body_40 : decode cX7_body 40 = .ok (.istore 4, 2) := by decide +kernel
theorem dX7_body_42 : decode cX7_body 42 = .ok (.iload_n 1, 1) := by decide +kernel
theorem dX7_body_43 : decode cX7_body 43 = .ok (.tableswitch 218 10 24 #[73, 83, 107, 118, 131, 218, 218, 218, 218, 218, 143, 145, 168, 182, 206], 73) := by decide +kernel
theorem dX7_body_116 : decode cX7_body 116 = .ok (.aload_n 0, 1) := by decide +kernel
theorem dX7_body_117 : decode cX7_body 117 = .ok (.getfield 26, 3) := by decide +kernel
theorem dX7_body_120 : decode cX7_body 120 = .ok (.getfield 206, 3) := by decide +kernel
theorem dX7_body_123 : decode cX7_body 123 = .ok (.iload_n 2, 1) := by decide +kernel
theorem dX7_body_124 : decode cX7_body 124 = .ok (.iaload, 1) := by decide +kernel
theorem dX7_body_125 : decode cX7_body 125 = .ok (.ireturn, 1) := by decide +kernel
theorem dX7_body_126 : decode cX7_body 126 = .ok (.aload_n 0, 1) := by decide +kernel
theorem dX7_body_127 : decode cX7_body 127 = .ok (.bipush 10, 2) := by decide +kernel
theorem dX7_body_129 : decode cX7_body 129 = .ok (.iload_n 2, 1) := by decide +kernel
theorem dX7_body_130 : decode cX7_body 130 = .ok (.iload 4, 2) := by decide +kernel
theorem dX7_body_132 : decode cX7_body 132 = .ok (.invokevirtual 329, 3) := by decide +kernel
theorem dX7_body_135 : decode cX7_body 135 = .ok (.aload_n 0, 1) := by decide +kernel
theorem dX7_body_136 : decode cX7_body 136 = .ok (.aload_n 0, 1) := by decide +kernel
theorem dX7_body_137 : decode cX7_body 137 = .ok (.iload_n 2, 1) := by decide +kernel
theorem dX7_body_138 : decode cX7_body 138 = .ok (.iconst 1, 1) := by decide +kernel
theorem dX7_body_139 : decode cX7_body 139 = .ok (.invokevirtual 326, 3) := by decide +kernel
theorem dX7_body_142 : decode cX7_body 142 = .ok (.iload_n 2, 1) := by decide +kernel
theorem dX7_body_143 : decode cX7_body 143 = .ok (.iload 4, 2) := by decide +kernel
theorem dX7_body_145 : decode cX7_body 145 = .ok (.invokevirtual 329, 3) := by decide +kernel
theorem dX7_body_148 : decode cX7_body 148 = .ok (.iadd, 1) := by decide +kernel
theorem dX7_body_149 : decode cX7_body 149 = .ok (.ireturn, 1) := by decide +kernel
theorem dX7_body_150 : decode cX7_body 150 = .ok (.aload_n 0, 1) := by decide +kernel
theorem dX7_body_151 : decode cX7_body 151 = .ok (.bipush 11, 2) := by decide +kernel
theorem dX7_body_153 : decode cX7_body 153 = .ok (.iload_n 2, 1) := by decide +kernel
theorem dX7_body_154 : decode cX7_body 154 = .ok (.iload 4, 2) := by decide +kernel
theorem dX7_body_156 : decode cX7_body 156 = .ok (.invokevirtual 329, 3) := by decide +kernel
theorem dX7_body_159 : decode cX7_body 159 = .ok (.ineg, 1) := by decide +kernel
theorem dX7_body_160 : decode cX7_body 160 = .ok (.ireturn, 1) := by decide +kernel
theorem dX7_body_161 : decode cX7_body 161 = .ok (.aload_n 0, 1) := by decide +kernel
theorem dX7_body_162 : decode cX7_body 162 = .ok (.bipush 10, 2) := by decide +kernel
theorem dX7_body_164 : decode cX7_body 164 = .ok (.iload_n 2, 1) := by decide +kernel
theorem dX7_body_165 : decode cX7_body 165 = .ok (.iload 4, 2) := by decide +kernel
theorem dX7_body_167 : decode cX7_body 167 = .ok (.invokevirtual 329, 3) := by decide +kernel
theorem dX7_body_170 : decode cX7_body 170 = .ok (.bipush 100, 2) := by decide +kernel
theorem dX7_body_172 : decode cX7_body 172 = .ok (.isub, 1) := by decide +kernel
theorem dX7_body_173 : decode cX7_body 173 = .ok (.ireturn, 1) := by decide +kernel
theorem dX7_body_174 : decode cX7_body 174 = .ok (.iconst 2, 1) := by decide +kernel
theorem dX7_body_175 : decode cX7_body 175 = .ok (.aload_n 0, 1) := by decide +kernel
theorem dX7_body_176 : decode cX7_body 176 = .ok (.bipush 13, 2) := by decide +kernel
theorem dX7_body_178 : decode cX7_body 178 = .ok (.iload_n 2, 1) := by decide +kernel
theorem dX7_body_179 : decode cX7_body 179 = .ok (.iload 4, 2) := by decide +kernel
theorem dX7_body_181 : decode cX7_body 181 = .ok (.invokevirtual 329, 3) := by decide +kernel
theorem dX7_body_184 : decode cX7_body 184 = .ok (.imul, 1) := by decide +kernel
theorem dX7_body_185 : decode cX7_body 185 = .ok (.ireturn, 1) := by decide +kernel
theorem dX7_body_186 : decode cX7_body 186 = .ok (.iload_n 2, 1) := by decide +kernel
theorem dX7_body_187 : decode cX7_body 187 = .ok (.ireturn, 1) := by decide +kernel
theorem dX7_body_188 : decode cX7_body 188 = .ok (.aload_n 0, 1) := by decide +kernel
theorem dX7_body_189 : decode cX7_body 189 = .ok (.bipush 20, 2) := by decide +kernel
theorem dX7_body_191 : decode cX7_body 191 = .ok (.iload_n 2, 1) := by decide +kernel
theorem dX7_body_192 : decode cX7_body 192 = .ok (.iload 4, 2) := by decide +kernel
theorem dX7_body_194 : decode cX7_body 194 = .ok (.invokevirtual 329, 3) := by decide +kernel
theorem dX7_body_197 : decode cX7_body 197 = .ok (.aload_n 0, 1) := by decide +kernel
theorem dX7_body_198 : decode cX7_body 198 = .ok (.getfield 26, 3) := by decide +kernel
theorem dX7_body_201 : decode cX7_body 201 = .ok (.getfield 169, 3) := by decide +kernel
theorem dX7_body_204 : decode cX7_body 204 = .ok (.bipush 10, 2) := by decide +kernel
theorem dX7_body_206 : decode cX7_body 206 = .ok (.iload_n 2, 1) := by decide +kernel
theorem dX7_body_207 : decode cX7_body 207 = .ok (.iadd, 1) := by decide +kernel
theorem dX7_body_208 : decode cX7_body 208 = .ok (.iaload, 1) := by decide +kernel
theorem dX7_body_209 : decode cX7_body 209 = .ok (.iadd, 1) := by decide +kernel
theorem dX7_body_210 : decode cX7_body 210 = .ok (.ireturn, 1) := by decide +kernel
theorem dX7_body_211 : decode cX7_body 211 = .ok (.aload_n 0, 1) := by decide +kernel
theorem dX7_body_212 : decode cX7_body 212 = .ok (.bipush 21, 2) := by decide +kernel
theorem dX7_body_214 : decode cX7_body 214 = .ok (.iload_n 2, 1) := by decide +kernel
theorem dX7_body_215 : decode cX7_body 215 = .ok (.iload 4, 2) := by decide +kernel
theorem dX7_body_217 : decode cX7_body 217 = .ok (.invokevirtual 329, 3) := by decide +kernel
theorem dX7_body_220 : decode cX7_body 220 = .ok (.sipush 1000, 3) := by decide +kernel
theorem dX7_body_223 : decode cX7_body 223 = .ok (.isub, 1) := by decide +kernel
theorem dX7_body_224 : decode cX7_body 224 = .ok (.ireturn, 1) := by decide +kernel
theorem dX7_body_225 : decode cX7_body 225 = .ok (.aload_n 0, 1) := by decide +kernel
theorem dX7_body_226 : decode cX7_body 226 = .ok (.bipush 20, 2) := by decide +kernel
theorem dX7_body_228 : decode cX7_body 228 = .ok (.iload_n 2, 1) := by decide +kernel
theorem dX7_body_229 : decode cX7_body 229 = .ok (.iload 4, 2) := by decide +kernel
theorem dX7_body_231 : decode cX7_body 231 = .ok (.invokevirtual 329, 3) := by decide +kernel
theorem dX7_body_234 : decode cX7_body 234 = .ok (.aload_n 0, 1) := by decide +kernel
theorem dX7_body_235 : decode cX7_body 235 = .ok (.aload_n 0, 1) := by decide +kernel
theorem dX7_body_236 : decode cX7_body 236 = .ok (.iload_n 2, 1) := by decide +kernel
theorem dX7_body_237 : decode cX7_body 237 = .ok (.iconst 0, 1) := by decide +kernel
theorem dX7_body_238 : decode cX7_body 238 = .ok (.invokevirtual 326, 3) := by decide +kernel
theorem dX7_body_241 : decode cX7_body 241 = .ok (.iload_n 2, 1) := by decide +kernel
theorem dX7_body_242 : decode cX7_body 242 = .ok (.iload 4, 2) := by decide +kernel
theorem dX7_body_244 : decode cX7_body 244 = .ok (.invokevirtual 329, 3) := by decide +kernel
theorem dX7_body_247 : decode cX7_body 247 = .ok (.isub, 1) := by decide +kernel
theorem dX7_body_248 : decode cX7_body 248 = .ok (.ireturn, 1) := by decide +kernel
theorem dX7_body_249 : decode cX7_body 249 = .ok (.iconst 2, 1) := by decide +kernel
theorem dX7_body_250 : decode cX7_body 250 = .ok (.aload_n 0, 1) := by decide +kernel
theorem dX7_body_251 : decode cX7_body 251 = .ok (.bipush 21, 2) := by decide +kernel
theorem dX7_body_253 : decode cX7_body 253 = .ok (.iload_n 2, 1) := by decide +kernel
theorem dX7_body_254 : decode cX7_body 254 = .ok (.iload 4, 2) := by decide +kernel
theorem dX7_body_256 : decode cX7_body 256 = .ok (.invokevirtual 329, 3) := by decide +kernel
theorem dX7_body_259 : decode cX7_body 259 = .ok (.imul, 1) := by decide +kernel
theorem dX7_body_260 : decode cX7_body 260 = .ok (.ireturn, 1) := by decide +kernel
theorem dX7_body_261 : decode cX7_body 261 = .ok (.iconst 0, 1) := by decide +kernel
theorem dX7_body_262 : decode cX7_body 262 = .ok (.ireturn, 1) := by decide +kernel
theorem dX8_init_0 : decode cX8_init 0 = .ok (.aload_n 0, 1) := by decide +kernel
theorem dX8_init_1 : decode cX8_init 1 = .ok (.invokespecial 1, 3) := by decide +kernel
theorem dX8_init_4 : decode cX8_init 4 = .ok (.aload_n 0, 1) := by decide +kernel
theorem dX8_init_5 : decode cX8_init 5 = .ok (.bipush 8, 2) := by decide +kernel
theorem dX8_init_7 : decode cX8_init 7 = .ok (.newarray .int, 2) := by decide +kernel
theorem dX8_init_9 : decode cX8_init 9 = .ok (.dup, 1) := by decide +kernel
theorem dX8_init_10 : decode cX8_init 10 = .ok (.iconst 0, 1) := by decide +kernel
theorem dX8_init_11 : decode cX8_init 11 = .ok (.iconst (-1), 1) := by decide +kernel
theorem dX8_init_12 : decode cX8_init 12 = .ok (.iastore, 1) := by decide +kernel
theorem dX8_init_13 : decode cX8_init 13 = .ok (.dup, 1) := by decide +kernel
theorem dX8_init_14 : decode cX8_init 14 = .ok (.iconst 1, 1) := by decide +kernel
theorem dX8_init_15 : decode cX8_init 15 = .ok (.iconst (-1), 1) := by decide +kernel
theorem dX8_init_16 : decode cX8_init 16 = .ok (.iastore, 1) := by decide +kernel
theorem dX8_init_17 : decode cX8_init 17 = .ok (.dup, 1) := by decide +kernel
theorem dX8_init_18 : decode cX8_init 18 = .ok (.iconst 2, 1) := by decide +kernel
theorem dX8_init_19 : decode cX8_init 19 = .ok (.iconst (-1), 1) := by decide +kernel
theorem dX8_init_20 : decode cX8_init 20 = .ok (.iastore, 1) := by decide +kernel
theorem dX8_init_21 : decode cX8_init 21 = .ok (.dup, 1) := by decide +kernel
theorem dX8_init_22 : decode cX8_init 22 = .ok (.iconst 3, 1) := by decide +kernel
theorem dX8_init_23 : decode cX8_init 23 = .ok (.iconst (-1), 1) := by decide +kernel
theorem dX8_init_24 : decode cX8_init 24 = .ok (.iastore, 1) := by decide +kernel
theorem dX8_init_25 : decode cX8_init 25 = .ok (.dup, 1) := by decide +kernel
theorem dX8_init_26 : decode cX8_init 26 = .ok (.iconst 4, 1) := by decide +kernel
theorem dX8_init_27 : decode cX8_init 27 = .ok (.iconst (-1), 1) := by decide +kernel
theorem dX8_init_28 : decode cX8_init 28 = .ok (.iastore, 1) := by decide +kernel
theorem dX8_init_29 : decode cX8_init 29 = .ok (.dup, 1) := by decide +kernel
theorem dX8_init_30 : decode cX8_init 30 = .ok (.iconst 5, 1) := by decide +kernel
theorem dX8_init_31 : decode cX8_init 31 = .ok (.iconst (-1), 1) := by decide +kernel
theorem dX8_init_32 : decode cX8_init 32 = .ok (.iastore, 1) := by decide +kernel
theorem dX8_init_33 : decode cX8_init 33 = .ok (.dup, 1) := by decide +kernel
theorem dX8_init_34 : decode cX8_init 34 = .ok (.bipush 6, 2) := by decide +kernel
theorem dX8_init_36 : decode cX8_init 36 = .ok (.iconst (-1), 1) := by decide +kernel
theorem dX8_init_37 : decode cX8_init 37 = .ok (.iastore, 1) := by decide +kernel
theorem dX8_init_38 : decode cX8_init 38 = .ok (.dup, 1) := by decide +kernel
theorem dX8_init_39 : decode cX8_init 39 = .ok (.bipush 7, 2) := by decide +kernel
theorem dX8_init_41 : decode cX8_init 41 = .ok (.iconst (-1), 1) := by decide +kernel
theorem dX8_init_42 : decode cX8_init 42 = .ok (.iastore, 1) := by decide +kernel
theorem dX8_init_43 : decode cX8_init 43 = .ok (.putfield 7, 3) := by decide +kernel
theorem dX8_init_46 : decode cX8_init 46 = .ok (.aload_n 0, 1) := by decide +kernel
theorem dX8_init_47 : decode cX8_init 47 = .ok (.bipush 8, 2) := by decide +kernel
theorem dX8_init_49 : decode cX8_init 49 = .ok (.newarray .int, 2) := by decide +kernel
theorem dX8_init_51 : decode cX8_init 51 = .ok (.putfield 13, 3) := by decide +kernel
theorem dX8_init_54 : decode cX8_init 54 = .ok (.aload_n 0, 1) := by decide +kernel
theorem dX8_init_55 : decode cX8_init 55 = .ok (.sipush 320, 3) := by decide +kernel
theorem dX8_init_58 : decode cX8_init 58 = .ok (.newarray .int, 2) := by decide +kernel
theorem dX8_init_60 : decode cX8_init 60 = .ok (.putfield 16, 3) := by decide +kernel
theorem dX8_init_63 : decode cX8_init 63 = .ok (.aload_n 0, 1) := by decide +kernel
theorem dX8_init_64 : decode cX8_init 64 = .ok (.bipush 59, 2) := by decide +kernel
theorem dX8_init_66 : decode cX8_init 66 = .ok (.newarray .int, 2) := by decide +kernel
theorem dX8_init_68 : decode cX8_init 68 = .ok (.putfield 19, 3) := by decide +kernel
theorem dX8_init_71 : decode cX8_init 71 = .ok (.aload_n 0, 1) := by decide +kernel
theorem dX8_init_72 : decode cX8_init 72 = .ok (.bipush 59, 2) := by decide +kernel
theorem dX8_init_74 : decode cX8_init 74 = .ok (.newarray .int, 2) := by decide +kernel
theorem dX8_init_76 : decode cX8_init 76 = .ok (.putfield 22, 3) := by decide +kernel
theorem dX8_init_79 : decode cX8_init 79 = .ok (.aload_n 0, 1) := by decide +kernel
theorem dX8_init_80 : decode cX8_init 80 = .ok (.sipush 1416, 3) := by decide +kernel
theorem dX8_init_83 : decode cX8_init 83 = .ok (.newarray .int, 2) := by decide +kernel
theorem dX8_init_85 : decode cX8_init 85 = .ok (.putfield 25, 3) := by decide +kernel
theorem dX8_init_88 : decode cX8_init 88 = .ok (.aload_n 0, 1) := by decide +kernel
theorem dX8_init_89 : decode cX8_init 89 = .ok (.bipush 120, 2) := by decide +kernel
theorem dX8_init_91 : decode cX8_init 91 = .ok (.newarray .int, 2) := by decide +kernel
theorem dX8_init_93 : decode cX8_init 93 = .ok (.putfield 28, 3) := by decide +kernel
theorem dX8_init_96 : decode cX8_init 96 = .ok (.aload_n 0, 1) := by decide +kernel
theorem dX8_init_97 : decode cX8_init 97 = .ok (.iconst 4, 1) := by decide +kernel
theorem dX8_init_98 : decode cX8_init 98 = .ok (.newarray .int, 2) := by decide +kernel
theorem dX8_init_100 : decode cX8_init 100 = .ok (.putfield 31, 3) := by decide +kernel
theorem dX8_init_103 : decode cX8_init 103 = .ok (.aload_n 0, 1) := by decide +kernel
theorem dX8_init_104 : decode cX8_init 104 = .ok (.iconst 4, 1) := by decide +kernel
theorem dX8_init_105 : decode cX8_init 105 = .ok (.newarray .int, 2) := by decide +kernel
theorem dX8_init_107 : decode cX8_init 107 = .ok (.putfield 34, 3) := by decide +kernel
theorem dX8_init_110 : decode cX8_init 110 = .ok (.aload_n 0, 1) := by decide +kernel
theorem dX8_init_111 : decode cX8_init 111 = .ok (.iconst 4, 1) := by decide +kernel
theorem dX8_init_112 : decode cX8_init 112 = .ok (.newarray .int, 2) := by decide +kernel
theorem dX8_init_114 : decode cX8_init 114 = .ok (.putfield 37, 3) := by decide +kernel
theorem dX8_init_117 : decode cX8_init 117 = .ok (.aload_n 0, 1) := by decide +kernel
theorem dX8_init_118 : decode cX8_init 118 = .ok (.bipush 6, 2) := by decide +kernel
theorem dX8_init_120 : decode cX8_init 120 = .ok (.newarray .int, 2) := by decide +kernel
theorem dX8_init_122 : decode cX8_init 122 = .ok (.putfield 40, 3) := by decide +kernel
theorem dX8_init_125 : decode cX8_init 125 = .ok (.aload_n 0, 1) := by decide +kernel
theorem dX8_init_126 : decode cX8_init 126 = .ok (.iconst 4, 1) := by decide +kernel
theorem dX8_init_127 : decode cX8_init 127 = .ok (.newarray .int, 2) := by decide +kernel
theorem dX8_init_129 : decode cX8_init 129 = .ok (.putfield 43, 3) := by decide +kernel
theorem dX8_init_132 : decode cX8_init 132 = .ok (.aload_n 0, 1) := by decide +kernel
theorem dX8_init_133 : decode cX8_init 133 = .ok (.iconst 4, 1) := by decide +kernel
theorem dX8_init_134 : decode cX8_init 134 = .ok (.newarray .int, 2) := by decide +kernel
theorem dX8_init_136 : decode cX8_init 136 = .ok (.putfield 46, 3) := by decide +kernel
theorem dX8_init_139 : decode cX8_init 139 = .ok (.aload_n 0, 1) := by decide +kernel
theorem dX8_init_140 : decode cX8_init 140 = .ok (.iconst 4, 1) := by decide +kernel
theorem dX8_init_141 : decode cX8_init 141 = .ok (.newarray .int, 2) := by decide +kernel
theorem dX8_init_143 : decode cX8_init 143 = .ok (.putfield 49, 3) := by decide +kernel
theorem dX8_init_146 : decode cX8_init 146 = .ok (.aload_n 0, 1) := by decide +kernel
theorem dX8_init_147 : decode cX8_init 147 = .ok (.iconst 4, 1) := by decide +kernel
theorem dX8_init_148 : decode cX8_init 148 = .ok (.newarray .int, 2) := by decide +kernel
theorem dX8_init_150 : decode cX8_init 150 = .ok (.putfield 52, 3) := by decide +kernel
theorem dX8_init_153 : decode cX8_init 153 = .ok (.aload_n 0, 1) := by decide +kernel
theorem dX8_init_154 : decode cX8_init 154 = .ok (.iconst 4, 1) := by decide +kernel
theorem dX8_init_155 : decode cX8_init 155 = .ok (.newarray .int, 2) := by decide +kernel
theorem dX8_init_157 : decode cX8_init 157 = .ok (.putfield 55, 3) := by decide +kernel
theorem dX8_init_160 : decode cX8_init 160 = .ok (.aload_n 0, 1) := by decide +kernel
theorem dX8_init_161 : decode cX8_init 161 = .ok (.iconst 4, 1) := by decide +kernel
theorem dX8_init_162 : decode cX8_init 162 = .ok (.newarray .int, 2) := by decide +kernel
theorem dX8_init_164 : decode cX8_init 164 = .ok (.putfield 58, 3) := by decide +kernel
theorem dX8_init_167 : decode cX8_init 167 = .ok (.aload_n 0, 1) := by decide +kernel
theorem dX8_init_168 : decode cX8_init 168 = .ok (.ldc 61, 2) := by decide +kernel
theorem dX8_init_170 : decode cX8_init 170 = .ok (.putfield 62, 3) := by decide +kernel
theorem dX8_init_173 : decode cX8_init 173 = .ok (.aload_n 0, 1) := by decide +kernel
theorem dX8_init_174 : decode cX8_init 174 = .ok (.bipush 32, 2) := by decide +kernel
theorem dX8_init_176 : decode cX8_init 176 = .ok (.newarray .int, 2) := by decide +kernel
theorem dX8_init_178 : decode cX8_init 178 = .ok (.putfield 66, 3) := by decide +kernel
theorem dX8_init_181 : decode cX8_init 181 = .ok (.aload_n 0, 1) := by decide +kernel
theorem dX8_init_182 : decode cX8_init 182 = .ok (.iconst 2, 1) := by decide +kernel
theorem dX8_init_183 : decode cX8_init 183 = .ok (.newarray .boolean, 2) := by decide +kernel
theorem dX8_init_185 : decode cX8_init 185 = .ok (.putfield 69, 3) := by decide +kernel
theorem dX8_init_188 : decode cX8_init 188 = .ok (.aload_n 0, 1) := by decide +kernel
theorem dX8_init_189 : decode cX8_init 189 = .ok (.bipush 118, 2) := by decide +kernel
theorem dX8_init_191 : decode cX8_init 191 = .ok (.newarray .int, 2) := by decide +kernel
theorem dX8_init_193 : decode cX8_init 193 = .ok (.putfield 73, 3) := by decide +kernel
theorem dX8_init_196 : decode cX8_init 196 = .ok (.aload_n 0, 1) := by decide +kernel
theorem dX8_init_197 : decode cX8_init 197 = .ok (.bipush 16, 2) := by decide +kernel
theorem dX8_init_199 : decode cX8_init 199 = .ok (.newarray .int, 2) := by decide +kernel
theorem dX8_init_201 : decode cX8_init 201 = .ok (.putfield 76, 3) := by decide +kernel
theorem dX8_init_204 : decode cX8_init 204 = .ok (.return_, 1) := by decide +kernel
theorem dX8_in_0 : decode cX8_in 0 = .ok (.lload_n 0, 1) := by decide +kernel
theorem dX8_in_1 : decode cX8_in 1 = .ok (.lload_n 2, 1) := by decide +kernel
theorem dX8_in_2 : decode cX8_in 2 = .ok (.lcmp, 1) := by decide +kernel
theorem dX8_in_3 : decode cX8_in 3 = .ok (.ifCond .lt 14, 3) := by decide +kernel
theorem dX8_in_6 : decode cX8_in 6 = .ok (.lload_n 0, 1) := by decide +kernel
theorem dX8_in_7 : decode cX8_in 7 = .ok (.lload 4, 2) := by decide +kernel
theorem dX8_in_9 : decode cX8_in 9 = .ok (.lcmp, 1) := by decide +kernel
theorem dX8_in_10 : decode cX8_in 10 = .ok (.ifCond .gt 7, 3) := by decide +kernel
theorem dX8_in_13 : decode cX8_in 13 = .ok (.iconst 1, 1) := by decide +kernel
theorem dX8_in_14 : decode cX8_in 14 = .ok (.goto 4, 3) := by decide +kernel
theorem dX8_in_17 : decode cX8_in 17 = .ok (.iconst 0, 1) := by decide +kernel
theorem dX8_in_18 : decode cX8_in 18 = .ok (.ireturn, 1) := by decide +kernel
theorem dX8_finding_0 : decode cX8_finding 0 = .ok (.aload_n 0, 1) := by decide +kernel
theorem dX8_finding_1 : decode cX8_finding 1 = .ok (.iload_n 1, 1) := by decide +kernel
theorem dX8_finding_2 : decode cX8_finding 2 = .ok (.putfield 82, 3) := by decide +kernel
theorem dX8_finding_5 : decode cX8_finding 5 = .ok (.ldc 85, 2) := by decide +kernel
theorem dX8_finding_7 : decode cX8_finding 7 = .ok (.iload_n 1, 1) := by decide +kernel
theorem dX8_finding_8 : decode cX8_finding 8 = .ok (.isub, 1) := by decide +kernel
theorem dX8_finding_9 : decode cX8_finding 9 = .ok (.ireturn, 1) := by decide +kernel
theorem dX8_isRow_0 : decode cX8_isRow 0 = .ok (.iload_n 0, 1) := by decide +kernel
theorem dX8_isRow_1 : decode cX8_isRow 1 = .ok (.i2l, 1) := by decide +kernel
theorem dX8_isRow_2 : decode cX8_isRow 2 = .ok (.lconst 0, 1) := by decide +kernel
theorem dX8_isRow_3 : decode cX8_isRow 3 = .ok (.ldc2_w 86, 3) := by decide +kernel
theorem dX8_isRow_6 : decode cX8_isRow 6 = .ok (.invokestatic 88, 3) := by decide +kernel
theorem dX8_isRow_9 : decode cX8_isRow 9 = .ok (.ireturn, 1) := by decide +kernel
theorem dX8_row_0 : decode cX8_row 0 = .ok (.aload_n 0, 1) := by decide +kernel
theorem dX8_row_1 : decode cX8_row 1 = .ok (.iconst 0, 1) := by decide +kernel
theorem dX8_row_2 : decode cX8_row 2 = .ok (.putfield 79, 3) := by decide +kernel
theorem dX8_row_5 : decode cX8_row 5 = .ok (.iload_n 1, 1) := by decide +kernel
theorem dX8_row_6 : decode cX8_row 6 = .ok (.invokestatic 92, 3) := by decide +kernel
theorem dX8_row_9 : decode cX8_row 9 = .ok (.ifCond .eq 21, 3) := by decide +kernel
theorem dX8_row_12 : decode cX8_row 12 = .ok (.iload_n 2, 1) := by decide +kernel
theorem dX8_row_13 : decode cX8_row 13 = .ok (.i2l, 1) := by decide +kernel
theorem dX8_row_14 : decode cX8_row 14 = .ok (.lconst 0, 1) := by decide +kernel
theorem dX8_row_15 : decode cX8_row 15 = .ok (.ldc2_w 96, 3) := by decide +kernel
theorem dX8_row_18 : decode cX8_row 18 = .ok (.invokestatic 88, 3) := by decide +kernel
theorem dX8_row_21 : decode cX8_row 21 = .ok (.ifCond .eq 9, 3) := by decide +kernel
theorem dX8_row_24 : decode cX8_row 24 = .ok (.iload_n 3, 1) := by decide +kernel
theorem dX8_row_25 : decode cX8_row 25 = .ok (.bipush 40, 2) := by decide +kernel
theorem dX8_row_27 : decode cX8_row 27 = .ok (.if_icmp .le 6, 3) := by decide +kernel
theorem dX8_row_30 : decode cX8_row 30 = .ok (.ldc 98, 2) := by decide +kernel
theorem dX8_row_32 : decode cX8_row 32 = .ok (.ireturn, 1) := by decide +kernel
theorem dX8_row_33 : decode cX8_row 33 = .ok (.aload_n 0, 1) := by decide +kernel
theorem dX8_row_34 : decode cX8_row 34 = .ok (.iconst 0, 1) := by decide +kernel
theorem dX8_row_35 : decode cX8_row 35 = .ok (.putfield 82, 3) := by decide +kernel
theorem dX8_row_38 : decode cX8_row 38 = .ok (.iload_n 3, 1) := by decide +kernel
theorem dX8_row_39 : decode cX8_row 39 = .ok (.ifCond .ge 9, 3) := by decide +kernel
theorem dX8_row_42 : decode cX8_row 42 = .ok (.aload_n 0, 1) := by decide +kernel
theorem dX8_row_43 : decode cX8_row 43 = .ok (.iconst 4, 1) := by decide +kernel
theorem dX8_row_44 : decode cX8_row 44 = .ok (.invokevirtual 99, 3) := by decide +kernel
theorem dX8_row_47 : decode cX8_row 47 = .ok (.ireturn, 1) := by decide +kernel
theorem dX8_row_48 : decode cX8_row 48 = .ok (.aload_n 0, 1) := by decide +kernel
theorem dX8_row_49 : decode cX8_row 49 = .ok (.getfield 7, 3) := by decide +kernel
theorem dX8_row_52 : decode cX8_row 52 = .ok (.iload_n 1, 1) := by decide +kernel
theorem dX8_row_53 : decode cX8_row 53 = .ok (.iload_n 2, 1) := by decide +kernel
theorem dX8_row_54 : decode cX8_row 54 = .ok (.iastore, 1) := by decide +kernel
theorem dX8_row_55 : decode cX8_row 55 = .ok (.aload_n 0, 1) := by decide +kernel
theorem dX8_row_56 : decode cX8_row 56 = .ok (.getfield 13, 3) := by decide +kernel
theorem dX8_row_59 : decode cX8_row 59 = .ok (.iload_n 1, 1) := by decide +kernel
theorem dX8_row_60 : decode cX8_row 60 = .ok (.iload_n 3, 1) := by decide +kernel
theorem dX8_row_61 : decode cX8_row 61 = .ok (.iastore, 1) := by decide +kernel
theorem dX8_row_62 : decode cX8_row 62 = .ok (.iconst 0, 1) := by decide +kernel
theorem dX8_row_63 : decode cX8_row 63 = .ok (.istore 4, 2) := by decide +kernel
theorem dX8_row_65 : decode cX8_row 65 = .ok (.iload 4, 2) := by decide +kernel
theorem dX8_row_67 : decode cX8_row 67 = .ok (.bipush 40, 2) := by decide +kernel
theorem dX8_row_69 : decode cX8_row 69 = .ok (.if_icmp .ge 22, 3) := by decide +kernel
theorem dX8_row_72 : decode cX8_row 72 = .ok (.aload_n 0, 1) := by decide +kernel
theorem dX8_row_73 : decode cX8_row 73 = .ok (.getfield 16, 3) := by decide +kernel
theorem dX8_row_76 : decode cX8_row 76 = .ok (.bipush 40, 2) := by decide +kernel
theorem dX8_row_78 : decode cX8_row 78 = .ok (.iload_n 1, 1) := by decide +kernel
theorem dX8_row_79 : decode cX8_row 79 = .ok (.imul, 1) := by decide +kernel
theorem dX8_row_80 : decode cX8_row 80 = .ok (.iload 4, 2) := by decide +kernel
theorem dX8_row_82 : decode cX8_row 82 = .ok (.iadd, 1) := by decide +kernel
theorem dX8_row_83 : decode cX8_row 83 = .ok (.iconst 0, 1) := by decide +kernel
theorem dX8_row_84 : decode cX8_row 84 = .ok (.iastore, 1) := by decide +kernel
theorem dX8_row_85 : decode cX8_row 85 = .ok (.iinc 4 1, 3) := by decide +kernel
theorem dX8_row_88 : decode cX8_row 88 = .ok (.goto (-23), 3) := by decide +kernel
theorem dX8_row_91 : decode cX8_row 91 = .ok (.iload_n 3, 1) := by decide +kernel
theorem dX8_row_92 : decode cX8_row 92 = .ok (.ireturn, 1) := by decide +kernel
theorem dX8_set_0 : decode cX8_set 0 = .ok (.aload_n 0, 1) := by decide +kernel
theorem dX8_set_1 : decode cX8_set 1 = .ok (.iconst 0, 1) := by decide +kernel
theorem dX8_set_2 : decode cX8_set 2 = .ok (.putfield 79, 3) := by decide +kernel
theorem dX8_set_5 : decode cX8_set 5 = .ok (.iload_n 1, 1) := by decide +kernel
theorem dX8_set_6 : decode cX8_set 6 = .ok (.invokestatic 92, 3) := by decide +kernel
theorem dX8_set_9 : decode cX8_set 9 = .ok (.ifCond .ne 6, 3) := by decide +kernel
theorem dX8_set_12 : decode cX8_set 12 = .ok (.ldc 98, 2) := by decide +kernel
theorem dX8_set_14 : decode cX8_set 14 = .ok (.ireturn, 1) := by decide +kernel
theorem dX8_set_15 : decode cX8_set 15 = .ok (.aload_n 0, 1) := by decide +kernel
theorem dX8_set_16 : decode cX8_set 16 = .ok (.iconst 0, 1) := by decide +kernel
theorem dX8_set_17 : decode cX8_set 17 = .ok (.putfield 82, 3) := by decide +kernel
theorem dX8_set_20 : decode cX8_set 20 = .ok (.aload_n 0, 1) := by decide +kernel
theorem dX8_set_21 : decode cX8_set 21 = .ok (.getfield 7, 3) := by decide +kernel
theorem dX8_set_24 : decode cX8_set 24 = .ok (.iload_n 1, 1) := by decide +kernel
theorem dX8_set_25 : decode cX8_set 25 = .ok (.iaload, 1) := by decide +kernel
theorem dX8_set_26 : decode cX8_set 26 = .ok (.ifCond .ge 9, 3) := by decide +kernel
theorem dX8_set_29 : decode cX8_set 29 = .ok (.aload_n 0, 1) := by decide +kernel
theorem dX8_set_30 : decode cX8_set 30 = .ok (.iconst 1, 1) := by decide +kernel
theorem dX8_set_31 : decode cX8_set 31 = .ok (.invokevirtual 99, 3) := by decide +kernel
theorem dX8_set_34 : decode cX8_set 34 = .ok (.ireturn, 1) := by decide +kernel
theorem dX8_set_35 : decode cX8_set 35 = .ok (.iload_n 2, 1) := by decide +kernel
theorem dX8_set_36 : decode cX8_set 36 = .ok (.i2l, 1) := by decide +kernel
theorem dX8_set_37 : decode cX8_set 37 = .ok (.lconst 0, 1) := by decide +kernel
theorem dX8_set_38 : decode cX8_set 38 = .ok (.aload_n 0, 1) := by decide +kernel
theorem dX8_set_39 : decode cX8_set 39 = .ok (.getfield 13, 3) := by decide +kernel
theorem dX8_set_42 : decode cX8_set 42 = .ok (.iload_n 1, 1) := by decide +kernel
theorem dX8_set_43 : decode cX8_set 43 = .ok (.iaload, 1) := by decide +kernel
theorem dX8_set_44 : decode cX8_set 44 = .ok (.iconst 1, 1) := by decide +kernel
theorem dX8_set_45 : decode cX8_set 45 = .ok (.isub, 1) := by decide +kernel
theorem dX8_set_46 : decode cX8_set 46 = .ok (.i2l, 1) := by decide +kernel
theorem dX8_set_47 : decode cX8_set 47 = .ok (.invokestatic 88, 3) := by decide +kernel
theorem dX8_set_50 : decode cX8_set 50 = .ok (.ifCond .ne 9, 3) := by decide +kernel
theorem dX8_set_53 : decode cX8_set 53 = .ok (.aload_n 0, 1) := by decide +kernel
theorem dX8_set_54 : decode cX8_set 54 = .ok (.iconst 2, 1) := by decide +kernel
theorem dX8_set_55 : decode cX8_set 55 = .ok (.invokevirtual 99, 3) := by decide +kernel
theorem dX8_set_58 : decode cX8_set 58 = .ok (.ireturn, 1) := by decide +kernel
theorem dX8_set_59 : decode cX8_set 59 = .ok (.aload_n 0, 1) := by decide +kernel
theorem dX8_set_60 : decode cX8_set 60 = .ok (.getfield 16, 3) := by decide +kernel
theorem dX8_set_63 : decode cX8_set 63 = .ok (.bipush 40, 2) := by decide +kernel
theorem dX8_set_65 : decode cX8_set 65 = .ok (.iload_n 1, 1) := by decide +kernel
theorem dX8_set_66 : decode cX8_set 66 = .ok (.imul, 1) := by decide +kernel
theorem dX8_set_67 : decode cX8_set 67 = .ok (.iload_n 2, 1) := by decide +kernel
theorem dX8_set_68 : decode cX8_set 68 = .ok (.iadd, 1) := by decide +kernel
theorem dX8_set_69 : decode cX8_set 69 = .ok (.aload_n 0, 1) := by decide +kernel
theorem dX8_set_70 : decode cX8_set 70 = .ok (.getfield 7, 3) := by decide +kernel
theorem dX8_set_73 : decode cX8_set 73 = .ok (.iload_n 1, 1) := by decide +kernel
theorem dX8_set_74 : decode cX8_set 74 = .ok (.iaload, 1) := by decide +kernel
theorem dX8_set_75 : decode cX8_set 75 = .ok (.ifCond .ne 8, 3) := by decide +kernel
theorem dX8_set_78 : decode cX8_set 78 = .ok (.iload_n 3, 1) := by decide +kernel
theorem dX8_set_79 : decode cX8_set 79 = .ok (.i2b, 1) := by decide +kernel
theorem dX8_set_80 : decode cX8_set 80 = .ok (.goto 19, 3) := by decide +kernel
theorem dX8_set_83 : decode cX8_set 83 = .ok (.aload_n 0, 1) := by decide +kernel
theorem dX8_set_84 : decode cX8_set 84 = .ok (.getfield 7, 3) := by decide +kernel
theorem dX8_set_87 : decode cX8_set 87 = .ok (.iload_n 1, 1) := by decide +kernel
theorem dX8_set_88 : decode cX8_set 88 = .ok (.iaload, 1) := by decide +kernel
theorem dX8_set_89 : decode cX8_set 89 = .ok (.iconst 1, 1) := by decide +kernel
theorem dX8_set_90 : decode cX8_set 90 = .ok (.if_icmp .ne 8, 3) := by decide +kernel
theorem dX8_set_93 : decode cX8_set 93 = .ok (.iload_n 3, 1) := by decide +kernel
theorem dX8_set_94 : decode cX8_set 94 = .ok (.i2s, 1) := by decide +kernel
theorem dX8_set_95 : decode cX8_set 95 = .ok (.goto 4, 3) := by decide +kernel
theorem dX8_set_98 : decode cX8_set 98 = .ok (.iload_n 3, 1) := by decide +kernel
theorem dX8_set_99 : decode cX8_set 99 = .ok (.iastore, 1) := by decide +kernel
theorem dX8_set_100 : decode cX8_set 100 = .ok (.aload_n 0, 1) := by decide +kernel
theorem dX8_set_101 : decode cX8_set 101 = .ok (.getfield 16, 3) := by decide +kernel
theorem dX8_set_104 : decode cX8_set 104 = .ok (.bipush 40, 2) := by decide +kernel
theorem dX8_set_106 : decode cX8_set 106 = .ok (.iload_n 1, 1) := by decide +kernel
theorem dX8_set_107 : decode cX8_set 107 = .ok (.imul, 1) := by decide +kernel
theorem dX8_set_108 : decode cX8_set 108 = .ok (.iload_n 2, 1) := by decide +kernel
theorem dX8_set_109 : decode cX8_set 109 = .ok (.iadd, 1) := by decide +kernel
theorem dX8_set_110 : decode cX8_set 110 = .ok (.iaload, 1) := by decide +kernel
theorem dX8_set_111 : decode cX8_set 111 = .ok (.ireturn, 1) := by decide +kernel
theorem dX8_copy_0 : decode cX8_copy 0 = .ok (.aload_n 0, 1) := by decide +kernel
theorem dX8_copy_1 : decode cX8_copy 1 = .ok (.iconst 0, 1) := by decide +kernel
theorem dX8_copy_2 : decode cX8_copy 2 = .ok (.putfield 79, 3) := by decide +kernel
theorem dX8_copy_5 : decode cX8_copy 5 = .ok (.iload_n 1, 1) := by decide +kernel
theorem dX8_copy_6 : decode cX8_copy 6 = .ok (.invokestatic 92, 3) := by decide +kernel
theorem dX8_copy_9 : decode cX8_copy 9 = .ok (.ifCond .eq 10, 3) := by decide +kernel
theorem dX8_copy_12 : decode cX8_copy 12 = .ok (.iload_n 3, 1) := by decide +kernel
theorem dX8_copy_13 : decode cX8_copy 13 = .ok (.invokestatic 92, 3) := by decide +kernel
theorem dX8_copy_16 : decode cX8_copy 16 = .ok (.ifCond .ne 6, 3) := by decide +kernel
theorem dX8_copy_19 : decode cX8_copy 19 = .ok (.ldc 98, 2) := by decide +kernel
theorem dX8_copy_21 : decode cX8_copy 21 = .ok (.ireturn, 1) := by decide +kernel
theorem dX8_copy_22 : decode cX8_copy 22 = .ok (.aload_n 0, 1) := by decide +kernel
theorem dX8_copy_23 : decode cX8_copy 23 = .ok (.iconst 0, 1) := by decide +kernel
theorem dX8_copy_24 : decode cX8_copy 24 = .ok (.putfield 82, 3) := by decide +kernel
theorem dX8_copy_27 : decode cX8_copy 27 = .ok (.aload_n 0, 1) := by decide +kernel
theorem dX8_copy_28 : decode cX8_copy 28 = .ok (.getfield 7, 3) := by decide +kernel
theorem dX8_copy_31 : decode cX8_copy 31 = .ok (.iload_n 1, 1) := by decide +kernel
theorem dX8_copy_32 : decode cX8_copy 32 = .ok (.iaload, 1) := by decide +kernel
theorem dX8_copy_33 : decode cX8_copy 33 = .ok (.ifCond .lt 12, 3) := by decide +kernel
theorem dX8_copy_36 : decode cX8_copy 36 = .ok (.aload_n 0, 1) := by decide +kernel
theorem dX8_copy_37 : decode cX8_copy 37 = .ok (.getfield 7, 3) := by decide +kernel
theorem dX8_copy_40 : decode cX8_copy 40 = .ok (.iload_n 3, 1) := by decide +kernel
theorem dX8_copy_41 : decode cX8_copy 41 = .ok (.iaload, 1) := by decide +kernel
theorem dX8_copy_42 : decode cX8_copy 42 = .ok (.ifCond .ge 9, 3) := by decide +kernel
theorem dX8_copy_45 : decode cX8_copy 45 = .ok (.aload_n 0, 1) := by decide +kernel
theorem dX8_copy_46 : decode cX8_copy 46 = .ok (.iconst 1, 1) := by decide +kernel
theorem dX8_copy_47 : decode cX8_copy 47 = .ok (.invokevirtual 99, 3) := by decide +kernel
theorem dX8_copy_50 : decode cX8_copy 50 = .ok (.ireturn, 1) := by decide +kernel
theorem dX8_copy_51 : decode cX8_copy 51 = .ok (.aload_n 0, 1) := by decide +kernel
theorem dX8_copy_52 : decode cX8_copy 52 = .ok (.getfield 7, 3) := by decide +kernel
theorem dX8_copy_55 : decode cX8_copy 55 = .ok (.iload_n 1, 1) := by decide +kernel
theorem dX8_copy_56 : decode cX8_copy 56 = .ok (.iaload, 1) := by decide +kernel
theorem dX8_copy_57 : decode cX8_copy 57 = .ok (.aload_n 0, 1) := by decide +kernel
theorem dX8_copy_58 : decode cX8_copy 58 = .ok (.getfield 7, 3) := by decide +kernel
theorem dX8_copy_61 : decode cX8_copy 61 = .ok (.iload_n 3, 1) := by decide +kernel
theorem dX8_copy_62 : decode cX8_copy 62 = .ok (.iaload, 1) := by decide +kernel
theorem dX8_copy_63 : decode cX8_copy 63 = .ok (.if_icmp .eq 9, 3) := by decide +kernel
theorem dX8_copy_66 : decode cX8_copy 66 = .ok (.aload_n 0, 1) := by decide +kernel
theorem dX8_copy_67 : decode cX8_copy 67 = .ok (.iconst 5, 1) := by decide +kernel
theorem dX8_copy_68 : decode cX8_copy 68 = .ok (.invokevirtual 99, 3) := by decide +kernel
theorem dX8_copy_71 : decode cX8_copy 71 = .ok (.ireturn, 1) := by decide +kernel
theorem dX8_copy_72 : decode cX8_copy 72 = .ok (.iload_n 2, 1) := by decide +kernel
theorem dX8_copy_73 : decode cX8_copy 73 = .ok (.ifCond .lt 48, 3) := by decide +kernel
theorem dX8_copy_76 : decode cX8_copy 76 = .ok (.iload 4, 2) := by decide +kernel
theorem dX8_copy_78 : decode cX8_copy 78 = .ok (.ifCond .lt 43, 3) := by decide +kernel
theorem dX8_copy_81 : decode cX8_copy 81 = .ok (.iload 5, 2) := by decide +kernel
theorem dX8_copy_83 : decode cX8_copy 83 = .ok (.ifCond .lt 38, 3) := by decide +kernel
theorem dX8_copy_86 : decode cX8_copy 86 = .ok (.iload_n 2, 1) := by decide +kernel
theorem dX8_copy_87 : decode cX8_copy 87 = .ok (.i2l, 1) := by decide +kernel
theorem dX8_copy_88 : decode cX8_copy 88 = .ok (.iload 5, 2) := by decide +kernel
theorem dX8_copy_90 : decode cX8_copy 90 = .ok (.i2l, 1) := by decide +kernel
theorem dX8_copy_91 : decode cX8_copy 91 = .ok (.ladd, 1) := by decide +kernel
theorem dX8_copy_92 : decode cX8_copy 92 = .ok (.aload_n 0, 1) := by decide +kernel
theorem dX8_copy_93 : decode cX8_copy 93 = .ok (.getfield 13, 3) := by decide +kernel
theorem dX8_copy_96 : decode cX8_copy 96 = .ok (.iload_n 1, 1) := by decide +kernel
theorem dX8_copy_97 : decode cX8_copy 97 = .ok (.iaload, 1) := by decide +kernel
theorem dX8_copy_98 : decode cX8_copy 98 = .ok (.i2l, 1) := by decide +kernel
theorem dX8_copy_99 : decode cX8_copy 99 = .ok (.lcmp, 1) := by decide +kernel
theorem dX8_copy_100 : decode cX8_copy 100 = .ok (.ifCond .gt 21, 3) := by decide +kernel
theorem dX8_copy_103 : decode cX8_copy 103 = .ok (.iload 4, 2) := by decide +kernel
theorem dX8_copy_105 : decode cX8_copy 105 = .ok (.i2l, 1) := by decide +kernel
theorem dX8_copy_106 : decode cX8_copy 106 = .ok (.iload 5, 2) := by decide +kernel
theorem dX8_copy_108 : decode cX8_copy 108 = .ok (.i2l, 1) := by decide +kernel
theorem dX8_copy_109 : decode cX8_copy 109 = .ok (.ladd, 1) := by decide +kernel
theorem dX8_copy_110 : decode cX8_copy 110 = .ok (.aload_n 0, 1) := by decide +kernel
theorem dX8_copy_111 : decode cX8_copy 111 = .ok (.getfield 13, 3) := by decide +kernel
theorem dX8_copy_114 : decode cX8_copy 114 = .ok (.iload_n 3, 1) := by decide +kernel
theorem dX8_copy_115 : decode cX8_copy 115 = .ok (.iaload, 1) := by decide +kernel
theorem dX8_copy_116 : decode cX8_copy 116 = .ok (.i2l, 1) := by decide +kernel
theorem dX8_copy_117 : decode cX8_copy 117 = .ok (.lcmp, 1) := by decide +kernel
theorem dX8_copy_118 : decode cX8_copy 118 = .ok (.ifCond .le 9, 3) := by decide +kernel
theorem dX8_copy_121 : decode cX8_copy 121 = .ok (.aload_n 0, 1) := by decide +kernel
theorem dX8_copy_122 : decode cX8_copy 122 = .ok (.iconst 2, 1) := by decide +kernel
theorem dX8_copy_123 : decode cX8_copy 123 = .ok (.invokevirtual 99, 3) := by decide +kernel
theorem dX8_copy_126 : decode cX8_copy 126 = .ok (.ireturn, 1) := by decide +kernel
theorem dX8_copy_127 : decode cX8_copy 127 = .ok (.iload_n 2, 1) := by decide +kernel
theorem dX8_copy_128 : decode cX8_copy 128 = .ok (.iload 4, 2) := by decide +kernel
theorem dX8_copy_130 : decode cX8_copy 130 = .ok (.if_icmp .lt 7, 3) := by decide +kernel
theorem dX8_copy_133 : decode cX8_copy 133 = .ok (.iconst 1, 1) := by decide +kernel
theorem dX8_copy_134 : decode cX8_copy 134 = .ok (.goto 4, 3) := by decide +kernel
theorem dX8_copy_137 : decode cX8_copy 137 = .ok (.iconst 0, 1) := by decide +kernel
theorem dX8_copy_138 : decode cX8_copy 138 = .ok (.istore 6, 2) := by decide +kernel
theorem dX8_copy_140 : decode cX8_copy 140 = .ok (.iconst 0, 1) := by decide +kernel
theorem dX8_copy_141 : decode cX8_copy 141 = .ok (.istore 7, 2) := by decide +kernel
theorem dX8_copy_143 : decode cX8_copy 143 = .ok (.iload 7, 2) := by decide +kernel
theorem dX8_copy_145 : decode cX8_copy 145 = .ok (.iload 5, 2) := by decide +kernel
theorem dX8_copy_147 : decode cX8_copy 147 = .ok (.if_icmp .ge 57, 3) := by decide +kernel
theorem dX8_copy_150 : decode cX8_copy 150 = .ok (.iload 6, 2) := by decide +kernel
theorem dX8_copy_152 : decode cX8_copy 152 = .ok (.ifCond .eq 8, 3) := by decide +kernel
theorem dX8_copy_155 : decode cX8_copy 155 = .ok (.iload 7, 2) := by decide +kernel
theorem dX8_copy_157 : decode cX8_copy 157 = .ok (.goto 10, 3) := by decide +kernel
theorem dX8_copy_160 : decode cX8_copy 160 = .ok (.iload 5, 2) := by decide +kernel
theorem dX8_copy_162 : decode cX8_copy 162 = .ok (.iconst 1, 1) := by decide +kernel
theorem dX8_copy_163 : decode cX8_copy 163 = .ok (.isub, 1) := by decide +kernel
theorem dX8_copy_164 : decode cX8_copy 164 = .ok (.iload 7, 2) := by decide +kernel
theorem dX8_copy_166 : decode cX8_copy 166 = .ok (.isub, 1) := by decide +kernel
theorem dX8_copy_167 : decode cX8_copy 167 = .ok (.istore 8, 2) := by decide +kernel
theorem dX8_copy_169 : decode cX8_copy 169 = .ok (.aload_n 0, 1) := by decide +kernel
theorem dX8_copy_170 : decode cX8_copy 170 = .ok (.getfield 16, 3) := by decide +kernel
theorem dX8_copy_173 : decode cX8_copy 173 = .ok (.bipush 40, 2) := by decide +kernel
theorem dX8_copy_175 : decode cX8_copy 175 = .ok (.iload_n 3, 1) := by decide +kernel
theorem dX8_copy_176 : decode cX8_copy 176 = .ok (.imul, 1) := by decide +kernel
theorem dX8_copy_177 : decode cX8_copy 177 = .ok (.iload 4, 2) := by decide +kernel
theorem dX8_copy_179 : decode cX8_copy 179 = .ok (.iadd, 1) := by decide +kernel
theorem dX8_copy_180 : decode cX8_copy 180 = .ok (.iload 8, 2) := by decide +kernel
theorem dX8_copy_182 : decode cX8_copy 182 = .ok (.iadd, 1) := by decide +kernel
theorem dX8_copy_183 : decode cX8_copy 183 = .ok (.aload_n 0, 1) := by decide +kernel
theorem dX8_copy_184 : decode cX8_copy 184 = .ok (.getfield 16, 3) := by decide +kernel
theorem dX8_copy_187 : decode cX8_copy 187 = .ok (.bipush 40, 2) := by decide +kernel
theorem dX8_copy_189 : decode cX8_copy 189 = .ok (.iload_n 1, 1) := by decide +kernel
theorem dX8_copy_190 : decode cX8_copy 190 = .ok (.imul, 1) := by decide +kernel
theorem dX8_copy_191 : decode cX8_copy 191 = .ok (.iload_n 2, 1) := by decide +kernel
theorem dX8_copy_192 : decode cX8_copy 192 = .ok (.iadd, 1) := by decide +kernel
theorem dX8_copy_193 : decode cX8_copy 193 = .ok (.iload 8, 2) := by decide +kernel
theorem dX8_copy_195 : decode cX8_copy 195 = .ok (.iadd, 1) := by decide +kernel
theorem dX8_copy_196 : decode cX8_copy 196 = .ok (.iaload, 1) := by decide +kernel
theorem dX8_copy_197 : decode cX8_copy 197 = .ok (.iastore, 1) := by decide +kernel
theorem dX8_copy_198 : decode cX8_copy 198 = .ok (.iinc 7 1, 3) := by decide +kernel
theorem dX8_copy_201 : decode cX8_copy 201 = .ok (.goto (-58), 3) := by decide +kernel
theorem dX8_copy_204 : decode cX8_copy 204 = .ok (.iload 5, 2) := by decide +kernel
theorem dX8_copy_206 : decode cX8_copy 206 = .ok (.ireturn, 1) := by decide +kernel
theorem dX8_drop_0 : decode cX8_drop 0 = .ok (.aload_n 0, 1) := by decide +kernel
theorem dX8_drop_1 : decode cX8_drop 1 = .ok (.iconst 0, 1) := by decide +kernel
theorem dX8_drop_2 : decode cX8_drop 2 = .ok (.putfield 79, 3) := by decide +kernel
theorem dX8_drop_5 : decode cX8_drop 5 = .ok (.iload_n 1, 1) := by decide +kernel
theorem dX8_drop_6 : decode cX8_drop 6 = .ok (.invokestatic 92, 3) := by decide +kernel
theorem dX8_drop_9 : decode cX8_drop 9 = .ok (.ifCond .ne 6, 3) := by decide +kernel
theorem dX8_drop_12 : decode cX8_drop 12 = .ok (.ldc 98, 2) := by decide +kernel
theorem dX8_drop_14 : decode cX8_drop 14 = .ok (.ireturn, 1) := by decide +kernel
theorem dX8_drop_15 : decode cX8_drop 15 = .ok (.aload_n 0, 1) := by decide +kernel
theorem dX8_drop_16 : decode cX8_drop 16 = .ok (.iconst 0, 1) := by decide +kernel
theorem dX8_drop_17 : decode cX8_drop 17 = .ok (.putfield 82, 3) := by decide +kernel
theorem dX8_drop_20 : decode cX8_drop 20 = .ok (.aload_n 0, 1) := by decide +kernel
theorem dX8_drop_21 : decode cX8_drop 21 = .ok (.getfield 7, 3) := by decide +kernel
theorem dX8_drop_24 : decode cX8_drop 24 = .ok (.iload_n 1, 1) := by decide +kernel
theorem dX8_drop_25 : decode cX8_drop 25 = .ok (.iaload, 1) := by decide +kernel
theorem dX8_drop_26 : decode cX8_drop 26 = .ok (.ifCond .ge 9, 3) := by decide +kernel
theorem dX8_drop_29 : decode cX8_drop 29 = .ok (.aload_n 0, 1) := by decide +kernel
theorem dX8_drop_30 : decode cX8_drop 30 = .ok (.iconst 1, 1) := by decide +kernel
theorem dX8_drop_31 : decode cX8_drop 31 = .ok (.invokevirtual 99, 3) := by decide +kernel
theorem dX8_drop_34 : decode cX8_drop 34 = .ok (.ireturn, 1) := by decide +kernel
theorem dX8_drop_35 : decode cX8_drop 35 = .ok (.aload_n 0, 1) := by decide +kernel
theorem dX8_drop_36 : decode cX8_drop 36 = .ok (.getfield 7, 3) := by decide +kernel
theorem dX8_drop_39 : decode cX8_drop 39 = .ok (.iload_n 1, 1) := by decide +kernel
theorem dX8_drop_40 : decode cX8_drop 40 = .ok (.iconst (-1), 1) := by decide +kernel
theorem dX8_drop_41 : decode cX8_drop 41 = .ok (.iastore, 1) := by decide +kernel
theorem dX8_drop_42 : decode cX8_drop 42 = .ok (.aload_n 0, 1) := by decide +kernel
theorem dX8_drop_43 : decode cX8_drop 43 = .ok (.getfield 13, 3) := by decide +kernel
theorem dX8_drop_46 : decode cX8_drop 46 = .ok (.iload_n 1, 1) := by decide +kernel
theorem dX8_drop_47 : decode cX8_drop 47 = .ok (.iaload, 1) := by decide +kernel
theorem dX8_drop_48 : decode cX8_drop 48 = .ok (.ireturn, 1) := by decide +kernel
theorem dX8_feed_0 : decode cX8_feed 0 = .ok (.aload_n 0, 1) := by decide +kernel
theorem dX8_feed_1 : decode cX8_feed 1 = .ok (.iconst 0, 1) := by decide +kernel
theorem dX8_feed_2 : decode cX8_feed 2 = .ok (.putfield 79, 3) := by decide +kernel
theorem dX8_feed_5 : decode cX8_feed 5 = .ok (.iload_n 1, 1) := by decide +kernel
theorem dX8_feed_6 : decode cX8_feed 6 = .ok (.i2l, 1) := by decide +kernel
theorem dX8_feed_7 : decode cX8_feed 7 = .ok (.lconst 0, 1) := by decide +kernel
theorem dX8_feed_8 : decode cX8_feed 8 = .ok (.ldc2_w 103, 3) := by decide +kernel
theorem dX8_feed_11 : decode cX8_feed 11 = .ok (.invokestatic 88, 3) := by decide +kernel
theorem dX8_feed_14 : decode cX8_feed 14 = .ok (.ifCond .ne 6, 3) := by decide +kernel
theorem dX8_feed_17 : decode cX8_feed 17 = .ok (.ldc 98, 2) := by decide +kernel
theorem dX8_feed_19 : decode cX8_feed 19 = .ok (.ireturn, 1) := by decide +kernel
theorem dX8_feed_20 : decode cX8_feed 20 = .ok (.aload_n 0, 1) := by decide +kernel
theorem dX8_feed_21 : decode cX8_feed 21 = .ok (.getfield 105, 3) := by decide +kernel
theorem dX8_feed_24 : decode cX8_feed 24 = .ok (.bipush 120, 2) := by decide +kernel
theorem dX8_feed_26 : decode cX8_feed 26 = .ok (.if_icmp .ne 6, 3) := by decide +kernel
theorem dX8_feed_29 : decode cX8_feed 29 = .ok (.ldc 108, 2) := by decide +kernel
theorem dX8_feed_31 : decode cX8_feed 31 = .ok (.ireturn, 1) := by decide +kernel
theorem dX8_feed_32 : decode cX8_feed 32 = .ok (.aload_n 0, 1) := by decide +kernel
theorem dX8_feed_33 : decode cX8_feed 33 = .ok (.getfield 28, 3) := by decide +kernel
theorem dX8_feed_36 : decode cX8_feed 36 = .ok (.aload_n 0, 1) := by decide +kernel
theorem dX8_feed_37 : decode cX8_feed 37 = .ok (.getfield 105, 3) := by decide +kernel
theorem dX8_feed_40 : decode cX8_feed 40 = .ok (.iload_n 1, 1) := by decide +kernel
theorem dX8_feed_41 : decode cX8_feed 41 = .ok (.iastore, 1) := by decide +kernel
theorem dX8_feed_42 : decode cX8_feed 42 = .ok (.aload_n 0, 1) := by decide +kernel
theorem dX8_feed_43 : decode cX8_feed 43 = .ok (.dup, 1) := by decide +kernel
theorem dX8_feed_44 : decode cX8_feed 44 = .ok (.getfield 105, 3) := by decide +kernel
theorem dX8_feed_47 : decode cX8_feed 47 = .ok (.iconst 1, 1) := by decide +kernel
theorem dX8_feed_48 : decode cX8_feed 48 = .ok (.iadd, 1) := by decide +kernel
theorem dX8_feed_49 : decode cX8_feed 49 = .ok (.putfield 105, 3) := by decide +kernel
theorem dX8_feed_52 : decode cX8_feed 52 = .ok (.aload_n 0, 1) := by decide +kernel
theorem dX8_feed_53 : decode cX8_feed 53 = .ok (.getfield 105, 3) := by decide +kernel
theorem dX8_feed_56 : decode cX8_feed 56 = .ok (.ireturn, 1) := by decide +kernel
theorem dX8_bad_0 : decode cX8_bad 0 = .ok (.aload_n 0, 1) := by decide +kernel
theorem dX8_bad_1 : decode cX8_bad 1 = .ok (.getfield 109, 3) := by decide +kernel
theorem dX8_bad_4 : decode cX8_bad 4 = .ok (.ifCond .ne 16, 3) := by decide +kernel
theorem dX8_bad_7 : decode cX8_bad 7 = .ok (.aload_n 0, 1) := by decide +kernel
theorem dX8_bad_8 : decode cX8_bad 8 = .ok (.iload_n 1, 1) := by decide +kernel
theorem dX8_bad_9 : decode cX8_bad 9 = .ok (.putfield 109, 3) := by decide +kernel
theorem dX8_bad_12 : decode cX8_bad 12 = .ok (.aload_n 0, 1) := by decide +kernel
theorem dX8_bad_13 : decode cX8_bad 13 = .ok (.aload_n 0, 1) := by decide +kernel
theorem dX8_bad_14 : decode cX8_bad 14 = .ok (.getfield 112, 3) := by decide +kernel
theorem dX8_bad_17 : decode cX8_bad 17 = .ok (.putfield 115, 3) := by decide +kernel
theorem dX8_bad_20 : decode cX8_bad 20 = .ok (.return_, 1) := by decide +kernel
theorem dX8_nextToken_0 : decode cX8_nextToken 0 = .ok (.aload_n 0, 1) := by decide +kernel
theorem dX8_nextToken_1 : decode cX8_nextToken 1 = .ok (.aload_n 0, 1) := by decide +kernel
theorem dX8_nextToken_2 : decode cX8_nextToken 2 = .ok (.getfield 118, 3) := by decide +kernel
theorem dX8_nextToken_5 : decode cX8_nextToken 5 = .ok (.putfield 112, 3) := by decide +kernel
theorem dX8_nextToken_8 : decode cX8_nextToken 8 = .ok (.aload_n 0, 1) := by decide +kernel
theorem dX8_nextToken_9 : decode cX8_nextToken 9 = .ok (.aload_n 0, 1) := by decide +kernel
theorem dX8_nextToken_10 : decode cX8_nextToken 10 = .ok (.getfield 118, 3) := by decide +kernel
theorem dX8_nextToken_13 : decode cX8_nextToken 13 = .ok (.aload_n 0, 1) := by decide +kernel
theorem dX8_nextToken_14 : decode cX8_nextToken 14 = .ok (.getfield 105, 3) := by decide +kernel
theorem dX8_nextToken_17 : decode cX8_nextToken 17 = .ok (.if_icmp .ge 15, 3) := by decide +kernel
theorem dX8_nextToken_20 : decode cX8_nextToken 20 = .ok (.aload_n 0, 1) := by decide +kernel
theorem dX8_nextToken_21 : decode cX8_nextToken 21 = .ok (.getfield 28, 3) := by decide +kernel
theorem dX8_nextToken_24 : decode cX8_nextToken 24 = .ok (.aload_n 0, 1) := by decide +kernel
theorem dX8_nextToken_25 : decode cX8_nextToken 25 = .ok (.getfield 118, 3) := by decide +kernel
theorem dX8_nextToken_28 : decode cX8_nextToken 28 = .ok (.iaload, 1) := by decide +kernel
theorem dX8_nextToken_29 : decode cX8_nextToken 29 = .ok (.goto 5, 3) := by decide +kernel
theorem dX8_nextToken_32 : decode cX8_nextToken 32 = .ok (.ldc 61, 2) := by decide +kernel
theorem dX8_nextToken_34 : decode cX8_nextToken 34 = .ok (.putfield 121, 3) := by decide +kernel
theorem dX8_nextToken_37 : decode cX8_nextToken 37 = .ok (.aload_n 0, 1) := by decide +kernel
theorem dX8_nextToken_38 : decode cX8_nextToken 38 = .ok (.aload_n 0, 1) := by decide +kernel
theorem dX8_nextToken_39 : decode cX8_nextToken 39 = .ok (.getfield 118, 3) := by decide +kernel
theorem dX8_nextToken_42 : decode cX8_nextToken 42 = .ok (.aload_n 0, 1) := by decide +kernel
theorem dX8_nextToken_43 : decode cX8_nextToken 43 = .ok (.getfield 105, 3) := by decide +kernel
theorem dX8_nextToken_46 : decode cX8_nextToken 46 = .ok (.if_icmp .ne 7, 3) := by decide +kernel
theorem dX8_nextToken_49 : decode cX8_nextToken 49 = .ok (.iconst 1, 1) := by decide +kernel
theorem dX8_nextToken_50 : decode cX8_nextToken 50 = .ok (.goto 68, 3) := by decide +kernel
theorem dX8_nextToken_53 : decode cX8_nextToken 53 = .ok (.aload_n 0, 1) := by decide +kernel
theorem dX8_nextToken_54 : decode cX8_nextToken 54 = .ok (.getfield 121, 3) := by decide +kernel
theorem dX8_nextToken_57 : decode cX8_nextToken 57 = .ok (.i2l, 1) := by decide +kernel
theorem dX8_nextToken_58 : decode cX8_nextToken 58 = .ok (.ldc2_w 124, 3) := by decide +kernel
theorem dX8_nextToken_61 : decode cX8_nextToken 61 = .ok (.ldc2_w 126, 3) := by decide +kernel
theorem dX8_nextToken_64 : decode cX8_nextToken 64 = .ok (.invokestatic 88, 3) := by decide +kernel
theorem dX8_nextToken_67 : decode cX8_nextToken 67 = .ok (.ifCond .eq 7, 3) := by decide +kernel
theorem dX8_nextToken_70 : decode cX8_nextToken 70 = .ok (.iconst 2, 1) := by decide +kernel
theorem dX8_nextToken_71 : decode cX8_nextToken 71 = .ok (.goto 47, 3) := by decide +kernel
theorem dX8_nextToken_74 : decode cX8_nextToken 74 = .ok (.aload_n 0, 1) := by decide +kernel
theorem dX8_nextToken_75 : decode cX8_nextToken 75 = .ok (.getfield 121, 3) := by decide +kernel
theorem dX8_nextToken_78 : decode cX8_nextToken 78 = .ok (.i2l, 1) := by decide +kernel
theorem dX8_nextToken_79 : decode cX8_nextToken 79 = .ok (.ldc2_w 128, 3) := by decide +kernel
theorem dX8_nextToken_82 : decode cX8_nextToken 82 = .ok (.ldc2_w 130, 3) := by decide +kernel
theorem dX8_nextToken_85 : decode cX8_nextToken 85 = .ok (.invokestatic 88, 3) := by decide +kernel
theorem dX8_nextToken_88 : decode cX8_nextToken 88 = .ok (.ifCond .eq 7, 3) := by decide +kernel
theorem dX8_nextToken_91 : decode cX8_nextToken 91 = .ok (.iconst 3, 1) := by decide +kernel
theorem dX8_nextToken_92 : decode cX8_nextToken 92 = .ok (.goto 26, 3) := by decide +kernel
theorem dX8_nextToken_95 : decode cX8_nextToken 95 = .ok (.aload_n 0, 1) := by decide +kernel
theorem dX8_nextToken_96 : decode cX8_nextToken 96 = .ok (.getfield 121, 3) := by decide +kernel
theorem dX8_nextToken_99 : decode cX8_nextToken 99 = .ok (.bipush 44, 2) := by decide +kernel
theorem dX8_nextToken_101 : decode cX8_nextToken 101 = .ok (.if_icmp .eq 12, 3) := by decide +kernel
theorem dX8_nextToken_104 : decode cX8_nextToken 104 = .ok (.aload_n 0, 1) := by decide +kernel
theorem dX8_nextToken_105 : decode cX8_nextToken 105 = .ok (.getfield 121, 3) := by decide +kernel
theorem dX8_nextToken_108 : decode cX8_nextToken 108 = .ok (.bipush 59, 2) := by decide +kernel
theorem dX8_nextToken_110 : decode cX8_nextToken 110 = .ok (.if_icmp .ne 7, 3) := by decide +kernel
theorem dX8_nextToken_113 : decode cX8_nextToken 113 = .ok (.iconst 4, 1) := by decide +kernel
theorem dX8_nextToken_114 : decode cX8_nextToken 114 = .ok (.goto 4, 3) := by decide +kernel
theorem dX8_nextToken_117 : decode cX8_nextToken 117 = .ok (.iconst 0, 1) := by decide +kernel
theorem dX8_nextToken_118 : decode cX8_nextToken 118 = .ok (.putfield 132, 3) := by decide +kernel
theorem dX8_nextToken_121 : decode cX8_nextToken 121 = .ok (.aload_n 0, 1) := by decide +kernel
theorem dX8_nextToken_122 : decode cX8_nextToken 122 = .ok (.dup, 1) := by decide +kernel
theorem dX8_nextToken_123 : decode cX8_nextToken 123 = .ok (.getfield 118, 3) := by decide +kernel
theorem dX8_nextToken_126 : decode cX8_nextToken 126 = .ok (.aload_n 0, 1) := by decide +kernel
theorem dX8_nextToken_127 : decode cX8_nextToken 127 = .ok (.getfield 118, 3) := by decide +kernel
theorem dX8_nextToken_130 : decode cX8_nextToken 130 = .ok (.aload_n 0, 1) := by decide +kernel
theorem dX8_nextToken_131 : decode cX8_nextToken 131 = .ok (.getfield 105, 3) := by decide +kernel
theorem dX8_nextToken_134 : decode cX8_nextToken 134 = .ok (.if_icmp .ge 7, 3) := by decide +kernel
theorem dX8_nextToken_137 : decode cX8_nextToken 137 = .ok (.iconst 1, 1) := by decide +kernel
theorem dX8_nextToken_138 : decode cX8_nextToken 138 = .ok (.goto 4, 3) := by decide +kernel
theorem dX8_nextToken_141 : decode cX8_nextToken 141 = .ok (.iconst 0, 1) := by decide +kernel
theorem dX8_nextToken_142 : decode cX8_nextToken 142 = .ok (.iadd, 1) := by decide +kernel
theorem dX8_nextToken_143 : decode cX8_nextToken 143 = .ok (.putfield 118, 3) := by decide +kernel
theorem dX8_nextToken_146 : decode cX8_nextToken 146 = .ok (.aload_n 0, 1) := by decide +kernel
theorem dX8_nextToken_147 : decode cX8_nextToken 147 = .ok (.getfield 132, 3) := by decide +kernel
theorem dX8_nextToken_150 : decode cX8_nextToken 150 = .ok (.iconst 3, 1) := by decide +kernel
theorem dX8_nextToken_151 : decode cX8_nextToken 151 = .ok (.if_icmp .ne 126, 3) := by decide +kernel
theorem dX8_nextToken_154 : decode cX8_nextToken 154 = .ok (.aload_n 0, 1) := by decide +kernel
theorem dX8_nextToken_155 : decode cX8_nextToken 155 = .ok (.dup, 1) := by decide +kernel
theorem dX8_nextToken_156 : decode cX8_nextToken 156 = .ok (.getfield 121, 3) := by decide +kernel
theorem dX8_nextToken_159 : decode cX8_nextToken 159 = .ok (.bipush 48, 2) := by decide +kernel
theorem dX8_nextToken_161 : decode cX8_nextToken 161 = .ok (.isub, 1) := by decide +kernel
theorem dX8_nextToken_162 : decode cX8_nextToken 162 = .ok (.putfield 121, 3) := by decide +kernel
theorem dX8_nextToken_165 : decode cX8_nextToken 165 = .ok (.aload_n 0, 1) := by decide +kernel
theorem dX8_nextToken_166 : decode cX8_nextToken 166 = .ok (.getfield 118, 3) := by decide +kernel
theorem dX8_nextToken_169 : decode cX8_nextToken 169 = .ok (.aload_n 0, 1) := by decide +kernel
theorem dX8_nextToken_170 : decode cX8_nextToken 170 = .ok (.getfield 105, 3) := by decide +kernel
theorem dX8_nextToken_173 : decode cX8_nextToken 173 = .ok (.if_icmp .ge 82, 3) := by decide +kernel
theorem dX8_nextToken_176 : decode cX8_nextToken 176 = .ok (.aload_n 0, 1) := by decide +kernel
theorem dX8_nextToken_177 : decode cX8_nextToken 177 = .ok (.getfield 28, 3) := by decide +kernel
theorem dX8_nextToken_180 : decode cX8_nextToken 180 = .ok (.aload_n 0, 1) := by decide +kernel
theorem dX8_nextToken_181 : decode cX8_nextToken 181 = .ok (.getfield 118, 3) := by decide +kernel
theorem dX8_nextToken_184 : decode cX8_nextToken 184 = .ok (.iaload, 1) := by decide +kernel
theorem dX8_nextToken_185 : decode cX8_nextToken 185 = .ok (.i2l, 1) := by decide +kernel
theorem dX8_nextToken_186 : decode cX8_nextToken 186 = .ok (.ldc2_w 128, 3) := by decide +kernel
theorem dX8_nextToken_189 : decode cX8_nextToken 189 = .ok (.ldc2_w 130, 3) := by decide +kernel
theorem dX8_nextToken_192 : decode cX8_nextToken 192 = .ok (.invokestatic 88, 3) := by decide +kernel
theorem dX8_nextToken_195 : decode cX8_nextToken 195 = .ok (.ifCond .eq 60, 3) := by decide +kernel
theorem dX8_nextToken_198 : decode cX8_nextToken 198 = .ok (.aload_n 0, 1) := by decide +kernel
theorem dX8_nextToken_199 : decode cX8_nextToken 199 = .ok (.aload_n 0, 1) := by decide +kernel
theorem dX8_nextToken_200 : decode cX8_nextToken 200 = .ok (.getfield 118, 3) := by decide +kernel
theorem dX8_nextToken_203 : decode cX8_nextToken 203 = .ok (.aload_n 0, 1) := by decide +kernel
theorem dX8_nextToken_204 : decode cX8_nextToken 204 = .ok (.getfield 112, 3) := by decide +kernel
theorem dX8_nextToken_207 : decode cX8_nextToken 207 = .ok (.isub, 1) := by decide +kernel
theorem dX8_nextToken_208 : decode cX8_nextToken 208 = .ok (.iconst 2, 1) := by decide +kernel
theorem dX8_nextToken_209 : decode cX8_nextToken 209 = .ok (.if_icmp .ge 26, 3) := by decide +kernel
theorem dX8_nextToken_212 : decode cX8_nextToken 212 = .ok (.bipush 10, 2) := by decide +kernel
theorem dX8_nextToken_214 : decode cX8_nextToken 214 = .ok (.aload_n 0, 1) := by decide +kernel
theorem dX8_nextToken_215 : decode cX8_nextToken 215 = .ok (.getfield 121, 3) := by decide +kernel
theorem dX8_nextToken_218 : decode cX8_nextToken 218 = .ok (.imul, 1) := by decide +kernel
theorem dX8_nextToken_219 : decode cX8_nextToken 219 = .ok (.aload_n 0, 1) := by decide +kernel
theorem dX8_nextToken_220 : decode cX8_nextToken 220 = .ok (.getfield 28, 3) := by decide +kernel
theorem dX8_nextToken_223 : decode cX8_nextToken 223 = .ok (.aload_n 0, 1) := by decide +kernel
theorem dX8_nextToken_224 : decode cX8_nextToken 224 = .ok (.getfield 118, 3) := by decide +kernel
theorem dX8_nextToken_227 : decode cX8_nextToken 227 = .ok (.iaload, 1) := by decide +kernel
theorem dX8_nextToken_228 : decode cX8_nextToken 228 = .ok (.iadd, 1) := by decide +kernel
theorem dX8_nextToken_229 : decode cX8_nextToken 229 = .ok (.bipush 48, 2) := by decide +kernel
theorem dX8_nextToken_231 : decode cX8_nextToken 231 = .ok (.isub, 1) := by decide +kernel
theorem dX8_nextToken_232 : decode cX8_nextToken 232 = .ok (.goto 7, 3) := by decide +kernel
theorem dX8_nextToken_235 : decode cX8_nextToken 235 = .ok (.aload_n 0, 1) := by decide +kernel
theorem dX8_nextToken_236 : decode cX8_nextToken 236 = .ok (.getfield 121, 3) := by decide +kernel
theorem dX8_nextToken_239 : decode cX8_nextToken 239 = .ok (.putfield 121, 3) := by decide +kernel
theorem dX8_nextToken_242 : decode cX8_nextToken 242 = .ok (.aload_n 0, 1) := by decide +kernel
theorem dX8_nextToken_243 : decode cX8_nextToken 243 = .ok (.dup, 1) := by decide +kernel
theorem dX8_nextToken_244 : decode cX8_nextToken 244 = .ok (.getfield 118, 3) := by decide +kernel
theorem dX8_nextToken_247 : decode cX8_nextToken 247 = .ok (.iconst 1, 1) := by decide +kernel
theorem dX8_nextToken_248 : decode cX8_nextToken 248 = .ok (.iadd, 1) := by decide +kernel
theorem dX8_nextToken_249 : decode cX8_nextToken 249 = .ok (.putfield 118, 3) := by decide +kernel
theorem dX8_nextToken_252 : decode cX8_nextToken 252 = .ok (.goto (-87), 3) := by decide +kernel
theorem dX8_nextToken_255 : decode cX8_nextToken 255 = .ok (.aload_n 0, 1) := by decide +kernel
theorem dX8_nextToken_256 : decode cX8_nextToken 256 = .ok (.aload_n 0, 1) := by decide +kernel
theorem dX8_nextToken_257 : decode cX8_nextToken 257 = .ok (.getfield 118, 3) := by decide +kernel
theorem dX8_nextToken_260 : decode cX8_nextToken 260 = .ok (.aload_n 0, 1) := by decide +kernel
theorem dX8_nextToken_261 : decode cX8_nextToken 261 = .ok (.getfield 112, 3) := by decide +kernel
theorem dX8_nextToken_264 : decode cX8_nextToken 264 = .ok (.isub, 1) := by decide +kernel
theorem dX8_nextToken_265 : decode cX8_nextToken 265 = .ok (.iconst 2, 1) := by decide +kernel
theorem dX8_nextToken_266 : decode cX8_nextToken 266 = .ok (.if_icmp .le 7, 3) := by decide +kernel
theorem dX8_nextToken_269 : decode cX8_nextToken 269 = .ok (.iconst 0, 1) := by decide +kernel
theorem dX8_nextToken_270 : decode cX8_nextToken 270 = .ok (.goto 4, 3) := by decide +kernel
theorem dX8_nextToken_273 : decode cX8_nextToken 273 = .ok (.iconst 3, 1) := by decide +kernel
theorem dX8_nextToken_274 : decode cX8_nextToken 274 = .ok (.putfield 132, 3) := by decide +kernel
theorem dX8_nextToken_277 : decode cX8_nextToken 277 = .ok (.return_, 1) := by decide +kernel
theorem dX8_must_0 : decode cX8_must 0 = .ok (.iload_n 1, 1) := by decide +kernel
theorem dX8_must_1 : decode cX8_must 1 = .ok (.ifCond .ne 8, 3) := by decide +kernel
theorem dX8_must_4 : decode cX8_must 4 = .ok (.aload_n 0, 1) := by decide +kernel
theorem dX8_must_5 : decode cX8_must 5 = .ok (.iconst 1, 1) := by decide +kernel
theorem dX8_must_6 : decode cX8_must 6 = .ok (.invokevirtual 135, 3) := by decide +kernel
theorem dX8_must_9 : decode cX8_must 9 = .ok (.aload_n 0, 1) := by decide +kernel
theorem dX8_must_10 : decode cX8_must 10 = .ok (.getfield 109, 3) := by decide +kernel
theorem dX8_must_13 : decode cX8_must 13 = .ok (.ifCond .ne 7, 3) := by decide +kernel
theorem dX8_must_16 : decode cX8_must 16 = .ok (.aload_n 0, 1) := by decide +kernel
theorem dX8_must_17 : decode cX8_must 17 = .ok (.invokevirtual 139, 3) := by decide +kernel
theorem dX8_must_20 : decode cX8_must 20 = .ok (.return_, 1) := by decide +kernel
theorem dX8_isLetter_0 : decode cX8_isLetter 0 = .ok (.aload_n 0, 1) := by decide +kernel
theorem dX8_isLetter_1 : decode cX8_isLetter 1 = .ok (.getfield 109, 3) := by decide +kernel
theorem dX8_isLetter_4 : decode cX8_isLetter 4 = .ok (.ifCond .ne 23, 3) := by decide +kernel
theorem dX8_isLetter_7 : decode cX8_isLetter 7 = .ok (.aload_n 0, 1) := by decide +kernel
theorem dX8_isLetter_8 : decode cX8_isLetter 8 = .ok (.getfield 132, 3) := by decide +kernel
theorem dX8_isLetter_11 : decode cX8_isLetter 11 = .ok (.iconst 2, 1) := by decide +kernel
theorem dX8_isLetter_12 : decode cX8_isLetter 12 = .ok (.if_icmp .ne 15, 3) := by decide +kernel
theorem dX8_isLetter_15 : decode cX8_isLetter 15 = .ok (.aload_n 0, 1) := by decide +kernel
theorem dX8_isLetter_16 : decode cX8_isLetter 16 = .ok (.getfield 121, 3) := by decide +kernel
theorem dX8_isLetter_19 : decode cX8_isLetter 19 = .ok (.iload_n 1, 1) := by decide +kernel
theorem dX8_isLetter_20 : decode cX8_isLetter 20 = .ok (.if_icmp .ne 7, 3) := by decide +kernel
theorem dX8_isLetter_23 : decode cX8_isLetter 23 = .ok (.iconst 1, 1) := by decide +kernel
theorem dX8_isLetter_24 : decode cX8_isLetter 24 = .ok (.goto 4, 3) := by decide +kernel
theorem dX8_isLetter_27 : decode cX8_isLetter 27 = .ok (.iconst 0, 1) := by decide +kernel
theorem dX8_isLetter_28 : decode cX8_isLetter 28 = .ok (.ireturn, 1) := by decide +kernel
theorem dX8_number_0 : decode cX8_number 0 = .ok (.aload_n 0, 1) := by decide +kernel
theorem dX8_number_1 : decode cX8_number 1 = .ok (.getfield 109, 3) := by decide +kernel
theorem dX8_number_4 : decode cX8_number 4 = .ok (.ifCond .ne 16, 3) := by decide +kernel
theorem dX8_number_7 : decode cX8_number 7 = .ok (.aload_n 0, 1) := by decide +kernel
theorem dX8_number_8 : decode cX8_number 8 = .ok (.getfield 132, 3) := by decide +kernel
theorem dX8_number_11 : decode cX8_number 11 = .ok (.iconst 3, 1) := by decide +kernel
theorem dX8_number_12 : decode cX8_number 12 = .ok (.if_icmp .eq 8, 3) := by decide +kernel
theorem dX8_number_15 : decode cX8_number 15 = .ok (.aload_n 0, 1) := by decide +kernel
theorem dX8_number_16 : decode cX8_number 16 = .ok (.iconst 1, 1) := by decide +kernel
theorem dX8_number_17 : decode cX8_number 17 = .ok (.invokevirtual 135, 3) := by decide +kernel
theorem dX8_number_20 : decode cX8_number 20 = .ok (.aload_n 0, 1) := by decide +kernel
theorem dX8_number_21 : decode cX8_number 21 = .ok (.getfield 109, 3) := by decide +kernel
theorem dX8_number_24 : decode cX8_number 24 = .ok (.ifCond .ne 23, 3) := by decide +kernel
theorem dX8_number_27 : decode cX8_number 27 = .ok (.aload_n 0, 1) := by decide +kernel
theorem dX8_number_28 : decode cX8_number 28 = .ok (.getfield 121, 3) := by decide +kernel
theorem dX8_number_31 : decode cX8_number 31 = .ok (.i2l, 1) := by decide +kernel
theorem dX8_number_32 : decode cX8_number 32 = .ok (.iload_n 1, 1) := by decide +kernel
theorem dX8_number_33 : decode cX8_number 33 = .ok (.i2l, 1) := by decide +kernel
theorem dX8_number_34 : decode cX8_number 34 = .ok (.iload_n 2, 1) := by decide +kernel
theorem dX8_number_35 : decode cX8_number 35 = .ok (.i2l, 1) := by decide +kernel
theorem dX8_number_36 : decode cX8_number 36 = .ok (.invokestatic 88, 3) := by decide +kernel
theorem dX8_number_39 : decode cX8_number 39 = .ok (.ifCond .ne 8, 3) := by decide +kernel
theorem dX8_number_42 : decode cX8_number 42 = .ok (.aload_n 0, 1) := by decide +kernel
theorem dX8_number_43 : decode cX8_number 43 = .ok (.iconst 2, 1) := by decide +kernel
theorem dX8_number_44 : decode cX8_number 44 = .ok (.invokevirtual 135, 3) := by decide +kernel
theorem dX8_number_47 : decode cX8_number 47 = .ok (.aload_n 0, 1) := by decide +kernel
theorem dX8_number_48 : decode cX8_number 48 = .ok (.getfield 109, 3) := by decide +kernel
theorem dX8_number_51 : decode cX8_number 51 = .ok (.ifCond .ne 10, 3) := by decide +kernel
theorem dX8_number_54 : decode cX8_number 54 = .ok (.aload_n 0, 1) := by decide +kernel
theorem dX8_number_55 : decode cX8_number 55 = .ok (.getfield 121, 3) := by decide +kernel
theorem dX8_number_58 : decode cX8_number 58 = .ok (.goto 4, 3) := by decide +kernel
theorem dX8_number_61 : decode cX8_number 61 = .ok (.iload_n 1, 1) := by decide +kernel
theorem dX8_number_62 : decode cX8_number 62 = .ok (.istore_n 3, 1) := by decide +kernel
theorem dX8_number_63 : decode cX8_number 63 = .ok (.aload_n 0, 1) := by decide +kernel
theorem dX8_number_64 : decode cX8_number 64 = .ok (.iconst 1, 1) := by decide +kernel
theorem dX8_number_65 : decode cX8_number 65 = .ok (.invokevirtual 142, 3) := by decide +kernel
theorem dX8_number_68 : decode cX8_number 68 = .ok (.iload_n 3, 1) := by decide +kernel
theorem dX8_number_69 : decode cX8_number 69 = .ok (.ireturn, 1) := by decide +kernel
theorem dX8_mustSign_0 : decode cX8_mustSign 0 = .ok (.aload_n 0, 1) := by decide +kernel
theorem dX8_mustSign_1 : decode cX8_mustSign 1 = .ok (.aload_n 0, 1) := by decide +kernel
theorem dX8_mustSign_2 : decode cX8_mustSign 2 = .ok (.getfield 132, 3) := by decide +kernel
theorem dX8_mustSign_5 : decode cX8_mustSign 5 = .ok (.iconst 4, 1) := by decide +kernel
theorem dX8_mustSign_6 : decode cX8_mustSign 6 = .ok (.if_icmp .ne 15, 3) := by decide +kernel
theorem dX8_mustSign_9 : decode cX8_mustSign 9 = .ok (.aload_n 0, 1) := by decide +kernel
theorem dX8_mustSign_10 : decode cX8_mustSign 10 = .ok (.getfield 121, 3) := by decide +kernel
theorem dX8_mustSign_13 : decode cX8_mustSign 13 = .ok (.iload_n 1, 1) := by decide +kernel
theorem dX8_mustSign_14 : decode cX8_mustSign 14 = .ok (.if_icmp .ne 7, 3) := by decide +kernel
theorem dX8_mustSign_17 : decode cX8_mustSign 17 = .ok (.iconst 1, 1) := by decide +kernel
theorem dX8_mustSign_18 : decode cX8_mustSign 18 = .ok (.goto 4, 3) := by decide +kernel
theorem dX8_mustSign_21 : decode cX8_mustSign 21 = .ok (.iconst 0, 1) := by decide +kernel
theorem dX8_mustSign_22 : decode cX8_mustSign 22 = .ok (.invokevirtual 142, 3) := by decide +kernel
theorem dX8_mustSign_25 : decode cX8_mustSign 25 = .ok (.return_, 1) := by decide +kernel
theorem dX8_beginText_0 : decode cX8_beginText 0 = .ok (.aload_n 0, 1) := by decide +kernel
theorem dX8_beginText_1 : decode cX8_beginText 1 = .ok (.iconst 0, 1) := by decide +kernel
theorem dX8_beginText_2 : decode cX8_beginText 2 = .ok (.putfield 118, 3) := by decide +kernel
theorem dX8_beginText_5 : decode cX8_beginText 5 = .ok (.aload_n 0, 1) := by decide +kernel
theorem dX8_beginText_6 : decode cX8_beginText 6 = .ok (.iconst 0, 1) := by decide +kernel
theorem dX8_beginText_7 : decode cX8_beginText 7 = .ok (.putfield 109, 3) := by decide +kernel
theorem dX8_beginText_10 : decode cX8_beginText 10 = .ok (.aload_n 0, 1) := by decide +kernel
theorem dX8_beginText_11 : decode cX8_beginText 11 = .ok (.invokevirtual 139, 3) := by decide +kernel
theorem dX8_beginText_14 : decode cX8_beginText 14 = .ok (.return_, 1) := by decide +kernel
theorem dX8_failed_0 : decode cX8_failed 0 = .ok (.aload_n 0, 1) := by decide +kernel
theorem dX8_failed_1 : decode cX8_failed 1 = .ok (.getfield 109, 3) := by decide +kernel
theorem dX8_failed_4 : decode cX8_failed 4 = .ok (.ifCond .ne 16, 3) := by decide +kernel
theorem dX8_failed_7 : decode cX8_failed 7 = .ok (.aload_n 0, 1) := by decide +kernel
theorem dX8_failed_8 : decode cX8_failed 8 = .ok (.getfield 132, 3) := by decide +kernel
theorem dX8_failed_11 : decode cX8_failed 11 = .ok (.iconst 1, 1) := by decide +kernel
theorem dX8_failed_12 : decode cX8_failed 12 = .ok (.if_icmp .eq 8, 3) := by decide +kernel
theorem dX8_failed_15 : decode cX8_failed 15 = .ok (.aload_n 0, 1) := by decide +kernel
theorem dX8_failed_16 : decode cX8_failed 16 = .ok (.iconst 1, 1) := by decide +kernel
theorem dX8_failed_17 : decode cX8_failed 17 = .ok (.invokevirtual 135, 3) := by decide +kernel
theorem dX8_failed_20 : decode cX8_failed 20 = .ok (.aload_n 0, 1) := by decide +kernel
theorem dX8_failed_21 : decode cX8_failed 21 = .ok (.iconst 0, 1) := by decide +kernel
theorem dX8_failed_22 : decode cX8_failed 22 = .ok (.putfield 105, 3) := by decide +kernel
theorem dX8_failed_25 : decode cX8_failed 25 = .ok (.aload_n 0, 1) := by decide +kernel
theorem dX8_failed_26 : decode cX8_failed 26 = .ok (.aload_n 0, 1) := by decide +kernel
theorem dX8_failed_27 : decode cX8_failed 27 = .ok (.getfield 109, 3) := by decide +kernel
theorem dX8_failed_30 : decode cX8_failed 30 = .ok (.ifCond .le 10, 3) := by decide +kernel
theorem dX8_failed_33 : decode cX8_failed 33 = .ok (.aload_n 0, 1) := by decide +kernel
theorem dX8_failed_34 : decode cX8_failed 34 = .ok (.getfield 109, 3) := by decide +kernel
theorem dX8_failed_37 : decode cX8_failed 37 = .ok (.goto 7, 3) := by decide +kernel
theorem dX8_failed_40 : decode cX8_failed 40 = .ok (.aload_n 0, 1) := by decide +kernel
theorem dX8_failed_41 : decode cX8_failed 41 = .ok (.getfield 146, 3) := by decide +kernel
theorem dX8_failed_44 : decode cX8_failed 44 = .ok (.putfield 146, 3) := by decide +kernel
theorem dX8_failed_47 : decode cX8_failed 47 = .ok (.aload_n 0, 1) := by decide +kernel
theorem dX8_failed_48 : decode cX8_failed 48 = .ok (.getfield 109, 3) := by decide +kernel
theorem dX8_failed_51 : decode cX8_failed 51 = .ok (.ifCond .le 7, 3) := by decide +kernel
theorem dX8_failed_54 : decode cX8_failed 54 = .ok (.iconst 1, 1) := by decide +kernel
theorem dX8_failed_55 : decode cX8_failed 55 = .ok (.goto 4, 3) := by decide +kernel
theorem dX8_failed_58 : decode cX8_failed 58 = .ok (.iconst 0, 1) := by decide +kernel
theorem dX8_failed_59 : decode cX8_failed 59 = .ok (.ireturn, 1) := by decide +kernel
theorem dX8_fault_0 : decode cX8_fault 0 = .ok (.aload_n 0, 1) := by decide +kernel
theorem dX8_fault_1 : decode cX8_fault 1 = .ok (.iconst 0, 1) := by decide +kernel
theorem dX8_fault_2 : decode cX8_fault 2 = .ok (.putfield 79, 3) := by decide +kernel
theorem dX8_fault_5 : decode cX8_fault 5 = .ok (.aload_n 0, 1) := by decide +kernel
theorem dX8_fault_6 : decode cX8_fault 6 = .ok (.getfield 146, 3) := by decide +kernel
theorem dX8_fault_9 : decode cX8_fault 9 = .ok (.ireturn, 1) := by decide +kernel
theorem dX8_kindBy_0 : decode cX8_kindBy 0 = .ok (.iload_n 0, 1) := by decide +kernel
theorem dX8_kindBy_1 : decode cX8_kindBy 1 = .ok (.bipush 112, 2) := by decide +kernel
theorem dX8_kindBy_3 : decode cX8_kindBy 3 = .ok (.if_icmp .ne 7, 3) := by decide +kernel
theorem dX8_kindBy_6 : decode cX8_kindBy 6 = .ok (.iconst 1, 1) := by decide +kernel
theorem dX8_kindBy_7 : decode cX8_kindBy 7 = .ok (.goto 45, 3) := by decide +kernel
theorem dX8_kindBy_10 : decode cX8_kindBy 10 = .ok (.iload_n 0, 1) := by decide +kernel
theorem dX8_kindBy_11 : decode cX8_kindBy 11 = .ok (.bipush 113, 2) := by decide +kernel
theorem dX8_kindBy_13 : decode cX8_kindBy 13 = .ok (.if_icmp .ne 7, 3) := by decide +kernel
theorem dX8_kindBy_16 : decode cX8_kindBy 16 = .ok (.iconst 2, 1) := by decide +kernel
theorem dX8_kindBy_17 : decode cX8_kindBy 17 = .ok (.goto 35, 3) := by decide +kernel
theorem dX8_kindBy_20 : decode cX8_kindBy 20 = .ok (.iload_n 0, 1) := by decide +kernel
theorem dX8_kindBy_21 : decode cX8_kindBy 21 = .ok (.bipush 115, 2) := by decide +kernel
theorem dX8_kindBy_23 : decode cX8_kindBy 23 = .ok (.if_icmp .ne 7, 3) := by decide +kernel
theorem dX8_kindBy_26 : decode cX8_kindBy 26 = .ok (.iconst 3, 1) := by decide +kernel
theorem dX8_kindBy_27 : decode cX8_kindBy 27 = .ok (.goto 25, 3) := by decide +kernel
theorem dX8_kindBy_30 : decode cX8_kindBy 30 = .ok (.iload_n 0, 1) := by decide +kernel
theorem dX8_kindBy_31 : decode cX8_kindBy 31 = .ok (.bipush 119, 2) := by decide +kernel
theorem dX8_kindBy_33 : decode cX8_kindBy 33 = .ok (.if_icmp .ne 7, 3) := by decide +kernel
theorem dX8_kindBy_36 : decode cX8_kindBy 36 = .ok (.iconst 4, 1) := by decide +kernel
theorem dX8_kindBy_37 : decode cX8_kindBy 37 = .ok (.goto 15, 3) := by decide +kernel
theorem dX8_kindBy_40 : decode cX8_kindBy 40 = .ok (.iload_n 0, 1) := by decide +kernel
theorem dX8_kindBy_41 : decode cX8_kindBy 41 = .ok (.bipush 107, 2) := by decide +kernel
theorem dX8_kindBy_43 : decode cX8_kindBy 43 = .ok (.if_icmp .ne 7, 3) := by decide +kernel
theorem dX8_kindBy_46 : decode cX8_kindBy 46 = .ok (.iconst 5, 1) := by decide +kernel
theorem dX8_kindBy_47 : decode cX8_kindBy 47 = .ok (.goto 5, 3) := by decide +kernel
theorem dX8_kindBy_50 : decode cX8_kindBy 50 = .ok (.ldc 61, 2) := by decide +kernel
theorem dX8_kindBy_52 : decode cX8_kindBy 52 = .ok (.ireturn, 1) := by decide +kernel
theorem dX8_begins_0 : decode cX8_begins 0 = .ok (.aload_n 0, 1) := by decide +kernel
theorem dX8_begins_1 : decode cX8_begins 1 = .ok (.getfield 22, 3) := by decide +kernel
theorem dX8_begins_4 : decode cX8_begins 4 = .ok (.iload_n 1, 1) := by decide +kernel
theorem dX8_begins_5 : decode cX8_begins 5 = .ok (.iaload, 1) := by decide +kernel
theorem dX8_begins_6 : decode cX8_begins 6 = .ok (.iload_n 2, 1) := by decide +kernel
theorem dX8_begins_7 : decode cX8_begins 7 = .ok (.if_icmp .ne 8, 3) := by decide +kernel
theorem dX8_begins_10 : decode cX8_begins 10 = .ok (.aload_n 0, 1) := by decide +kernel
theorem dX8_begins_11 : decode cX8_begins 11 = .ok (.iconst 3, 1) := by decide +kernel
theorem dX8_begins_12 : decode cX8_begins 12 = .ok (.invokevirtual 135, 3) := by decide +kernel
theorem dX8_begins_15 : decode cX8_begins 15 = .ok (.aload_n 0, 1) := by decide +kernel
theorem dX8_begins_16 : decode cX8_begins 16 = .ok (.iconst 1, 1) := by decide +kernel
theorem dX8_begins_17 : decode cX8_begins 17 = .ok (.invokevirtual 142, 3) := by decide +kernel
theorem dX8_begins_20 : decode cX8_begins 20 = .ok (.return_, 1) := by decide +kernel
theorem dX8_readHens_0 : decode cX8_readHens 0 = .ok (.aload_n 0, 1) := by decide +kernel
theorem dX8_readHens_1 : decode cX8_readHens 1 = .ok (.bipush 6, 2) := by decide +kernel
theorem dX8_readHens_3 : decode cX8_readHens 3 = .ok (.iconst 3, 1) := by decide +kernel
theorem dX8_readHens_4 : decode cX8_readHens 4 = .ok (.invokevirtual 149, 3) := by decide +kernel
theorem dX8_readHens_7 : decode cX8_readHens 7 = .ok (.aload_n 0, 1) := by decide +kernel
theorem dX8_readHens_8 : decode cX8_readHens 8 = .ok (.iconst 0, 1) := by decide +kernel
theorem dX8_readHens_9 : decode cX8_readHens 9 = .ok (.bipush 23, 2) := by decide +kernel
theorem dX8_readHens_11 : decode cX8_readHens 11 = .ok (.invokevirtual 153, 3) := by decide +kernel
theorem dX8_readHens_14 : decode cX8_readHens 14 = .ok (.istore_n 1, 1) := by decide +kernel
theorem dX8_readHens_15 : decode cX8_readHens 15 = .ok (.aload_n 0, 1) := by decide +kernel
theorem dX8_readHens_16 : decode cX8_readHens 16 = .ok (.bipush 44, 2) := by decide +kernel
theorem dX8_readHens_18 : decode cX8_readHens 18 = .ok (.invokevirtual 157, 3) := by decide +kernel
theorem dX8_readHens_21 : decode cX8_readHens 21 = .ok (.aload_n 0, 1) := by decide +kernel
theorem dX8_readHens_22 : decode cX8_readHens 22 = .ok (.iconst 1, 1) := by decide +kernel
theorem dX8_readHens_23 : decode cX8_readHens 23 = .ok (.bipush 9, 2) := by decide +kernel
theorem dX8_readHens_25 : decode cX8_readHens 25 = .ok (.invokevirtual 153, 3) := by decide +kernel
theorem dX8_readHens_28 : decode cX8_readHens 28 = .ok (.istore_n 2, 1) := by decide +kernel
theorem dX8_readHens_29 : decode cX8_readHens 29 = .ok (.aload_n 0, 1) := by decide +kernel
theorem dX8_readHens_30 : decode cX8_readHens 30 = .ok (.bipush 59, 2) := by decide +kernel
theorem dX8_readHens_32 : decode cX8_readHens 32 = .ok (.invokevirtual 157, 3) := by decide +kernel
theorem dX8_readHens_35 : decode cX8_readHens 35 = .ok (.aload_n 0, 1) := by decide +kernel
theorem dX8_readHens_36 : decode cX8_readHens 36 = .ok (.getfield 109, 3) := by decide +kernel
theorem dX8_readHens_39 : decode cX8_readHens 39 = .ok (.ifCond .ne 52, 3) := by decide +kernel
theorem dX8_readHens_42 : decode cX8_readHens 42 = .ok (.aload_n 0, 1) := by decide +kernel
theorem dX8_readHens_43 : decode cX8_readHens 43 = .ok (.getfield 22, 3) := by decide +kernel
theorem dX8_readHens_46 : decode cX8_readHens 46 = .ok (.bipush 11, 2) := by decide +kernel
theorem dX8_readHens_48 : decode cX8_readHens 48 = .ok (.iconst 2, 1) := by decide +kernel
theorem dX8_readHens_49 : decode cX8_readHens 49 = .ok (.aload_n 0, 1) := by decide +kernel
theorem dX8_readHens_50 : decode cX8_readHens 50 = .ok (.getfield 22, 3) := by decide +kernel
theorem dX8_readHens_53 : decode cX8_readHens 53 = .ok (.bipush 6, 2) := by decide +kernel
theorem dX8_readHens_55 : decode cX8_readHens 55 = .ok (.iaload, 1) := by decide +kernel
theorem dX8_readHens_56 : decode cX8_readHens 56 = .ok (.imul, 1) := by decide +kernel
theorem dX8_readHens_57 : decode cX8_readHens 57 = .ok (.iadd, 1) := by decide +kernel
theorem dX8_readHens_58 : decode cX8_readHens 58 = .ok (.iload_n 1, 1) := by decide +kernel
theorem dX8_readHens_59 : decode cX8_readHens 59 = .ok (.iastore, 1) := by decide +kernel
theorem dX8_readHens_60 : decode cX8_readHens 60 = .ok (.aload_n 0, 1) := by decide +kernel
theorem dX8_readHens_61 : decode cX8_readHens 61 = .ok (.getfield 22, 3) := by decide +kernel
theorem dX8_readHens_64 : decode cX8_readHens 64 = .ok (.bipush 11, 2) := by decide +kernel
theorem dX8_readHens_66 : decode cX8_readHens 66 = .ok (.iconst 2, 1) := by decide +kernel
theorem dX8_readHens_67 : decode cX8_readHens 67 = .ok (.aload_n 0, 1) := by decide +kernel
theorem dX8_readHens_68 : decode cX8_readHens 68 = .ok (.getfield 22, 3) := by decide +kernel
theorem dX8_readHens_71 : decode cX8_readHens 71 = .ok (.bipush 6, 2) := by decide +kernel
theorem dX8_readHens_73 : decode cX8_readHens 73 = .ok (.iaload, 1) := by decide +kernel
theorem dX8_readHens_74 : decode cX8_readHens 74 = .ok (.imul, 1) := by decide +kernel
theorem dX8_readHens_75 : decode cX8_readHens 75 = .ok (.iadd, 1) := by decide +kernel
theorem dX8_readHens_76 : decode cX8_readHens 76 = .ok (.iconst 1, 1) := by decide +kernel
theorem dX8_readHens_77 : decode cX8_readHens 77 = .ok (.iadd, 1) := by decide +kernel
theorem dX8_readHens_78 : decode cX8_readHens 78 = .ok (.iload_n 2, 1) := by decide +kernel
theorem dX8_readHens_79 : decode cX8_readHens 79 = .ok (.iastore, 1) := by decide +kernel
theorem dX8_readHens_80 : decode cX8_readHens 80 = .ok (.aload_n 0, 1) := by decide +kernel
theorem dX8_readHens_81 : decode cX8_readHens 81 = .ok (.getfield 22, 3) := by decide +kernel
theorem dX8_readHens_84 : decode cX8_readHens 84 = .ok (.bipush 6, 2) := by decide +kernel
theorem dX8_readHens_86 : decode cX8_readHens 86 = .ok (.dup2, 1) := by decide +kernel
theorem dX8_readHens_87 : decode cX8_readHens 87 = .ok (.iaload, 1) := by decide +kernel
theorem dX8_readHens_88 : decode cX8_readHens 88 = .ok (.iconst 1, 1) := by decide +kernel
theorem dX8_readHens_89 : decode cX8_readHens 89 = .ok (.iadd, 1) := by decide +kernel
theorem dX8_readHens_90 : decode cX8_readHens 90 = .ok (.iastore, 1) := by decide +kernel
theorem dX8_readHens_91 : decode cX8_readHens 91 = .ok (.return_, 1) := by decide +kernel
theorem dX8_readTree_0 : decode cX8_readTree 0 = .ok (.aload_n 0, 1) := by decide +kernel
theorem dX8_readTree_1 : decode cX8_readTree 1 = .ok (.bipush 7, 2) := by decide +kernel
theorem dX8_readTree_3 : decode cX8_readTree 3 = .ok (.bipush 6, 2) := by decide +kernel
theorem dX8_readTree_5 : decode cX8_readTree 5 = .ok (.invokevirtual 149, 3) := by decide +kernel
theorem dX8_readTree_8 : decode cX8_readTree 8 = .ok (.aload_n 0, 1) := by decide +kernel
theorem dX8_readTree_9 : decode cX8_readTree 9 = .ok (.getfield 109, 3) := by decide +kernel
theorem dX8_readTree_12 : decode cX8_readTree 12 = .ok (.ifCond .ne 28, 3) := by decide +kernel
theorem dX8_readTree_15 : decode cX8_readTree 15 = .ok (.aload_n 0, 1) := by decide +kernel
theorem dX8_readTree_16 : decode cX8_readTree 16 = .ok (.getfield 132, 3) := by decide +kernel
theorem dX8_readTree_19 : decode cX8_readTree 19 = .ok (.iconst 3, 1) := by decide +kernel
theorem dX8_readTree_20 : decode cX8_readTree 20 = .ok (.if_icmp .ne 20, 3) := by decide +kernel
theorem dX8_readTree_23 : decode cX8_readTree 23 = .ok (.aload_n 0, 1) := by decide +kernel
theorem dX8_readTree_24 : decode cX8_readTree 24 = .ok (.getfield 121, 3) := by decide +kernel
theorem dX8_readTree_27 : decode cX8_readTree 27 = .ok (.aload_n 0, 1) := by decide +kernel
theorem dX8_readTree_28 : decode cX8_readTree 28 = .ok (.getfield 22, 3) := by decide +kernel
theorem dX8_readTree_31 : decode cX8_readTree 31 = .ok (.iconst 2, 1) := by decide +kernel
theorem dX8_readTree_32 : decode cX8_readTree 32 = .ok (.iaload, 1) := by decide +kernel
theorem dX8_readTree_33 : decode cX8_readTree 33 = .ok (.if_icmp .ne 7, 3) := by decide +kernel
theorem dX8_readTree_36 : decode cX8_readTree 36 = .ok (.iconst 1, 1) := by decide +kernel
theorem dX8_readTree_37 : decode cX8_readTree 37 = .ok (.goto 4, 3) := by decide +kernel
theorem dX8_readTree_40 : decode cX8_readTree 40 = .ok (.iconst 0, 1) := by decide +kernel
theorem dX8_readTree_41 : decode cX8_readTree 41 = .ok (.istore_n 1, 1) := by decide +kernel
theorem dX8_readTree_42 : decode cX8_readTree 42 = .ok (.iconst 0, 1) := by decide +kernel
theorem dX8_readTree_43 : decode cX8_readTree 43 = .ok (.istore_n 2, 1) := by decide +kernel
theorem dX8_readTree_44 : decode cX8_readTree 44 = .ok (.iload_n 2, 1) := by decide +kernel
theorem dX8_readTree_45 : decode cX8_readTree 45 = .ok (.aload_n 0, 1) := by decide +kernel
theorem dX8_readTree_46 : decode cX8_readTree 46 = .ok (.getfield 22, 3) := by decide +kernel
theorem dX8_readTree_49 : decode cX8_readTree 49 = .ok (.bipush 7, 2) := by decide +kernel
theorem dX8_readTree_51 : decode cX8_readTree 51 = .ok (.iaload, 1) := by decide +kernel
theorem dX8_readTree_52 : decode cX8_readTree 52 = .ok (.if_icmp .ge 52, 3) := by decide +kernel
theorem dX8_readTree_55 : decode cX8_readTree 55 = .ok (.aload_n 0, 1) := by decide +kernel
theorem dX8_readTree_56 : decode cX8_readTree 56 = .ok (.getfield 109, 3) := by decide +kernel
theorem dX8_readTree_59 : decode cX8_readTree 59 = .ok (.ifCond .ne 45, 3) := by decide +kernel
theorem dX8_readTree_62 : decode cX8_readTree 62 = .ok (.iload_n 1, 1) := by decide +kernel
theorem dX8_readTree_63 : decode cX8_readTree 63 = .ok (.ifCond .ne 29, 3) := by decide +kernel
theorem dX8_readTree_66 : decode cX8_readTree 66 = .ok (.aload_n 0, 1) := by decide +kernel
theorem dX8_readTree_67 : decode cX8_readTree 67 = .ok (.getfield 132, 3) := by decide +kernel
theorem dX8_readTree_70 : decode cX8_readTree 70 = .ok (.iconst 3, 1) := by decide +kernel
theorem dX8_readTree_71 : decode cX8_readTree 71 = .ok (.if_icmp .ne 25, 3) := by decide +kernel
theorem dX8_readTree_74 : decode cX8_readTree 74 = .ok (.aload_n 0, 1) := by decide +kernel
theorem dX8_readTree_75 : decode cX8_readTree 75 = .ok (.getfield 121, 3) := by decide +kernel
theorem dX8_readTree_78 : decode cX8_readTree 78 = .ok (.aload_n 0, 1) := by decide +kernel
theorem dX8_readTree_79 : decode cX8_readTree 79 = .ok (.getfield 22, 3) := by decide +kernel
theorem dX8_readTree_82 : decode cX8_readTree 82 = .ok (.bipush 17, 2) := by decide +kernel
theorem dX8_readTree_84 : decode cX8_readTree 84 = .ok (.iconst 3, 1) := by decide +kernel
theorem dX8_readTree_85 : decode cX8_readTree 85 = .ok (.iload_n 2, 1) := by decide +kernel
theorem dX8_readTree_86 : decode cX8_readTree 86 = .ok (.imul, 1) := by decide +kernel
theorem dX8_readTree_87 : decode cX8_readTree 87 = .ok (.iadd, 1) := by decide +kernel
theorem dX8_readTree_88 : decode cX8_readTree 88 = .ok (.iaload, 1) := by decide +kernel
theorem dX8_readTree_89 : decode cX8_readTree 89 = .ok (.if_icmp .ne 7, 3) := by decide +kernel
theorem dX8_readTree_92 : decode cX8_readTree 92 = .ok (.iconst 1, 1) := by decide +kernel
theorem dX8_readTree_93 : decode cX8_readTree 93 = .ok (.goto 4, 3) := by decide +kernel
theorem dX8_readTree_96 : decode cX8_readTree 96 = .ok (.iconst 0, 1) := by decide +kernel
theorem dX8_readTree_97 : decode cX8_readTree 97 = .ok (.istore_n 1, 1) := by decide +kernel
theorem dX8_readTree_98 : decode cX8_readTree 98 = .ok (.iinc 2 1, 3) := by decide +kernel
theorem dX8_readTree_101 : decode cX8_readTree 101 = .ok (.goto (-57), 3) := by decide +kernel
theorem dX8_readTree_104 : decode cX8_readTree 104 = .ok (.iload_n 1, 1) := by decide +kernel
theorem dX8_readTree_105 : decode cX8_readTree 105 = .ok (.ifCond .eq 8, 3) := by decide +kernel
theorem dX8_readTree_108 : decode cX8_readTree 108 = .ok (.aload_n 0, 1) := by decide +kernel
theorem dX8_readTree_109 : decode cX8_readTree 109 = .ok (.iconst 2, 1) := by decide +kernel
theorem dX8_readTree_110 : decode cX8_readTree 110 = .ok (.invokevirtual 135, 3) := by decide +kernel
theorem dX8_readTree_113 : decode cX8_readTree 113 = .ok (.aload_n 0, 1) := by decide +kernel
theorem dX8_readTree_114 : decode cX8_readTree 114 = .ok (.iconst 0, 1) := by decide +kernel
theorem dX8_readTree_115 : decode cX8_readTree 115 = .ok (.bipush 23, 2) := by decide +kernel
theorem dX8_readTree_117 : decode cX8_readTree 117 = .ok (.invokevirtual 153, 3) := by decide +kernel
theorem dX8_readTree_120 : decode cX8_readTree 120 = .ok (.istore_n 2, 1) := by decide +kernel
theorem dX8_readTree_121 : decode cX8_readTree 121 = .ok (.aload_n 0, 1) := by decide +kernel
theorem dX8_readTree_122 : decode cX8_readTree 122 = .ok (.bipush 44, 2) := by decide +kernel
theorem dX8_readTree_124 : decode cX8_readTree 124 = .ok (.invokevirtual 157, 3) := by decide +kernel
theorem dX8_readTree_127 : decode cX8_readTree 127 = .ok (.aload_n 0, 1) := by decide +kernel
theorem dX8_readTree_128 : decode cX8_readTree 128 = .ok (.iconst 0, 1) := by decide +kernel
theorem dX8_readTree_129 : decode cX8_readTree 129 = .ok (.bipush 30, 2) := by decide +kernel
theorem dX8_readTree_131 : decode cX8_readTree 131 = .ok (.invokevirtual 153, 3) := by decide +kernel
theorem dX8_readTree_134 : decode cX8_readTree 134 = .ok (.istore_n 3, 1) := by decide +kernel
theorem dX8_readTree_135 : decode cX8_readTree 135 = .ok (.aload_n 0, 1) := by decide +kernel
theorem dX8_readTree_136 : decode cX8_readTree 136 = .ok (.bipush 44, 2) := by decide +kernel
theorem dX8_readTree_138 : decode cX8_readTree 138 = .ok (.invokevirtual 157, 3) := by decide +kernel
theorem dX8_readTree_141 : decode cX8_readTree 141 = .ok (.aload_n 0, 1) := by decide +kernel
theorem dX8_readTree_142 : decode cX8_readTree 142 = .ok (.iconst 0, 1) := by decide +kernel
theorem dX8_readTree_143 : decode cX8_readTree 143 = .ok (.bipush 9, 2) := by decide +kernel
theorem dX8_readTree_145 : decode cX8_readTree 145 = .ok (.invokevirtual 153, 3) := by decide +kernel
theorem dX8_readTree_148 : decode cX8_readTree 148 = .ok (.istore 4, 2) := by decide +kernel
theorem dX8_readTree_150 : decode cX8_readTree 150 = .ok (.aload_n 0, 1) := by decide +kernel
theorem dX8_readTree_151 : decode cX8_readTree 151 = .ok (.bipush 59, 2) := by decide +kernel
theorem dX8_readTree_153 : decode cX8_readTree 153 = .ok (.invokevirtual 157, 3) := by decide +kernel
theorem dX8_readTree_156 : decode cX8_readTree 156 = .ok (.aload_n 0, 1) := by decide +kernel
theorem dX8_readTree_157 : decode cX8_readTree 157 = .ok (.getfield 109, 3) := by decide +kernel
theorem dX8_readTree_160 : decode cX8_readTree 160 = .ok (.ifCond .ne 57, 3) := by decide +kernel
theorem dX8_readTree_163 : decode cX8_readTree 163 = .ok (.bipush 17, 2) := by decide +kernel
theorem dX8_readTree_165 : decode cX8_readTree 165 = .ok (.iconst 3, 1) := by decide +kernel
theorem dX8_readTree_166 : decode cX8_readTree 166 = .ok (.aload_n 0, 1) := by decide +kernel
theorem dX8_readTree_167 : decode cX8_readTree 167 = .ok (.getfield 22, 3) := by decide +kernel
theorem dX8_readTree_170 : decode cX8_readTree 170 = .ok (.bipush 7, 2) := by decide +kernel
theorem dX8_readTree_172 : decode cX8_readTree 172 = .ok (.iaload, 1) := by decide +kernel
theorem dX8_readTree_173 : decode cX8_readTree 173 = .ok (.imul, 1) := by decide +kernel
theorem dX8_readTree_174 : decode cX8_readTree 174 = .ok (.iadd, 1) := by decide +kernel
theorem dX8_readTree_175 : decode cX8_readTree 175 = .ok (.istore 5, 2) := by decide +kernel
theorem dX8_readTree_177 : decode cX8_readTree 177 = .ok (.aload_n 0, 1) := by decide +kernel
theorem dX8_readTree_178 : decode cX8_readTree 178 = .ok (.getfield 22, 3) := by decide +kernel
theorem dX8_readTree_181 : decode cX8_readTree 181 = .ok (.iload 5, 2) := by decide +kernel
theorem dX8_readTree_183 : decode cX8_readTree 183 = .ok (.iload_n 2, 1) := by decide +kernel
theorem dX8_readTree_184 : decode cX8_readTree 184 = .ok (.iastore, 1) := by decide +kernel
theorem dX8_readTree_185 : decode cX8_readTree 185 = .ok (.aload_n 0, 1) := by decide +kernel
theorem dX8_readTree_186 : decode cX8_readTree 186 = .ok (.getfield 22, 3) := by decide +kernel
theorem dX8_readTree_189 : decode cX8_readTree 189 = .ok (.iload 5, 2) := by decide +kernel
theorem dX8_readTree_191 : decode cX8_readTree 191 = .ok (.iconst 1, 1) := by decide +kernel
theorem dX8_readTree_192 : decode cX8_readTree 192 = .ok (.iadd, 1) := by decide +kernel
theorem dX8_readTree_193 : decode cX8_readTree 193 = .ok (.iload_n 3, 1) := by decide +kernel
theorem dX8_readTree_194 : decode cX8_readTree 194 = .ok (.iastore, 1) := by decide +kernel
theorem dX8_readTree_195 : decode cX8_readTree 195 = .ok (.aload_n 0, 1) := by decide +kernel
theorem dX8_readTree_196 : decode cX8_readTree 196 = .ok (.getfield 22, 3) := by decide +kernel
theorem dX8_readTree_199 : decode cX8_readTree 199 = .ok (.iload 5, 2) := by decide +kernel
theorem dX8_readTree_201 : decode cX8_readTree 201 = .ok (.iconst 2, 1) := by decide +kernel
theorem dX8_readTree_202 : decode cX8_readTree 202 = .ok (.iadd, 1) := by decide +kernel
theorem dX8_readTree_203 : decode cX8_readTree 203 = .ok (.iload 4, 2) := by decide +kernel
theorem dX8_readTree_205 : decode cX8_readTree 205 = .ok (.iastore, 1) := by decide +kernel
theorem dX8_readTree_206 : decode cX8_readTree 206 = .ok (.aload_n 0, 1) := by decide +kernel
theorem dX8_readTree_207 : decode cX8_readTree 207 = .ok (.getfield 22, 3) := by decide +kernel
theorem dX8_readTree_210 : decode cX8_readTree 210 = .ok (.bipush 7, 2) := by decide +kernel
theorem dX8_readTree_212 : decode cX8_readTree 212 = .ok (.dup2, 1) := by decide +kernel
theorem dX8_readTree_213 : decode cX8_readTree 213 = .ok (.iaload, 1) := by decide +kernel
theorem dX8_readTree_214 : decode cX8_readTree 214 = .ok (.iconst 1, 1) := by decide +kernel
theorem dX8_readTree_215 : decode cX8_readTree 215 = .ok (.iadd, 1) := by decide +kernel
theorem dX8_readTree_216 : decode cX8_readTree 216 = .ok (.iastore, 1) := by decide +kernel
theorem dX8_readTree_217 : decode cX8_readTree 217 = .ok (.return_, 1) := by decide +kernel
theorem dX8_readRaider_0 : decode cX8_readRaider 0 = .ok (.aload_n 0, 1) := by decide +kernel
theorem dX8_readRaider_1 : decode cX8_readRaider 1 = .ok (.getfield 121, 3) := by decide +kernel
theorem dX8_readRaider_4 : decode cX8_readRaider 4 = .ok (.invokestatic 160, 3) := by decide +kernel
theorem dX8_readRaider_7 : decode cX8_readRaider 7 = .ok (.istore_n 1, 1) := by decide +kernel
theorem dX8_readRaider_8 : decode cX8_readRaider 8 = .ok (.aload_n 0, 1) := by decide +kernel
theorem dX8_readRaider_9 : decode cX8_readRaider 9 = .ok (.bipush 8, 2) := by decide +kernel
theorem dX8_readRaider_11 : decode cX8_readRaider 11 = .ok (.iconst 4, 1) := by decide +kernel
theorem dX8_readRaider_12 : decode cX8_readRaider 12 = .ok (.invokevirtual 149, 3) := by decide +kernel
theorem dX8_readRaider_15 : decode cX8_readRaider 15 = .ok (.aload_n 0, 1) := by decide +kernel
theorem dX8_readRaider_16 : decode cX8_readRaider 16 = .ok (.iconst 1, 1) := by decide +kernel
theorem dX8_readRaider_17 : decode cX8_readRaider 17 = .ok (.bipush 20, 2) := by decide +kernel
theorem dX8_readRaider_19 : decode cX8_readRaider 19 = .ok (.invokevirtual 153, 3) := by decide +kernel
theorem dX8_readRaider_22 : decode cX8_readRaider 22 = .ok (.istore_n 2, 1) := by decide +kernel
theorem dX8_readRaider_23 : decode cX8_readRaider 23 = .ok (.aload_n 0, 1) := by decide +kernel
theorem dX8_readRaider_24 : decode cX8_readRaider 24 = .ok (.bipush 59, 2) := by decide +kernel
theorem dX8_readRaider_26 : decode cX8_readRaider 26 = .ok (.invokevirtual 157, 3) := by decide +kernel
theorem dX8_readRaider_29 : decode cX8_readRaider 29 = .ok (.aload_n 0, 1) := by decide +kernel
theorem dX8_readRaider_30 : decode cX8_readRaider 30 = .ok (.getfield 109, 3) := by decide +kernel
theorem dX8_readRaider_33 : decode cX8_readRaider 33 = .ok (.ifCond .ne 53, 3) := by decide +kernel
theorem dX8_readRaider_36 : decode cX8_readRaider 36 = .ok (.bipush 35, 2) := by decide +kernel
theorem dX8_readRaider_38 : decode cX8_readRaider 38 = .ok (.bipush 6, 2) := by decide +kernel
theorem dX8_readRaider_40 : decode cX8_readRaider 40 = .ok (.aload_n 0, 1) := by decide +kernel
theorem dX8_readRaider_41 : decode cX8_readRaider 41 = .ok (.getfield 22, 3) := by decide +kernel
theorem dX8_readRaider_44 : decode cX8_readRaider 44 = .ok (.bipush 8, 2) := by decide +kernel
theorem dX8_readRaider_46 : decode cX8_readRaider 46 = .ok (.iaload, 1) := by decide +kernel
theorem dX8_readRaider_47 : decode cX8_readRaider 47 = .ok (.imul, 1) := by decide +kernel
theorem dX8_readRaider_48 : decode cX8_readRaider 48 = .ok (.iadd, 1) := by decide +kernel
theorem dX8_readRaider_49 : decode cX8_readRaider 49 = .ok (.istore_n 3, 1) := by decide +kernel
theorem dX8_readRaider_50 : decode cX8_readRaider 50 = .ok (.aload_n 0, 1) := by decide +kernel
theorem dX8_readRaider_51 : decode cX8_readRaider 51 = .ok (.getfield 22, 3) := by decide +kernel
theorem dX8_readRaider_54 : decode cX8_readRaider 54 = .ok (.iload_n 3, 1) := by decide +kernel
theorem dX8_readRaider_55 : decode cX8_readRaider 55 = .ok (.iload_n 1, 1) := by decide +kernel
theorem dX8_readRaider_56 : decode cX8_readRaider 56 = .ok (.iastore, 1) := by decide +kernel
theorem dX8_readRaider_57 : decode cX8_readRaider 57 = .ok (.aload_n 0, 1) := by decide +kernel
theorem dX8_readRaider_58 : decode cX8_readRaider 58 = .ok (.getfield 22, 3) := by decide +kernel
theorem dX8_readRaider_61 : decode cX8_readRaider 61 = .ok (.iload_n 3, 1) := by decide +kernel
theorem dX8_readRaider_62 : decode cX8_readRaider 62 = .ok (.iconst 1, 1) := by decide +kernel
theorem dX8_readRaider_63 : decode cX8_readRaider 63 = .ok (.iadd, 1) := by decide +kernel
theorem dX8_readRaider_64 : decode cX8_readRaider 64 = .ok (.iload_n 2, 1) := by decide +kernel
theorem dX8_readRaider_65 : decode cX8_readRaider 65 = .ok (.iastore, 1) := by decide +kernel
theorem dX8_readRaider_66 : decode cX8_readRaider 66 = .ok (.aload_n 0, 1) := by decide +kernel
theorem dX8_readRaider_67 : decode cX8_readRaider 67 = .ok (.getfield 22, 3) := by decide +kernel
theorem dX8_readRaider_70 : decode cX8_readRaider 70 = .ok (.iload_n 3, 1) := by decide +kernel
theorem dX8_readRaider_71 : decode cX8_readRaider 71 = .ok (.iconst 2, 1) := by decide +kernel
theorem dX8_readRaider_72 : decode cX8_readRaider 72 = .ok (.iadd, 1) := by decide +kernel
theorem dX8_readRaider_73 : decode cX8_readRaider 73 = .ok (.iconst (-1), 1) := by decide +kernel
theorem dX8_readRaider_74 : decode cX8_readRaider 74 = .ok (.iastore, 1) := by decide +kernel
theorem dX8_readRaider_75 : decode cX8_readRaider 75 = .ok (.aload_n 0, 1) := by decide +kernel
theorem dX8_readRaider_76 : decode cX8_readRaider 76 = .ok (.getfield 22, 3) := by decide +kernel
theorem dX8_readRaider_79 : decode cX8_readRaider 79 = .ok (.bipush 8, 2) := by decide +kernel
theorem dX8_readRaider_81 : decode cX8_readRaider 81 = .ok (.dup2, 1) := by decide +kernel
theorem dX8_readRaider_82 : decode cX8_readRaider 82 = .ok (.iaload, 1) := by decide +kernel
theorem dX8_readRaider_83 : decode cX8_readRaider 83 = .ok (.iconst 1, 1) := by decide +kernel
theorem dX8_readRaider_84 : decode cX8_readRaider 84 = .ok (.iadd, 1) := by decide +kernel
theorem dX8_readRaider_85 : decode cX8_readRaider 85 = .ok (.iastore, 1) := by decide +kernel
theorem dX8_readRaider_86 : decode cX8_readRaider 86 = .ok (.return_, 1) := by decide +kernel
