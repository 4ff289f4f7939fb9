theorem dX8_orchard_0 : decode cX8_orchard 0 = .ok (.aload_n 0, 1) := by decide +kernel
theorem dX8_orchard_1 : decode cX8_orchard 1 = .ok (.iconst 0, 1) := by decide +kernel
theorem dX8_orchard_2 : decode cX8_orchard 2 = .ok (.putfield 79, 3) := by decide +kernel
theorem dX8_orchard_5 : decode cX8_orchard 5 = .ok (.aload_n 0, 1) := by decide +kernel
theorem dX8_orchard_6 : decode cX8_orchard 6 = .ok (.invokevirtual 163, 3) := by decide +kernel
theorem dX8_orchard_9 : decode cX8_orchard 9 = .ok (.iconst 0, 1) := by decide +kernel
theorem dX8_orchard_10 : decode cX8_orchard 10 = .ok (.istore_n 1, 1) := by decide +kernel
theorem dX8_orchard_11 : decode cX8_orchard 11 = .ok (.iload_n 1, 1) := by decide +kernel
theorem dX8_orchard_12 : decode cX8_orchard 12 = .ok (.bipush 59, 2) := by decide +kernel
theorem dX8_orchard_14 : decode cX8_orchard 14 = .ok (.if_icmp .ge 16, 3) := by decide +kernel
theorem dX8_orchard_17 : decode cX8_orchard 17 = .ok (.aload_n 0, 1) := by decide +kernel
theorem dX8_orchard_18 : decode cX8_orchard 18 = .ok (.getfield 22, 3) := by decide +kernel
theorem dX8_orchard_21 : decode cX8_orchard 21 = .ok (.iload_n 1, 1) := by decide +kernel
theorem dX8_orchard_22 : decode cX8_orchard 22 = .ok (.iconst 0, 1) := by decide +kernel
theorem dX8_orchard_23 : decode cX8_orchard 23 = .ok (.iastore, 1) := by decide +kernel
theorem dX8_orchard_24 : decode cX8_orchard 24 = .ok (.iinc 1 1, 3) := by decide +kernel
theorem dX8_orchard_27 : decode cX8_orchard 27 = .ok (.goto (-16), 3) := by decide +kernel
theorem dX8_orchard_30 : decode cX8_orchard 30 = .ok (.aload_n 0, 1) := by decide +kernel
theorem dX8_orchard_31 : decode cX8_orchard 31 = .ok (.getfield 22, 3) := by decide +kernel
theorem dX8_orchard_34 : decode cX8_orchard 34 = .ok (.iconst 0, 1) := by decide +kernel
theorem dX8_orchard_35 : decode cX8_orchard 35 = .ok (.iconst 1, 1) := by decide +kernel
theorem dX8_orchard_36 : decode cX8_orchard 36 = .ok (.iastore, 1) := by decide +kernel
theorem dX8_orchard_37 : decode cX8_orchard 37 = .ok (.aload_n 0, 1) := by decide +kernel
theorem dX8_orchard_38 : decode cX8_orchard 38 = .ok (.aload_n 0, 1) := by decide +kernel
theorem dX8_orchard_39 : decode cX8_orchard 39 = .ok (.bipush 111, 2) := by decide +kernel
theorem dX8_orchard_41 : decode cX8_orchard 41 = .ok (.invokevirtual 166, 3) := by decide +kernel
theorem dX8_orchard_44 : decode cX8_orchard 44 = .ok (.invokevirtual 142, 3) := by decide +kernel
theorem dX8_orchard_47 : decode cX8_orchard 47 = .ok (.aload_n 0, 1) := by decide +kernel
theorem dX8_orchard_48 : decode cX8_orchard 48 = .ok (.getfield 22, 3) := by decide +kernel
theorem dX8_orchard_51 : decode cX8_orchard 51 = .ok (.iconst 1, 1) := by decide +kernel
theorem dX8_orchard_52 : decode cX8_orchard 52 = .ok (.aload_n 0, 1) := by decide +kernel
theorem dX8_orchard_53 : decode cX8_orchard 53 = .ok (.iconst 0, 1) := by decide +kernel
theorem dX8_orchard_54 : decode cX8_orchard 54 = .ok (.bipush 23, 2) := by decide +kernel
theorem dX8_orchard_56 : decode cX8_orchard 56 = .ok (.invokevirtual 153, 3) := by decide +kernel
theorem dX8_orchard_59 : decode cX8_orchard 59 = .ok (.iastore, 1) := by decide +kernel
theorem dX8_orchard_60 : decode cX8_orchard 60 = .ok (.aload_n 0, 1) := by decide +kernel
theorem dX8_orchard_61 : decode cX8_orchard 61 = .ok (.bipush 44, 2) := by decide +kernel
theorem dX8_orchard_63 : decode cX8_orchard 63 = .ok (.invokevirtual 157, 3) := by decide +kernel
theorem dX8_orchard_66 : decode cX8_orchard 66 = .ok (.aload_n 0, 1) := by decide +kernel
theorem dX8_orchard_67 : decode cX8_orchard 67 = .ok (.getfield 109, 3) := by decide +kernel
theorem dX8_orchard_70 : decode cX8_orchard 70 = .ok (.ifCond .ne 29, 3) := by decide +kernel
theorem dX8_orchard_73 : decode cX8_orchard 73 = .ok (.aload_n 0, 1) := by decide +kernel
theorem dX8_orchard_74 : decode cX8_orchard 74 = .ok (.getfield 132, 3) := by decide +kernel
theorem dX8_orchard_77 : decode cX8_orchard 77 = .ok (.iconst 3, 1) := by decide +kernel
theorem dX8_orchard_78 : decode cX8_orchard 78 = .ok (.if_icmp .ne 21, 3) := by decide +kernel
theorem dX8_orchard_81 : decode cX8_orchard 81 = .ok (.aload_n 0, 1) := by decide +kernel
theorem dX8_orchard_82 : decode cX8_orchard 82 = .ok (.getfield 121, 3) := by decide +kernel
theorem dX8_orchard_85 : decode cX8_orchard 85 = .ok (.aload_n 0, 1) := by decide +kernel
theorem dX8_orchard_86 : decode cX8_orchard 86 = .ok (.getfield 22, 3) := by decide +kernel
theorem dX8_orchard_89 : decode cX8_orchard 89 = .ok (.iconst 1, 1) := by decide +kernel
theorem dX8_orchard_90 : decode cX8_orchard 90 = .ok (.iaload, 1) := by decide +kernel
theorem dX8_orchard_91 : decode cX8_orchard 91 = .ok (.if_icmp .ne 8, 3) := by decide +kernel
theorem dX8_orchard_94 : decode cX8_orchard 94 = .ok (.aload_n 0, 1) := by decide +kernel
theorem dX8_orchard_95 : decode cX8_orchard 95 = .ok (.iconst 2, 1) := by decide +kernel
theorem dX8_orchard_96 : decode cX8_orchard 96 = .ok (.invokevirtual 135, 3) := by decide +kernel
theorem dX8_orchard_99 : decode cX8_orchard 99 = .ok (.aload_n 0, 1) := by decide +kernel
theorem dX8_orchard_100 : decode cX8_orchard 100 = .ok (.getfield 22, 3) := by decide +kernel
theorem dX8_orchard_103 : decode cX8_orchard 103 = .ok (.iconst 2, 1) := by decide +kernel
theorem dX8_orchard_104 : decode cX8_orchard 104 = .ok (.aload_n 0, 1) := by decide +kernel
theorem dX8_orchard_105 : decode cX8_orchard 105 = .ok (.iconst 0, 1) := by decide +kernel
theorem dX8_orchard_106 : decode cX8_orchard 106 = .ok (.bipush 23, 2) := by decide +kernel
theorem dX8_orchard_108 : decode cX8_orchard 108 = .ok (.invokevirtual 153, 3) := by decide +kernel
theorem dX8_orchard_111 : decode cX8_orchard 111 = .ok (.iastore, 1) := by decide +kernel
theorem dX8_orchard_112 : decode cX8_orchard 112 = .ok (.aload_n 0, 1) := by decide +kernel
theorem dX8_orchard_113 : decode cX8_orchard 113 = .ok (.bipush 44, 2) := by decide +kernel
theorem dX8_orchard_115 : decode cX8_orchard 115 = .ok (.invokevirtual 157, 3) := by decide +kernel
theorem dX8_orchard_118 : decode cX8_orchard 118 = .ok (.aload_n 0, 1) := by decide +kernel
theorem dX8_orchard_119 : decode cX8_orchard 119 = .ok (.getfield 22, 3) := by decide +kernel
theorem dX8_orchard_122 : decode cX8_orchard 122 = .ok (.iconst 3, 1) := by decide +kernel
theorem dX8_orchard_123 : decode cX8_orchard 123 = .ok (.aload_n 0, 1) := by decide +kernel
theorem dX8_orchard_124 : decode cX8_orchard 124 = .ok (.iconst 1, 1) := by decide +kernel
theorem dX8_orchard_125 : decode cX8_orchard 125 = .ok (.bipush 60, 2) := by decide +kernel
theorem dX8_orchard_127 : decode cX8_orchard 127 = .ok (.invokevirtual 153, 3) := by decide +kernel
theorem dX8_orchard_130 : decode cX8_orchard 130 = .ok (.iastore, 1) := by decide +kernel
theorem dX8_orchard_131 : decode cX8_orchard 131 = .ok (.aload_n 0, 1) := by decide +kernel
theorem dX8_orchard_132 : decode cX8_orchard 132 = .ok (.bipush 44, 2) := by decide +kernel
theorem dX8_orchard_134 : decode cX8_orchard 134 = .ok (.invokevirtual 157, 3) := by decide +kernel
theorem dX8_orchard_137 : decode cX8_orchard 137 = .ok (.aload_n 0, 1) := by decide +kernel
theorem dX8_orchard_138 : decode cX8_orchard 138 = .ok (.getfield 22, 3) := by decide +kernel
theorem dX8_orchard_141 : decode cX8_orchard 141 = .ok (.iconst 4, 1) := by decide +kernel
theorem dX8_orchard_142 : decode cX8_orchard 142 = .ok (.aload_n 0, 1) := by decide +kernel
theorem dX8_orchard_143 : decode cX8_orchard 143 = .ok (.iconst 0, 1) := by decide +kernel
theorem dX8_orchard_144 : decode cX8_orchard 144 = .ok (.bipush 9, 2) := by decide +kernel
theorem dX8_orchard_146 : decode cX8_orchard 146 = .ok (.invokevirtual 153, 3) := by decide +kernel
theorem dX8_orchard_149 : decode cX8_orchard 149 = .ok (.iastore, 1) := by decide +kernel
theorem dX8_orchard_150 : decode cX8_orchard 150 = .ok (.aload_n 0, 1) := by decide +kernel
theorem dX8_orchard_151 : decode cX8_orchard 151 = .ok (.bipush 44, 2) := by decide +kernel
theorem dX8_orchard_153 : decode cX8_orchard 153 = .ok (.invokevirtual 157, 3) := by decide +kernel
theorem dX8_orchard_156 : decode cX8_orchard 156 = .ok (.aload_n 0, 1) := by decide +kernel
theorem dX8_orchard_157 : decode cX8_orchard 157 = .ok (.getfield 22, 3) := by decide +kernel
theorem dX8_orchard_160 : decode cX8_orchard 160 = .ok (.iconst 5, 1) := by decide +kernel
theorem dX8_orchard_161 : decode cX8_orchard 161 = .ok (.aload_n 0, 1) := by decide +kernel
theorem dX8_orchard_162 : decode cX8_orchard 162 = .ok (.iconst 0, 1) := by decide +kernel
theorem dX8_orchard_163 : decode cX8_orchard 163 = .ok (.bipush 40, 2) := by decide +kernel
theorem dX8_orchard_165 : decode cX8_orchard 165 = .ok (.invokevirtual 153, 3) := by decide +kernel
theorem dX8_orchard_168 : decode cX8_orchard 168 = .ok (.iastore, 1) := by decide +kernel
theorem dX8_orchard_169 : decode cX8_orchard 169 = .ok (.aload_n 0, 1) := by decide +kernel
theorem dX8_orchard_170 : decode cX8_orchard 170 = .ok (.bipush 59, 2) := by decide +kernel
theorem dX8_orchard_172 : decode cX8_orchard 172 = .ok (.invokevirtual 157, 3) := by decide +kernel
theorem dX8_orchard_175 : decode cX8_orchard 175 = .ok (.aload_n 0, 1) := by decide +kernel
theorem dX8_orchard_176 : decode cX8_orchard 176 = .ok (.bipush 104, 2) := by decide +kernel
theorem dX8_orchard_178 : decode cX8_orchard 178 = .ok (.invokevirtual 166, 3) := by decide +kernel
theorem dX8_orchard_181 : decode cX8_orchard 181 = .ok (.ifCond .eq 10, 3) := by decide +kernel
theorem dX8_orchard_184 : decode cX8_orchard 184 = .ok (.aload_n 0, 1) := by decide +kernel
theorem dX8_orchard_185 : decode cX8_orchard 185 = .ok (.invokevirtual 169, 3) := by decide +kernel
theorem dX8_orchard_188 : decode cX8_orchard 188 = .ok (.goto (-13), 3) := by decide +kernel
theorem dX8_orchard_191 : decode cX8_orchard 191 = .ok (.aload_n 0, 1) := by decide +kernel
theorem dX8_orchard_192 : decode cX8_orchard 192 = .ok (.bipush 116, 2) := by decide +kernel
theorem dX8_orchard_194 : decode cX8_orchard 194 = .ok (.invokevirtual 166, 3) := by decide +kernel
theorem dX8_orchard_197 : decode cX8_orchard 197 = .ok (.ifCond .eq 10, 3) := by decide +kernel
theorem dX8_orchard_200 : decode cX8_orchard 200 = .ok (.aload_n 0, 1) := by decide +kernel
theorem dX8_orchard_201 : decode cX8_orchard 201 = .ok (.invokevirtual 172, 3) := by decide +kernel
theorem dX8_orchard_204 : decode cX8_orchard 204 = .ok (.goto (-13), 3) := by decide +kernel
theorem dX8_orchard_207 : decode cX8_orchard 207 = .ok (.aload_n 0, 1) := by decide +kernel
theorem dX8_orchard_208 : decode cX8_orchard 208 = .ok (.getfield 109, 3) := by decide +kernel
theorem dX8_orchard_211 : decode cX8_orchard 211 = .ok (.ifCond .ne 30, 3) := by decide +kernel
theorem dX8_orchard_214 : decode cX8_orchard 214 = .ok (.aload_n 0, 1) := by decide +kernel
theorem dX8_orchard_215 : decode cX8_orchard 215 = .ok (.getfield 132, 3) := by decide +kernel
theorem dX8_orchard_218 : decode cX8_orchard 218 = .ok (.iconst 2, 1) := by decide +kernel
theorem dX8_orchard_219 : decode cX8_orchard 219 = .ok (.if_icmp .ne 22, 3) := by decide +kernel
theorem dX8_orchard_222 : decode cX8_orchard 222 = .ok (.aload_n 0, 1) := by decide +kernel
theorem dX8_orchard_223 : decode cX8_orchard 223 = .ok (.getfield 121, 3) := by decide +kernel
theorem dX8_orchard_226 : decode cX8_orchard 226 = .ok (.invokestatic 160, 3) := by decide +kernel
theorem dX8_orchard_229 : decode cX8_orchard 229 = .ok (.ldc 61, 2) := by decide +kernel
theorem dX8_orchard_231 : decode cX8_orchard 231 = .ok (.if_icmp .eq 10, 3) := by decide +kernel
theorem dX8_orchard_234 : decode cX8_orchard 234 = .ok (.aload_n 0, 1) := by decide +kernel
theorem dX8_orchard_235 : decode cX8_orchard 235 = .ok (.invokevirtual 175, 3) := by decide +kernel
theorem dX8_orchard_238 : decode cX8_orchard 238 = .ok (.goto (-31), 3) := by decide +kernel
theorem dX8_orchard_241 : decode cX8_orchard 241 = .ok (.aload_n 0, 1) := by decide +kernel
theorem dX8_orchard_242 : decode cX8_orchard 242 = .ok (.invokevirtual 178, 3) := by decide +kernel
theorem dX8_orchard_245 : decode cX8_orchard 245 = .ok (.ifCond .eq 11, 3) := by decide +kernel
theorem dX8_orchard_248 : decode cX8_orchard 248 = .ok (.ldc 182, 2) := by decide +kernel
theorem dX8_orchard_250 : decode cX8_orchard 250 = .ok (.aload_n 0, 1) := by decide +kernel
theorem dX8_orchard_251 : decode cX8_orchard 251 = .ok (.getfield 115, 3) := by decide +kernel
theorem dX8_orchard_254 : decode cX8_orchard 254 = .ok (.isub, 1) := by decide +kernel
theorem dX8_orchard_255 : decode cX8_orchard 255 = .ok (.ireturn, 1) := by decide +kernel
theorem dX8_orchard_256 : decode cX8_orchard 256 = .ok (.aload_n 0, 1) := by decide +kernel
theorem dX8_orchard_257 : decode cX8_orchard 257 = .ok (.iconst 0, 1) := by decide +kernel
theorem dX8_orchard_258 : decode cX8_orchard 258 = .ok (.putfield 183, 3) := by decide +kernel
theorem dX8_orchard_261 : decode cX8_orchard 261 = .ok (.iconst 0, 1) := by decide +kernel
theorem dX8_orchard_262 : decode cX8_orchard 262 = .ok (.istore_n 1, 1) := by decide +kernel
theorem dX8_orchard_263 : decode cX8_orchard 263 = .ok (.iload_n 1, 1) := by decide +kernel
theorem dX8_orchard_264 : decode cX8_orchard 264 = .ok (.bipush 59, 2) := by decide +kernel
theorem dX8_orchard_266 : decode cX8_orchard 266 = .ok (.if_icmp .ge 21, 3) := by decide +kernel
theorem dX8_orchard_269 : decode cX8_orchard 269 = .ok (.aload_n 0, 1) := by decide +kernel
theorem dX8_orchard_270 : decode cX8_orchard 270 = .ok (.getfield 19, 3) := by decide +kernel
theorem dX8_orchard_273 : decode cX8_orchard 273 = .ok (.iload_n 1, 1) := by decide +kernel
theorem dX8_orchard_274 : decode cX8_orchard 274 = .ok (.aload_n 0, 1) := by decide +kernel
theorem dX8_orchard_275 : decode cX8_orchard 275 = .ok (.getfield 22, 3) := by decide +kernel
theorem dX8_orchard_278 : decode cX8_orchard 278 = .ok (.iload_n 1, 1) := by decide +kernel
theorem dX8_orchard_279 : decode cX8_orchard 279 = .ok (.iaload, 1) := by decide +kernel
theorem dX8_orchard_280 : decode cX8_orchard 280 = .ok (.iastore, 1) := by decide +kernel
theorem dX8_orchard_281 : decode cX8_orchard 281 = .ok (.iinc 1 1, 3) := by decide +kernel
theorem dX8_orchard_284 : decode cX8_orchard 284 = .ok (.goto (-21), 3) := by decide +kernel
theorem dX8_orchard_287 : decode cX8_orchard 287 = .ok (.aload_n 0, 1) := by decide +kernel
theorem dX8_orchard_288 : decode cX8_orchard 288 = .ok (.getfield 19, 3) := by decide +kernel
theorem dX8_orchard_291 : decode cX8_orchard 291 = .ok (.bipush 7, 2) := by decide +kernel
theorem dX8_orchard_293 : decode cX8_orchard 293 = .ok (.iaload, 1) := by decide +kernel
theorem dX8_orchard_294 : decode cX8_orchard 294 = .ok (.ireturn, 1) := by decide +kernel
theorem dX8_isThere_0 : decode cX8_isThere 0 = .ok (.aload_n 0, 1) := by decide +kernel
theorem dX8_isThere_1 : decode cX8_isThere 1 = .ok (.getfield 19, 3) := by decide +kernel
theorem dX8_isThere_4 : decode cX8_isThere 4 = .ok (.iconst 0, 1) := by decide +kernel
theorem dX8_isThere_5 : decode cX8_isThere 5 = .ok (.iaload, 1) := by decide +kernel
theorem dX8_isThere_6 : decode cX8_isThere 6 = .ok (.iconst 1, 1) := by decide +kernel
theorem dX8_isThere_7 : decode cX8_isThere 7 = .ok (.if_icmp .ne 7, 3) := by decide +kernel
theorem dX8_isThere_10 : decode cX8_isThere 10 = .ok (.iconst 1, 1) := by decide +kernel
theorem dX8_isThere_11 : decode cX8_isThere 11 = .ok (.goto 4, 3) := by decide +kernel
theorem dX8_isThere_14 : decode cX8_isThere 14 = .ok (.iconst 0, 1) := by decide +kernel
theorem dX8_isThere_15 : decode cX8_isThere 15 = .ok (.ireturn, 1) := by decide +kernel
theorem dX8_isRaider_0 : decode cX8_isRaider 0 = .ok (.iload_n 1, 1) := by decide +kernel
theorem dX8_isRaider_1 : decode cX8_isRaider 1 = .ok (.i2l, 1) := by decide +kernel
theorem dX8_isRaider_2 : decode cX8_isRaider 2 = .ok (.lconst 0, 1) := by decide +kernel
theorem dX8_isRaider_3 : decode cX8_isRaider 3 = .ok (.aload_n 0, 1) := by decide +kernel
theorem dX8_isRaider_4 : decode cX8_isRaider 4 = .ok (.getfield 19, 3) := by decide +kernel
theorem dX8_isRaider_7 : decode cX8_isRaider 7 = .ok (.bipush 8, 2) := by decide +kernel
theorem dX8_isRaider_9 : decode cX8_isRaider 9 = .ok (.iaload, 1) := by decide +kernel
theorem dX8_isRaider_10 : decode cX8_isRaider 10 = .ok (.iconst 1, 1) := by decide +kernel
theorem dX8_isRaider_11 : decode cX8_isRaider 11 = .ok (.isub, 1) := by decide +kernel
theorem dX8_isRaider_12 : decode cX8_isRaider 12 = .ok (.i2l, 1) := by decide +kernel
theorem dX8_isRaider_13 : decode cX8_isRaider 13 = .ok (.invokestatic 88, 3) := by decide +kernel
theorem dX8_isRaider_16 : decode cX8_isRaider 16 = .ok (.ireturn, 1) := by decide +kernel
theorem dX8_isTree_0 : decode cX8_isTree 0 = .ok (.iload_n 1, 1) := by decide +kernel
theorem dX8_isTree_1 : decode cX8_isTree 1 = .ok (.i2l, 1) := by decide +kernel
theorem dX8_isTree_2 : decode cX8_isTree 2 = .ok (.lconst 0, 1) := by decide +kernel
theorem dX8_isTree_3 : decode cX8_isTree 3 = .ok (.aload_n 0, 1) := by decide +kernel
theorem dX8_isTree_4 : decode cX8_isTree 4 = .ok (.getfield 19, 3) := by decide +kernel
theorem dX8_isTree_7 : decode cX8_isTree 7 = .ok (.bipush 7, 2) := by decide +kernel
theorem dX8_isTree_9 : decode cX8_isTree 9 = .ok (.iaload, 1) := by decide +kernel
theorem dX8_isTree_10 : decode cX8_isTree 10 = .ok (.iconst 1, 1) := by decide +kernel
theorem dX8_isTree_11 : decode cX8_isTree 11 = .ok (.isub, 1) := by decide +kernel
theorem dX8_isTree_12 : decode cX8_isTree 12 = .ok (.i2l, 1) := by decide +kernel
theorem dX8_isTree_13 : decode cX8_isTree 13 = .ok (.invokestatic 88, 3) := by decide +kernel
theorem dX8_isTree_16 : decode cX8_isTree 16 = .ok (.ireturn, 1) := by decide +kernel
theorem dX8_isCell_0 : decode cX8_isCell 0 = .ok (.iload_n 0, 1) := by decide +kernel
theorem dX8_isCell_1 : decode cX8_isCell 1 = .ok (.i2l, 1) := by decide +kernel
theorem dX8_isCell_2 : decode cX8_isCell 2 = .ok (.lconst 0, 1) := by decide +kernel
theorem dX8_isCell_3 : decode cX8_isCell 3 = .ok (.ldc2_w 186, 3) := by decide +kernel
theorem dX8_isCell_6 : decode cX8_isCell 6 = .ok (.invokestatic 88, 3) := by decide +kernel
theorem dX8_isCell_9 : decode cX8_isCell 9 = .ok (.ireturn, 1) := by decide +kernel
theorem dX8_of_0 : decode cX8_of 0 = .ok (.aload_n 0, 1) := by decide +kernel
theorem dX8_of_1 : decode cX8_of 1 = .ok (.getfield 19, 3) := by decide +kernel
theorem dX8_of_4 : decode cX8_of 4 = .ok (.bipush 35, 2) := by decide +kernel
theorem dX8_of_6 : decode cX8_of 6 = .ok (.bipush 6, 2) := by decide +kernel
theorem dX8_of_8 : decode cX8_of 8 = .ok (.iload_n 1, 1) := by decide +kernel
theorem dX8_of_9 : decode cX8_of 9 = .ok (.imul, 1) := by decide +kernel
theorem dX8_of_10 : decode cX8_of 10 = .ok (.iadd, 1) := by decide +kernel
theorem dX8_of_11 : decode cX8_of 11 = .ok (.iload_n 2, 1) := by decide +kernel
theorem dX8_of_12 : decode cX8_of 12 = .ok (.iadd, 1) := by decide +kernel
theorem dX8_of_13 : decode cX8_of 13 = .ok (.iaload, 1) := by decide +kernel
theorem dX8_of_14 : decode cX8_of 14 = .ok (.ireturn, 1) := by decide +kernel
theorem dX8_isWatching_0 : decode cX8_isWatching 0 = .ok (.aload_n 0, 1) := by decide +kernel
theorem dX8_isWatching_1 : decode cX8_isWatching 1 = .ok (.iload_n 1, 1) := by decide +kernel
theorem dX8_isWatching_2 : decode cX8_isWatching 2 = .ok (.iconst 0, 1) := by decide +kernel
theorem dX8_isWatching_3 : decode cX8_isWatching 3 = .ok (.invokevirtual 188, 3) := by decide +kernel
theorem dX8_isWatching_6 : decode cX8_isWatching 6 = .ok (.iconst 4, 1) := by decide +kernel
theorem dX8_isWatching_7 : decode cX8_isWatching 7 = .ok (.if_icmp .lt 7, 3) := by decide +kernel
theorem dX8_isWatching_10 : decode cX8_isWatching 10 = .ok (.iconst 1, 1) := by decide +kernel
theorem dX8_isWatching_11 : decode cX8_isWatching 11 = .ok (.goto 4, 3) := by decide +kernel
theorem dX8_isWatching_14 : decode cX8_isWatching 14 = .ok (.iconst 0, 1) := by decide +kernel
theorem dX8_isWatching_15 : decode cX8_isWatching 15 = .ok (.ireturn, 1) := by decide +kernel
theorem dX8_farOf_0 : decode cX8_farOf 0 = .ok (.iload_n 0, 1) := by decide +kernel
theorem dX8_farOf_1 : decode cX8_farOf 1 = .ok (.bipush 6, 2) := by decide +kernel
theorem dX8_farOf_3 : decode cX8_farOf 3 = .ok (.irem, 1) := by decide +kernel
theorem dX8_farOf_4 : decode cX8_farOf 4 = .ok (.iload_n 1, 1) := by decide +kernel
theorem dX8_farOf_5 : decode cX8_farOf 5 = .ok (.bipush 6, 2) := by decide +kernel
theorem dX8_farOf_7 : decode cX8_farOf 7 = .ok (.irem, 1) := by decide +kernel
theorem dX8_farOf_8 : decode cX8_farOf 8 = .ok (.isub, 1) := by decide +kernel
theorem dX8_farOf_9 : decode cX8_farOf 9 = .ok (.istore_n 2, 1) := by decide +kernel
theorem dX8_farOf_10 : decode cX8_farOf 10 = .ok (.iload_n 0, 1) := by decide +kernel
theorem dX8_farOf_11 : decode cX8_farOf 11 = .ok (.bipush 6, 2) := by decide +kernel
theorem dX8_farOf_13 : decode cX8_farOf 13 = .ok (.idiv, 1) := by decide +kernel
theorem dX8_farOf_14 : decode cX8_farOf 14 = .ok (.iload_n 1, 1) := by decide +kernel
theorem dX8_farOf_15 : decode cX8_farOf 15 = .ok (.bipush 6, 2) := by decide +kernel
theorem dX8_farOf_17 : decode cX8_farOf 17 = .ok (.idiv, 1) := by decide +kernel
theorem dX8_farOf_18 : decode cX8_farOf 18 = .ok (.isub, 1) := by decide +kernel
theorem dX8_farOf_19 : decode cX8_farOf 19 = .ok (.istore_n 3, 1) := by decide +kernel
theorem dX8_farOf_20 : decode cX8_farOf 20 = .ok (.iload_n 2, 1) := by decide +kernel
theorem dX8_farOf_21 : decode cX8_farOf 21 = .ok (.ifCond .ge 8, 3) := by decide +kernel
theorem dX8_farOf_24 : decode cX8_farOf 24 = .ok (.iload_n 2, 1) := by decide +kernel
theorem dX8_farOf_25 : decode cX8_farOf 25 = .ok (.ineg, 1) := by decide +kernel
theorem dX8_farOf_26 : decode cX8_farOf 26 = .ok (.goto 4, 3) := by decide +kernel
theorem dX8_farOf_29 : decode cX8_farOf 29 = .ok (.iload_n 2, 1) := by decide +kernel
theorem dX8_farOf_30 : decode cX8_farOf 30 = .ok (.iload_n 3, 1) := by decide +kernel
theorem dX8_farOf_31 : decode cX8_farOf 31 = .ok (.ifCond .ge 8, 3) := by decide +kernel
theorem dX8_farOf_34 : decode cX8_farOf 34 = .ok (.iload_n 3, 1) := by decide +kernel
theorem dX8_farOf_35 : decode cX8_farOf 35 = .ok (.ineg, 1) := by decide +kernel
theorem dX8_farOf_36 : decode cX8_farOf 36 = .ok (.goto 4, 3) := by decide +kernel
theorem dX8_farOf_39 : decode cX8_farOf 39 = .ok (.iload_n 3, 1) := by decide +kernel
theorem dX8_farOf_40 : decode cX8_farOf 40 = .ok (.iadd, 1) := by decide +kernel
theorem dX8_farOf_41 : decode cX8_farOf 41 = .ok (.ireturn, 1) := by decide +kernel
theorem dX8_cellOn_0 : decode cX8_cellOn 0 = .ok (.iload_n 1, 1) := by decide +kernel
theorem dX8_cellOn_1 : decode cX8_cellOn 1 = .ok (.bipush 6, 2) := by decide +kernel
theorem dX8_cellOn_3 : decode cX8_cellOn 3 = .ok (.irem, 1) := by decide +kernel
theorem dX8_cellOn_4 : decode cX8_cellOn 4 = .ok (.iload_n 0, 1) := by decide +kernel
theorem dX8_cellOn_5 : decode cX8_cellOn 5 = .ok (.bipush 6, 2) := by decide +kernel
theorem dX8_cellOn_7 : decode cX8_cellOn 7 = .ok (.irem, 1) := by decide +kernel
theorem dX8_cellOn_8 : decode cX8_cellOn 8 = .ok (.isub, 1) := by decide +kernel
theorem dX8_cellOn_9 : decode cX8_cellOn 9 = .ok (.istore_n 3, 1) := by decide +kernel
theorem dX8_cellOn_10 : decode cX8_cellOn 10 = .ok (.iload_n 3, 1) := by decide +kernel
theorem dX8_cellOn_11 : decode cX8_cellOn 11 = .ok (.ifCond .ge 8, 3) := by decide +kernel
theorem dX8_cellOn_14 : decode cX8_cellOn 14 = .ok (.iload_n 3, 1) := by decide +kernel
theorem dX8_cellOn_15 : decode cX8_cellOn 15 = .ok (.ineg, 1) := by decide +kernel
theorem dX8_cellOn_16 : decode cX8_cellOn 16 = .ok (.goto 4, 3) := by decide +kernel
theorem dX8_cellOn_19 : decode cX8_cellOn 19 = .ok (.iload_n 3, 1) := by decide +kernel
theorem dX8_cellOn_20 : decode cX8_cellOn 20 = .ok (.istore 4, 2) := by decide +kernel
theorem dX8_cellOn_22 : decode cX8_cellOn 22 = .ok (.iload_n 2, 1) := by decide +kernel
theorem dX8_cellOn_23 : decode cX8_cellOn 23 = .ok (.iload 4, 2) := by decide +kernel
theorem dX8_cellOn_25 : decode cX8_cellOn 25 = .ok (.if_icmp .ge 7, 3) := by decide +kernel
theorem dX8_cellOn_28 : decode cX8_cellOn 28 = .ok (.iload_n 2, 1) := by decide +kernel
theorem dX8_cellOn_29 : decode cX8_cellOn 29 = .ok (.goto 5, 3) := by decide +kernel
theorem dX8_cellOn_32 : decode cX8_cellOn 32 = .ok (.iload 4, 2) := by decide +kernel
theorem dX8_cellOn_34 : decode cX8_cellOn 34 = .ok (.istore 5, 2) := by decide +kernel
theorem dX8_cellOn_36 : decode cX8_cellOn 36 = .ok (.iload_n 2, 1) := by decide +kernel
theorem dX8_cellOn_37 : decode cX8_cellOn 37 = .ok (.iload 5, 2) := by decide +kernel
theorem dX8_cellOn_39 : decode cX8_cellOn 39 = .ok (.isub, 1) := by decide +kernel
theorem dX8_cellOn_40 : decode cX8_cellOn 40 = .ok (.istore 6, 2) := by decide +kernel
theorem dX8_cellOn_42 : decode cX8_cellOn 42 = .ok (.iload_n 0, 1) := by decide +kernel
theorem dX8_cellOn_43 : decode cX8_cellOn 43 = .ok (.iload_n 3, 1) := by decide +kernel
theorem dX8_cellOn_44 : decode cX8_cellOn 44 = .ok (.ifCond .ge 9, 3) := by decide +kernel
theorem dX8_cellOn_47 : decode cX8_cellOn 47 = .ok (.iload 5, 2) := by decide +kernel
theorem dX8_cellOn_49 : decode cX8_cellOn 49 = .ok (.ineg, 1) := by decide +kernel
theorem dX8_cellOn_50 : decode cX8_cellOn 50 = .ok (.goto 5, 3) := by decide +kernel
theorem dX8_cellOn_53 : decode cX8_cellOn 53 = .ok (.iload 5, 2) := by decide +kernel
theorem dX8_cellOn_55 : decode cX8_cellOn 55 = .ok (.iadd, 1) := by decide +kernel
theorem dX8_cellOn_56 : decode cX8_cellOn 56 = .ok (.iload_n 1, 1) := by decide +kernel
theorem dX8_cellOn_57 : decode cX8_cellOn 57 = .ok (.bipush 6, 2) := by decide +kernel
theorem dX8_cellOn_59 : decode cX8_cellOn 59 = .ok (.idiv, 1) := by decide +kernel
theorem dX8_cellOn_60 : decode cX8_cellOn 60 = .ok (.iload_n 0, 1) := by decide +kernel
theorem dX8_cellOn_61 : decode cX8_cellOn 61 = .ok (.bipush 6, 2) := by decide +kernel
theorem dX8_cellOn_63 : decode cX8_cellOn 63 = .ok (.idiv, 1) := by decide +kernel
theorem dX8_cellOn_64 : decode cX8_cellOn 64 = .ok (.if_icmp .ge 11, 3) := by decide +kernel
theorem dX8_cellOn_67 : decode cX8_cellOn 67 = .ok (.bipush (-6), 2) := by decide +kernel
theorem dX8_cellOn_69 : decode cX8_cellOn 69 = .ok (.iload 6, 2) := by decide +kernel
theorem dX8_cellOn_71 : decode cX8_cellOn 71 = .ok (.imul, 1) := by decide +kernel
theorem dX8_cellOn_72 : decode cX8_cellOn 72 = .ok (.goto 8, 3) := by decide +kernel
theorem dX8_cellOn_75 : decode cX8_cellOn 75 = .ok (.bipush 6, 2) := by decide +kernel
theorem dX8_cellOn_77 : decode cX8_cellOn 77 = .ok (.iload 6, 2) := by decide +kernel
theorem dX8_cellOn_79 : decode cX8_cellOn 79 = .ok (.imul, 1) := by decide +kernel
theorem dX8_cellOn_80 : decode cX8_cellOn 80 = .ok (.iadd, 1) := by decide +kernel
theorem dX8_cellOn_81 : decode cX8_cellOn 81 = .ok (.ireturn, 1) := by decide +kernel
theorem dX8_layPlans_0 : decode cX8_layPlans 0 = .ok (.iconst 0, 1) := by decide +kernel
theorem dX8_layPlans_1 : decode cX8_layPlans 1 = .ok (.istore_n 1, 1) := by decide +kernel
theorem dX8_layPlans_2 : decode cX8_layPlans 2 = .ok (.iload_n 1, 1) := by decide +kernel
theorem dX8_layPlans_3 : decode cX8_layPlans 3 = .ok (.iconst 4, 1) := by decide +kernel
theorem dX8_layPlans_4 : decode cX8_layPlans 4 = .ok (.if_icmp .ge 60, 3) := by decide +kernel
theorem dX8_layPlans_7 : decode cX8_layPlans 7 = .ok (.aload_n 0, 1) := by decide +kernel
theorem dX8_layPlans_8 : decode cX8_layPlans 8 = .ok (.getfield 31, 3) := by decide +kernel
theorem dX8_layPlans_11 : decode cX8_layPlans 11 = .ok (.iload_n 1, 1) := by decide +kernel
theorem dX8_layPlans_12 : decode cX8_layPlans 12 = .ok (.iload_n 1, 1) := by decide +kernel
theorem dX8_layPlans_13 : decode cX8_layPlans 13 = .ok (.aload_n 0, 1) := by decide +kernel
theorem dX8_layPlans_14 : decode cX8_layPlans 14 = .ok (.getfield 19, 3) := by decide +kernel
theorem dX8_layPlans_17 : decode cX8_layPlans 17 = .ok (.bipush 8, 2) := by decide +kernel
theorem dX8_layPlans_19 : decode cX8_layPlans 19 = .ok (.iaload, 1) := by decide +kernel
theorem dX8_layPlans_20 : decode cX8_layPlans 20 = .ok (.if_icmp .ge 12, 3) := by decide +kernel
theorem dX8_layPlans_23 : decode cX8_layPlans 23 = .ok (.aload_n 0, 1) := by decide +kernel
theorem dX8_layPlans_24 : decode cX8_layPlans 24 = .ok (.iload_n 1, 1) := by decide +kernel
theorem dX8_layPlans_25 : decode cX8_layPlans 25 = .ok (.iconst 2, 1) := by decide +kernel
theorem dX8_layPlans_26 : decode cX8_layPlans 26 = .ok (.invokevirtual 188, 3) := by decide +kernel
theorem dX8_layPlans_29 : decode cX8_layPlans 29 = .ok (.goto 4, 3) := by decide +kernel
theorem dX8_layPlans_32 : decode cX8_layPlans 32 = .ok (.iconst (-1), 1) := by decide +kernel
theorem dX8_layPlans_33 : decode cX8_layPlans 33 = .ok (.iastore, 1) := by decide +kernel
theorem dX8_layPlans_34 : decode cX8_layPlans 34 = .ok (.aload_n 0, 1) := by decide +kernel
theorem dX8_layPlans_35 : decode cX8_layPlans 35 = .ok (.getfield 34, 3) := by decide +kernel
theorem dX8_layPlans_38 : decode cX8_layPlans 38 = .ok (.iload_n 1, 1) := by decide +kernel
theorem dX8_layPlans_39 : decode cX8_layPlans 39 = .ok (.aload_n 0, 1) := by decide +kernel
theorem dX8_layPlans_40 : decode cX8_layPlans 40 = .ok (.iload_n 1, 1) := by decide +kernel
theorem dX8_layPlans_41 : decode cX8_layPlans 41 = .ok (.iconst 3, 1) := by decide +kernel
theorem dX8_layPlans_42 : decode cX8_layPlans 42 = .ok (.invokevirtual 188, 3) := by decide +kernel
theorem dX8_layPlans_45 : decode cX8_layPlans 45 = .ok (.iastore, 1) := by decide +kernel
theorem dX8_layPlans_46 : decode cX8_layPlans 46 = .ok (.aload_n 0, 1) := by decide +kernel
theorem dX8_layPlans_47 : decode cX8_layPlans 47 = .ok (.getfield 37, 3) := by decide +kernel
theorem dX8_layPlans_50 : decode cX8_layPlans 50 = .ok (.iload_n 1, 1) := by decide +kernel
theorem dX8_layPlans_51 : decode cX8_layPlans 51 = .ok (.aload_n 0, 1) := by decide +kernel
theorem dX8_layPlans_52 : decode cX8_layPlans 52 = .ok (.iload_n 1, 1) := by decide +kernel
theorem dX8_layPlans_53 : decode cX8_layPlans 53 = .ok (.iconst 4, 1) := by decide +kernel
theorem dX8_layPlans_54 : decode cX8_layPlans 54 = .ok (.invokevirtual 188, 3) := by decide +kernel
theorem dX8_layPlans_57 : decode cX8_layPlans 57 = .ok (.iastore, 1) := by decide +kernel
theorem dX8_layPlans_58 : decode cX8_layPlans 58 = .ok (.iinc 1 1, 3) := by decide +kernel
theorem dX8_layPlans_61 : decode cX8_layPlans 61 = .ok (.goto (-59), 3) := by decide +kernel
theorem dX8_layPlans_64 : decode cX8_layPlans 64 = .ok (.aload_n 0, 1) := by decide +kernel
theorem dX8_layPlans_65 : decode cX8_layPlans 65 = .ok (.invokevirtual 191, 3) := by decide +kernel
theorem dX8_layPlans_68 : decode cX8_layPlans 68 = .ok (.return_, 1) := by decide +kernel
theorem dX8_layApples_0 : decode cX8_layApples 0 = .ok (.iconst 0, 1) := by decide +kernel
theorem dX8_layApples_1 : decode cX8_layApples 1 = .ok (.istore_n 1, 1) := by decide +kernel
theorem dX8_layApples_2 : decode cX8_layApples 2 = .ok (.iload_n 1, 1) := by decide +kernel
theorem dX8_layApples_3 : decode cX8_layApples 3 = .ok (.bipush 6, 2) := by decide +kernel
theorem dX8_layApples_5 : decode cX8_layApples 5 = .ok (.if_icmp .ge 28, 3) := by decide +kernel
theorem dX8_layApples_8 : decode cX8_layApples 8 = .ok (.aload_n 0, 1) := by decide +kernel
theorem dX8_layApples_9 : decode cX8_layApples 9 = .ok (.getfield 40, 3) := by decide +kernel
theorem dX8_layApples_12 : decode cX8_layApples 12 = .ok (.iload_n 1, 1) := by decide +kernel
theorem dX8_layApples_13 : decode cX8_layApples 13 = .ok (.aload_n 0, 1) := by decide +kernel
theorem dX8_layApples_14 : decode cX8_layApples 14 = .ok (.getfield 19, 3) := by decide +kernel
theorem dX8_layApples_17 : decode cX8_layApples 17 = .ok (.bipush 17, 2) := by decide +kernel
theorem dX8_layApples_19 : decode cX8_layApples 19 = .ok (.iconst 3, 1) := by decide +kernel
theorem dX8_layApples_20 : decode cX8_layApples 20 = .ok (.iload_n 1, 1) := by decide +kernel
theorem dX8_layApples_21 : decode cX8_layApples 21 = .ok (.imul, 1) := by decide +kernel
theorem dX8_layApples_22 : decode cX8_layApples 22 = .ok (.iadd, 1) := by decide +kernel
theorem dX8_layApples_23 : decode cX8_layApples 23 = .ok (.iconst 1, 1) := by decide +kernel
theorem dX8_layApples_24 : decode cX8_layApples 24 = .ok (.iadd, 1) := by decide +kernel
theorem dX8_layApples_25 : decode cX8_layApples 25 = .ok (.iaload, 1) := by decide +kernel
theorem dX8_layApples_26 : decode cX8_layApples 26 = .ok (.iastore, 1) := by decide +kernel
theorem dX8_layApples_27 : decode cX8_layApples 27 = .ok (.iinc 1 1, 3) := by decide +kernel
theorem dX8_layApples_30 : decode cX8_layApples 30 = .ok (.goto (-28), 3) := by decide +kernel
theorem dX8_layApples_33 : decode cX8_layApples 33 = .ok (.return_, 1) := by decide +kernel
theorem dX8_paceOf_0 : decode cX8_paceOf 0 = .ok (.aload_n 0, 1) := by decide +kernel
theorem dX8_paceOf_1 : decode cX8_paceOf 1 = .ok (.iload_n 1, 1) := by decide +kernel
theorem dX8_paceOf_2 : decode cX8_paceOf 2 = .ok (.iconst 0, 1) := by decide +kernel
theorem dX8_paceOf_3 : decode cX8_paceOf 3 = .ok (.invokevirtual 188, 3) := by decide +kernel
theorem dX8_paceOf_6 : decode cX8_paceOf 6 = .ok (.istore_n 2, 1) := by decide +kernel
theorem dX8_paceOf_7 : decode cX8_paceOf 7 = .ok (.iconst 2, 1) := by decide +kernel
theorem dX8_paceOf_8 : decode cX8_paceOf 8 = .ok (.aload_n 0, 1) := by decide +kernel
theorem dX8_paceOf_9 : decode cX8_paceOf 9 = .ok (.getfield 52, 3) := by decide +kernel
theorem dX8_paceOf_12 : decode cX8_paceOf 12 = .ok (.iload_n 1, 1) := by decide +kernel
theorem dX8_paceOf_13 : decode cX8_paceOf 13 = .ok (.iaload, 1) := by decide +kernel
theorem dX8_paceOf_14 : decode cX8_paceOf 14 = .ok (.iload_n 2, 1) := by decide +kernel
theorem dX8_paceOf_15 : decode cX8_paceOf 15 = .ok (.iconst 3, 1) := by decide +kernel
theorem dX8_paceOf_16 : decode cX8_paceOf 16 = .ok (.if_icmp .ne 8, 3) := by decide +kernel
theorem dX8_paceOf_19 : decode cX8_paceOf 19 = .ok (.bipush 12, 2) := by decide +kernel
theorem dX8_paceOf_21 : decode cX8_paceOf 21 = .ok (.goto 5, 3) := by decide +kernel
theorem dX8_paceOf_24 : decode cX8_paceOf 24 = .ok (.bipush 6, 2) := by decide +kernel
theorem dX8_paceOf_26 : decode cX8_paceOf 26 = .ok (.idiv, 1) := by decide +kernel
theorem dX8_paceOf_27 : decode cX8_paceOf 27 = .ok (.iadd, 1) := by decide +kernel
theorem dX8_paceOf_28 : decode cX8_paceOf 28 = .ok (.iload_n 2, 1) := by decide +kernel
theorem dX8_paceOf_29 : decode cX8_paceOf 29 = .ok (.iconst 2, 1) := by decide +kernel
theorem dX8_paceOf_30 : decode cX8_paceOf 30 = .ok (.if_icmp .ne 7, 3) := by decide +kernel
theorem dX8_paceOf_33 : decode cX8_paceOf 33 = .ok (.iconst 1, 1) := by decide +kernel
theorem dX8_paceOf_34 : decode cX8_paceOf 34 = .ok (.goto 4, 3) := by decide +kernel
theorem dX8_paceOf_37 : decode cX8_paceOf 37 = .ok (.iconst 0, 1) := by decide +kernel
theorem dX8_paceOf_38 : decode cX8_paceOf 38 = .ok (.isub, 1) := by decide +kernel
theorem dX8_paceOf_39 : decode cX8_paceOf 39 = .ok (.ireturn, 1) := by decide +kernel
theorem dX8_treeCell_0 : decode cX8_treeCell 0 = .ok (.aload_n 0, 1) := by decide +kernel
theorem dX8_treeCell_1 : decode cX8_treeCell 1 = .ok (.getfield 19, 3) := by decide +kernel
theorem dX8_treeCell_4 : decode cX8_treeCell 4 = .ok (.bipush 17, 2) := by decide +kernel
theorem dX8_treeCell_6 : decode cX8_treeCell 6 = .ok (.iconst 3, 1) := by decide +kernel
theorem dX8_treeCell_7 : decode cX8_treeCell 7 = .ok (.aload_n 0, 1) := by decide +kernel
theorem dX8_treeCell_8 : decode cX8_treeCell 8 = .ok (.getfield 31, 3) := by decide +kernel
theorem dX8_treeCell_11 : decode cX8_treeCell 11 = .ok (.iload_n 1, 1) := by decide +kernel
theorem dX8_treeCell_12 : decode cX8_treeCell 12 = .ok (.iaload, 1) := by decide +kernel
theorem dX8_treeCell_13 : decode cX8_treeCell 13 = .ok (.imul, 1) := by decide +kernel
theorem dX8_treeCell_14 : decode cX8_treeCell 14 = .ok (.iadd, 1) := by decide +kernel
theorem dX8_treeCell_15 : decode cX8_treeCell 15 = .ok (.iaload, 1) := by decide +kernel
theorem dX8_treeCell_16 : decode cX8_treeCell 16 = .ok (.ireturn, 1) := by decide +kernel
theorem dX8_cackle_0 : decode cX8_cackle 0 = .ok (.iconst 0, 1) := by decide +kernel
theorem dX8_cackle_1 : decode cX8_cackle 1 = .ok (.istore_n 2, 1) := by decide +kernel
theorem dX8_cackle_2 : decode cX8_cackle 2 = .ok (.iload_n 2, 1) := by decide +kernel
theorem dX8_cackle_3 : decode cX8_cackle 3 = .ok (.aload_n 0, 1) := by decide +kernel
theorem dX8_cackle_4 : decode cX8_cackle 4 = .ok (.getfield 19, 3) := by decide +kernel
theorem dX8_cackle_7 : decode cX8_cackle 7 = .ok (.bipush 6, 2) := by decide +kernel
theorem dX8_cackle_9 : decode cX8_cackle 9 = .ok (.iaload, 1) := by decide +kernel
theorem dX8_cackle_10 : decode cX8_cackle 10 = .ok (.if_icmp .ge 54, 3) := by decide +kernel
theorem dX8_cackle_13 : decode cX8_cackle 13 = .ok (.aload_n 0, 1) := by decide +kernel
theorem dX8_cackle_14 : decode cX8_cackle 14 = .ok (.dup, 1) := by decide +kernel
theorem dX8_cackle_15 : decode cX8_cackle 15 = .ok (.getfield 194, 3) := by decide +kernel
theorem dX8_cackle_18 : decode cX8_cackle 18 = .ok (.iload_n 1, 1) := by decide +kernel
theorem dX8_cackle_19 : decode cX8_cackle 19 = .ok (.aload_n 0, 1) := by decide +kernel
theorem dX8_cackle_20 : decode cX8_cackle 20 = .ok (.getfield 19, 3) := by decide +kernel
theorem dX8_cackle_23 : decode cX8_cackle 23 = .ok (.bipush 11, 2) := by decide +kernel
theorem dX8_cackle_25 : decode cX8_cackle 25 = .ok (.iconst 2, 1) := by decide +kernel
theorem dX8_cackle_26 : decode cX8_cackle 26 = .ok (.iload_n 2, 1) := by decide +kernel
theorem dX8_cackle_27 : decode cX8_cackle 27 = .ok (.imul, 1) := by decide +kernel
theorem dX8_cackle_28 : decode cX8_cackle 28 = .ok (.iadd, 1) := by decide +kernel
theorem dX8_cackle_29 : decode cX8_cackle 29 = .ok (.iaload, 1) := by decide +kernel
theorem dX8_cackle_30 : decode cX8_cackle 30 = .ok (.invokestatic 197, 3) := by decide +kernel
theorem dX8_cackle_33 : decode cX8_cackle 33 = .ok (.iconst 2, 1) := by decide +kernel
theorem dX8_cackle_34 : decode cX8_cackle 34 = .ok (.if_icmp .ge 19, 3) := by decide +kernel
theorem dX8_cackle_37 : decode cX8_cackle 37 = .ok (.aload_n 0, 1) := by decide +kernel
theorem dX8_cackle_38 : decode cX8_cackle 38 = .ok (.getfield 19, 3) := by decide +kernel
theorem dX8_cackle_41 : decode cX8_cackle 41 = .ok (.bipush 11, 2) := by decide +kernel
theorem dX8_cackle_43 : decode cX8_cackle 43 = .ok (.iconst 2, 1) := by decide +kernel
theorem dX8_cackle_44 : decode cX8_cackle 44 = .ok (.iload_n 2, 1) := by decide +kernel
theorem dX8_cackle_45 : decode cX8_cackle 45 = .ok (.imul, 1) := by decide +kernel
theorem dX8_cackle_46 : decode cX8_cackle 46 = .ok (.iadd, 1) := by decide +kernel
theorem dX8_cackle_47 : decode cX8_cackle 47 = .ok (.iconst 1, 1) := by decide +kernel
theorem dX8_cackle_48 : decode cX8_cackle 48 = .ok (.iadd, 1) := by decide +kernel
theorem dX8_cackle_49 : decode cX8_cackle 49 = .ok (.iaload, 1) := by decide +kernel
theorem dX8_cackle_50 : decode cX8_cackle 50 = .ok (.goto 4, 3) := by decide +kernel
theorem dX8_cackle_53 : decode cX8_cackle 53 = .ok (.iconst 0, 1) := by decide +kernel
theorem dX8_cackle_54 : decode cX8_cackle 54 = .ok (.iadd, 1) := by decide +kernel
theorem dX8_cackle_55 : decode cX8_cackle 55 = .ok (.putfield 194, 3) := by decide +kernel
theorem dX8_cackle_58 : decode cX8_cackle 58 = .ok (.iinc 2 1, 3) := by decide +kernel
theorem dX8_cackle_61 : decode cX8_cackle 61 = .ok (.goto (-59), 3) := by decide +kernel
theorem dX8_cackle_64 : decode cX8_cackle 64 = .ok (.return_, 1) := by decide +kernel
theorem dX8_walks_0 : decode cX8_walks 0 = .ok (.aload_n 0, 1) := by decide +kernel
theorem dX8_walks_1 : decode cX8_walks 1 = .ok (.getfield 49, 3) := by decide +kernel
theorem dX8_walks_4 : decode cX8_walks 4 = .ok (.iload_n 1, 1) := by decide +kernel
theorem dX8_walks_5 : decode cX8_walks 5 = .ok (.dup2, 1) := by decide +kernel
theorem dX8_walks_6 : decode cX8_walks 6 = .ok (.iaload, 1) := by decide +kernel
theorem dX8_walks_7 : decode cX8_walks 7 = .ok (.iconst 1, 1) := by decide +kernel
theorem dX8_walks_8 : decode cX8_walks 8 = .ok (.iadd, 1) := by decide +kernel
theorem dX8_walks_9 : decode cX8_walks 9 = .ok (.iastore, 1) := by decide +kernel
theorem dX8_walks_10 : decode cX8_walks 10 = .ok (.aload_n 0, 1) := by decide +kernel
theorem dX8_walks_11 : decode cX8_walks 11 = .ok (.getfield 49, 3) := by decide +kernel
theorem dX8_walks_14 : decode cX8_walks 14 = .ok (.iload_n 1, 1) := by decide +kernel
theorem dX8_walks_15 : decode cX8_walks 15 = .ok (.iaload, 1) := by decide +kernel
theorem dX8_walks_16 : decode cX8_walks 16 = .ok (.aload_n 0, 1) := by decide +kernel
theorem dX8_walks_17 : decode cX8_walks 17 = .ok (.iload_n 1, 1) := by decide +kernel
theorem dX8_walks_18 : decode cX8_walks 18 = .ok (.invokevirtual 200, 3) := by decide +kernel
theorem dX8_walks_21 : decode cX8_walks 21 = .ok (.if_icmp .ge 4, 3) := by decide +kernel
theorem dX8_walks_24 : decode cX8_walks 24 = .ok (.return_, 1) := by decide +kernel
theorem dX8_walks_25 : decode cX8_walks 25 = .ok (.aload_n 0, 1) := by decide +kernel
theorem dX8_walks_26 : decode cX8_walks 26 = .ok (.getfield 49, 3) := by decide +kernel
theorem dX8_walks_29 : decode cX8_walks 29 = .ok (.iload_n 1, 1) := by decide +kernel
theorem dX8_walks_30 : decode cX8_walks 30 = .ok (.iconst 0, 1) := by decide +kernel
theorem dX8_walks_31 : decode cX8_walks 31 = .ok (.iastore, 1) := by decide +kernel
theorem dX8_walks_32 : decode cX8_walks 32 = .ok (.aload_n 0, 1) := by decide +kernel
theorem dX8_walks_33 : decode cX8_walks 33 = .ok (.getfield 43, 3) := by decide +kernel
theorem dX8_walks_36 : decode cX8_walks 36 = .ok (.iload_n 1, 1) := by decide +kernel
theorem dX8_walks_37 : decode cX8_walks 37 = .ok (.dup2, 1) := by decide +kernel
theorem dX8_walks_38 : decode cX8_walks 38 = .ok (.iaload, 1) := by decide +kernel
theorem dX8_walks_39 : decode cX8_walks 39 = .ok (.aload_n 0, 1) := by decide +kernel
theorem dX8_walks_40 : decode cX8_walks 40 = .ok (.getfield 46, 3) := by decide +kernel
theorem dX8_walks_43 : decode cX8_walks 43 = .ok (.iload_n 1, 1) := by decide +kernel
theorem dX8_walks_44 : decode cX8_walks 44 = .ok (.iaload, 1) := by decide +kernel
theorem dX8_walks_45 : decode cX8_walks 45 = .ok (.ifCond .ne 7, 3) := by decide +kernel
theorem dX8_walks_48 : decode cX8_walks 48 = .ok (.iconst 1, 1) := by decide +kernel
theorem dX8_walks_49 : decode cX8_walks 49 = .ok (.goto 4, 3) := by decide +kernel
theorem dX8_walks_52 : decode cX8_walks 52 = .ok (.iconst (-1), 1) := by decide +kernel
theorem dX8_walks_53 : decode cX8_walks 53 = .ok (.iadd, 1) := by decide +kernel
theorem dX8_walks_54 : decode cX8_walks 54 = .ok (.iastore, 1) := by decide +kernel
theorem dX8_walks_55 : decode cX8_walks 55 = .ok (.aload_n 0, 1) := by decide +kernel
theorem dX8_walks_56 : decode cX8_walks 56 = .ok (.aload_n 0, 1) := by decide +kernel
theorem dX8_walks_57 : decode cX8_walks 57 = .ok (.getfield 19, 3) := by decide +kernel
theorem dX8_walks_60 : decode cX8_walks 60 = .ok (.iconst 2, 1) := by decide +kernel
theorem dX8_walks_61 : decode cX8_walks 61 = .ok (.iaload, 1) := by decide +kernel
theorem dX8_walks_62 : decode cX8_walks 62 = .ok (.aload_n 0, 1) := by decide +kernel
theorem dX8_walks_63 : decode cX8_walks 63 = .ok (.iload_n 1, 1) := by decide +kernel
theorem dX8_walks_64 : decode cX8_walks 64 = .ok (.invokevirtual 203, 3) := by decide +kernel
theorem dX8_walks_67 : decode cX8_walks 67 = .ok (.aload_n 0, 1) := by decide +kernel
theorem dX8_walks_68 : decode cX8_walks 68 = .ok (.getfield 43, 3) := by decide +kernel
theorem dX8_walks_71 : decode cX8_walks 71 = .ok (.iload_n 1, 1) := by decide +kernel
theorem dX8_walks_72 : decode cX8_walks 72 = .ok (.iaload, 1) := by decide +kernel
theorem dX8_walks_73 : decode cX8_walks 73 = .ok (.invokestatic 206, 3) := by decide +kernel
theorem dX8_walks_76 : decode cX8_walks 76 = .ok (.invokevirtual 210, 3) := by decide +kernel
theorem dX8_walks_79 : decode cX8_walks 79 = .ok (.aload_n 0, 1) := by decide +kernel
theorem dX8_walks_80 : decode cX8_walks 80 = .ok (.getfield 46, 3) := by decide +kernel
theorem dX8_walks_83 : decode cX8_walks 83 = .ok (.iload_n 1, 1) := by decide +kernel
theorem dX8_walks_84 : decode cX8_walks 84 = .ok (.iaload, 1) := by decide +kernel
theorem dX8_walks_85 : decode cX8_walks 85 = .ok (.ifCond .ne 36, 3) := by decide +kernel
theorem dX8_walks_88 : decode cX8_walks 88 = .ok (.aload_n 0, 1) := by decide +kernel
theorem dX8_walks_89 : decode cX8_walks 89 = .ok (.getfield 43, 3) := by decide +kernel
theorem dX8_walks_92 : decode cX8_walks 92 = .ok (.iload_n 1, 1) := by decide +kernel
theorem dX8_walks_93 : decode cX8_walks 93 = .ok (.iaload, 1) := by decide +kernel
theorem dX8_walks_94 : decode cX8_walks 94 = .ok (.aload_n 0, 1) := by decide +kernel
theorem dX8_walks_95 : decode cX8_walks 95 = .ok (.getfield 19, 3) := by decide +kernel
theorem dX8_walks_98 : decode cX8_walks 98 = .ok (.iconst 2, 1) := by decide +kernel
theorem dX8_walks_99 : decode cX8_walks 99 = .ok (.iaload, 1) := by decide +kernel
theorem dX8_walks_100 : decode cX8_walks 100 = .ok (.aload_n 0, 1) := by decide +kernel
theorem dX8_walks_101 : decode cX8_walks 101 = .ok (.iload_n 1, 1) := by decide +kernel
theorem dX8_walks_102 : decode cX8_walks 102 = .ok (.invokevirtual 203, 3) := by decide +kernel
theorem dX8_walks_105 : decode cX8_walks 105 = .ok (.invokestatic 197, 3) := by decide +kernel
theorem dX8_walks_108 : decode cX8_walks 108 = .ok (.if_icmp .ne 13, 3) := by decide +kernel
theorem dX8_walks_111 : decode cX8_walks 111 = .ok (.aload_n 0, 1) := by decide +kernel
theorem dX8_walks_112 : decode cX8_walks 112 = .ok (.getfield 46, 3) := by decide +kernel
theorem dX8_walks_115 : decode cX8_walks 115 = .ok (.iload_n 1, 1) := by decide +kernel
theorem dX8_walks_116 : decode cX8_walks 116 = .ok (.iconst 1, 1) := by decide +kernel
theorem dX8_walks_117 : decode cX8_walks 117 = .ok (.iastore, 1) := by decide +kernel
theorem dX8_walks_118 : decode cX8_walks 118 = .ok (.goto 36, 3) := by decide +kernel
theorem dX8_walks_121 : decode cX8_walks 121 = .ok (.aload_n 0, 1) := by decide +kernel
theorem dX8_walks_122 : decode cX8_walks 122 = .ok (.getfield 46, 3) := by decide +kernel
theorem dX8_walks_125 : decode cX8_walks 125 = .ok (.iload_n 1, 1) := by decide +kernel
theorem dX8_walks_126 : decode cX8_walks 126 = .ok (.iaload, 1) := by decide +kernel
theorem dX8_walks_127 : decode cX8_walks 127 = .ok (.iconst 2, 1) := by decide +kernel
theorem dX8_walks_128 : decode cX8_walks 128 = .ok (.if_icmp .ne 26, 3) := by decide +kernel
theorem dX8_walks_131 : decode cX8_walks 131 = .ok (.aload_n 0, 1) := by decide +kernel
theorem dX8_walks_132 : decode cX8_walks 132 = .ok (.getfield 43, 3) := by decide +kernel
theorem dX8_walks_135 : decode cX8_walks 135 = .ok (.iload_n 1, 1) := by decide +kernel
theorem dX8_walks_136 : decode cX8_walks 136 = .ok (.iaload, 1) := by decide +kernel
theorem dX8_walks_137 : decode cX8_walks 137 = .ok (.ifCond .ne 17, 3) := by decide +kernel
theorem dX8_walks_140 : decode cX8_walks 140 = .ok (.aload_n 0, 1) := by decide +kernel
theorem dX8_walks_141 : decode cX8_walks 141 = .ok (.getfield 46, 3) := by decide +kernel
theorem dX8_walks_144 : decode cX8_walks 144 = .ok (.iload_n 1, 1) := by decide +kernel
theorem dX8_walks_145 : decode cX8_walks 145 = .ok (.iconst 3, 1) := by decide +kernel
theorem dX8_walks_146 : decode cX8_walks 146 = .ok (.iastore, 1) := by decide +kernel
theorem dX8_walks_147 : decode cX8_walks 147 = .ok (.aload_n 0, 1) := by decide +kernel
theorem dX8_walks_148 : decode cX8_walks 148 = .ok (.getfield 58, 3) := by decide +kernel
theorem dX8_walks_151 : decode cX8_walks 151 = .ok (.iload_n 1, 1) := by decide +kernel
theorem dX8_walks_152 : decode cX8_walks 152 = .ok (.iload_n 2, 1) := by decide +kernel
theorem dX8_walks_153 : decode cX8_walks 153 = .ok (.iastore, 1) := by decide +kernel
theorem dX8_walks_154 : decode cX8_walks 154 = .ok (.return_, 1) := by decide +kernel
theorem dX8_picks_0 : decode cX8_picks 0 = .ok (.aload_n 0, 1) := by decide +kernel
theorem dX8_picks_1 : decode cX8_picks 1 = .ok (.getfield 49, 3) := by decide +kernel
theorem dX8_picks_4 : decode cX8_picks 4 = .ok (.iload_n 1, 1) := by decide +kernel
theorem dX8_picks_5 : decode cX8_picks 5 = .ok (.dup2, 1) := by decide +kernel
theorem dX8_picks_6 : decode cX8_picks 6 = .ok (.iaload, 1) := by decide +kernel
theorem dX8_picks_7 : decode cX8_picks 7 = .ok (.iconst 1, 1) := by decide +kernel
theorem dX8_picks_8 : decode cX8_picks 8 = .ok (.iadd, 1) := by decide +kernel
theorem dX8_picks_9 : decode cX8_picks 9 = .ok (.iastore, 1) := by decide +kernel
theorem dX8_picks_10 : decode cX8_picks 10 = .ok (.aload_n 0, 1) := by decide +kernel
theorem dX8_picks_11 : decode cX8_picks 11 = .ok (.getfield 49, 3) := by decide +kernel
theorem dX8_picks_14 : decode cX8_picks 14 = .ok (.iload_n 1, 1) := by decide +kernel
theorem dX8_picks_15 : decode cX8_picks 15 = .ok (.iaload, 1) := by decide +kernel
theorem dX8_picks_16 : decode cX8_picks 16 = .ok (.iconst 2, 1) := by decide +kernel
theorem dX8_picks_17 : decode cX8_picks 17 = .ok (.if_icmp .ge 4, 3) := by decide +kernel
theorem dX8_picks_20 : decode cX8_picks 20 = .ok (.return_, 1) := by decide +kernel
theorem dX8_picks_21 : decode cX8_picks 21 = .ok (.aload_n 0, 1) := by decide +kernel
theorem dX8_picks_22 : decode cX8_picks 22 = .ok (.getfield 49, 3) := by decide +kernel
theorem dX8_picks_25 : decode cX8_picks 25 = .ok (.iload_n 1, 1) := by decide +kernel
theorem dX8_picks_26 : decode cX8_picks 26 = .ok (.iconst 0, 1) := by decide +kernel
theorem dX8_picks_27 : decode cX8_picks 27 = .ok (.iastore, 1) := by decide +kernel
theorem dX8_picks_28 : decode cX8_picks 28 = .ok (.aload_n 0, 1) := by decide +kernel
theorem dX8_picks_29 : decode cX8_picks 29 = .ok (.getfield 31, 3) := by decide +kernel
theorem dX8_picks_32 : decode cX8_picks 32 = .ok (.iload_n 1, 1) := by decide +kernel
theorem dX8_picks_33 : decode cX8_picks 33 = .ok (.iaload, 1) := by decide +kernel
theorem dX8_picks_34 : decode cX8_picks 34 = .ok (.istore_n 2, 1) := by decide +kernel
theorem dX8_picks_35 : decode cX8_picks 35 = .ok (.aload_n 0, 1) := by decide +kernel
theorem dX8_picks_36 : decode cX8_picks 36 = .ok (.getfield 40, 3) := by decide +kernel
theorem dX8_picks_39 : decode cX8_picks 39 = .ok (.iload_n 2, 1) := by decide +kernel
theorem dX8_picks_40 : decode cX8_picks 40 = .ok (.iaload, 1) := by decide +kernel
theorem dX8_picks_41 : decode cX8_picks 41 = .ok (.ifCond .le 68, 3) := by decide +kernel
theorem dX8_picks_44 : decode cX8_picks 44 = .ok (.aload_n 0, 1) := by decide +kernel
theorem dX8_picks_45 : decode cX8_picks 45 = .ok (.getfield 40, 3) := by decide +kernel
theorem dX8_picks_48 : decode cX8_picks 48 = .ok (.iload_n 2, 1) := by decide +kernel
theorem dX8_picks_49 : decode cX8_picks 49 = .ok (.dup2, 1) := by decide +kernel
theorem dX8_picks_50 : decode cX8_picks 50 = .ok (.iaload, 1) := by decide +kernel
theorem dX8_picks_51 : decode cX8_picks 51 = .ok (.iconst 1, 1) := by decide +kernel
theorem dX8_picks_52 : decode cX8_picks 52 = .ok (.isub, 1) := by decide +kernel
theorem dX8_picks_53 : decode cX8_picks 53 = .ok (.iastore, 1) := by decide +kernel
theorem dX8_picks_54 : decode cX8_picks 54 = .ok (.aload_n 0, 1) := by decide +kernel
theorem dX8_picks_55 : decode cX8_picks 55 = .ok (.dup, 1) := by decide +kernel
theorem dX8_picks_56 : decode cX8_picks 56 = .ok (.getfield 194, 3) := by decide +kernel
theorem dX8_picks_59 : decode cX8_picks 59 = .ok (.iconst 1, 1) := by decide +kernel
theorem dX8_picks_60 : decode cX8_picks 60 = .ok (.aload_n 0, 1) := by decide +kernel
theorem dX8_picks_61 : decode cX8_picks 61 = .ok (.getfield 37, 3) := by decide +kernel
theorem dX8_picks_64 : decode cX8_picks 64 = .ok (.iload_n 1, 1) := by decide +kernel
theorem dX8_picks_65 : decode cX8_picks 65 = .ok (.iaload, 1) := by decide +kernel
theorem dX8_picks_66 : decode cX8_picks 66 = .ok (.iadd, 1) := by decide +kernel
theorem dX8_picks_67 : decode cX8_picks 67 = .ok (.iadd, 1) := by decide +kernel
theorem dX8_picks_68 : decode cX8_picks 68 = .ok (.putfield 194, 3) := by decide +kernel
theorem dX8_picks_71 : decode cX8_picks 71 = .ok (.aload_n 0, 1) := by decide +kernel
theorem dX8_picks_72 : decode cX8_picks 72 = .ok (.getfield 52, 3) := by decide +kernel
theorem dX8_picks_75 : decode cX8_picks 75 = .ok (.iload_n 1, 1) := by decide +kernel
theorem dX8_picks_76 : decode cX8_picks 76 = .ok (.dup2, 1) := by decide +kernel
theorem dX8_picks_77 : decode cX8_picks 77 = .ok (.iaload, 1) := by decide +kernel
theorem dX8_picks_78 : decode cX8_picks 78 = .ok (.aload_n 0, 1) := by decide +kernel
theorem dX8_picks_79 : decode cX8_picks 79 = .ok (.getfield 37, 3) := by decide +kernel
theorem dX8_picks_82 : decode cX8_picks 82 = .ok (.iload_n 1, 1) := by decide +kernel
theorem dX8_picks_83 : decode cX8_picks 83 = .ok (.iaload, 1) := by decide +kernel
theorem dX8_picks_84 : decode cX8_picks 84 = .ok (.ifCond .ne 7, 3) := by decide +kernel
theorem dX8_picks_87 : decode cX8_picks 87 = .ok (.iconst 1, 1) := by decide +kernel
theorem dX8_picks_88 : decode cX8_picks 88 = .ok (.goto 4, 3) := by decide +kernel
theorem dX8_picks_91 : decode cX8_picks 91 = .ok (.iconst 0, 1) := by decide +kernel
theorem dX8_picks_92 : decode cX8_picks 92 = .ok (.iadd, 1) := by decide +kernel
theorem dX8_picks_93 : decode cX8_picks 93 = .ok (.iastore, 1) := by decide +kernel
theorem dX8_picks_94 : decode cX8_picks 94 = .ok (.aload_n 0, 1) := by decide +kernel
theorem dX8_picks_95 : decode cX8_picks 95 = .ok (.getfield 55, 3) := by decide +kernel
theorem dX8_picks_98 : decode cX8_picks 98 = .ok (.iload_n 1, 1) := by decide +kernel
theorem dX8_picks_99 : decode cX8_picks 99 = .ok (.dup2, 1) := by decide +kernel
theorem dX8_picks_100 : decode cX8_picks 100 = .ok (.iaload, 1) := by decide +kernel
theorem dX8_picks_101 : decode cX8_picks 101 = .ok (.aload_n 0, 1) := by decide +kernel
theorem dX8_picks_102 : decode cX8_picks 102 = .ok (.getfield 37, 3) := by decide +kernel
theorem dX8_picks_105 : decode cX8_picks 105 = .ok (.iload_n 1, 1) := by decide +kernel
theorem dX8_picks_106 : decode cX8_picks 106 = .ok (.iaload, 1) := by decide +kernel
theorem dX8_picks_107 : decode cX8_picks 107 = .ok (.iadd, 1) := by decide +kernel
theorem dX8_picks_108 : decode cX8_picks 108 = .ok (.iastore, 1) := by decide +kernel
theorem dX8_picks_109 : decode cX8_picks 109 = .ok (.aload_n 0, 1) := by decide +kernel
theorem dX8_picks_110 : decode cX8_picks 110 = .ok (.getfield 52, 3) := by decide +kernel
theorem dX8_picks_113 : decode cX8_picks 113 = .ok (.iload_n 1, 1) := by decide +kernel
theorem dX8_picks_114 : decode cX8_picks 114 = .ok (.iaload, 1) := by decide +kernel
theorem dX8_picks_115 : decode cX8_picks 115 = .ok (.aload_n 0, 1) := by decide +kernel
theorem dX8_picks_116 : decode cX8_picks 116 = .ok (.getfield 55, 3) := by decide +kernel
theorem dX8_picks_119 : decode cX8_picks 119 = .ok (.iload_n 1, 1) := by decide +kernel
theorem dX8_picks_120 : decode cX8_picks 120 = .ok (.iaload, 1) := by decide +kernel
theorem dX8_picks_121 : decode cX8_picks 121 = .ok (.iadd, 1) := by decide +kernel
theorem dX8_picks_122 : decode cX8_picks 122 = .ok (.aload_n 0, 1) := by decide +kernel
theorem dX8_picks_123 : decode cX8_picks 123 = .ok (.getfield 34, 3) := by decide +kernel
theorem dX8_picks_126 : decode cX8_picks 126 = .ok (.iload_n 1, 1) := by decide +kernel
theorem dX8_picks_127 : decode cX8_picks 127 = .ok (.iaload, 1) := by decide +kernel
theorem dX8_picks_128 : decode cX8_picks 128 = .ok (.if_icmp .ge 27, 3) := by decide +kernel
theorem dX8_picks_131 : decode cX8_picks 131 = .ok (.aload_n 0, 1) := by decide +kernel
theorem dX8_picks_132 : decode cX8_picks 132 = .ok (.getfield 52, 3) := by decide +kernel
theorem dX8_picks_135 : decode cX8_picks 135 = .ok (.iload_n 1, 1) := by decide +kernel
theorem dX8_picks_136 : decode cX8_picks 136 = .ok (.iaload, 1) := by decide +kernel
theorem dX8_picks_137 : decode cX8_picks 137 = .ok (.aload_n 0, 1) := by decide +kernel
theorem dX8_picks_138 : decode cX8_picks 138 = .ok (.iload_n 1, 1) := by decide +kernel
theorem dX8_picks_139 : decode cX8_picks 139 = .ok (.iconst 1, 1) := by decide +kernel
theorem dX8_picks_140 : decode cX8_picks 140 = .ok (.invokevirtual 188, 3) := by decide +kernel
theorem dX8_picks_143 : decode cX8_picks 143 = .ok (.if_icmp .eq 12, 3) := by decide +kernel
theorem dX8_picks_146 : decode cX8_picks 146 = .ok (.aload_n 0, 1) := by decide +kernel
theorem dX8_picks_147 : decode cX8_picks 147 = .ok (.getfield 40, 3) := by decide +kernel
theorem dX8_picks_150 : decode cX8_picks 150 = .ok (.iload_n 2, 1) := by decide +kernel
theorem dX8_picks_151 : decode cX8_picks 151 = .ok (.iaload, 1) := by decide +kernel
theorem dX8_picks_152 : decode cX8_picks 152 = .ok (.ifCond .ne 10, 3) := by decide +kernel
theorem dX8_picks_155 : decode cX8_picks 155 = .ok (.aload_n 0, 1) := by decide +kernel
theorem dX8_picks_156 : decode cX8_picks 156 = .ok (.getfield 46, 3) := by decide +kernel
theorem dX8_picks_159 : decode cX8_picks 159 = .ok (.iload_n 1, 1) := by decide +kernel
theorem dX8_picks_160 : decode cX8_picks 160 = .ok (.iconst 2, 1) := by decide +kernel
theorem dX8_picks_161 : decode cX8_picks 161 = .ok (.iastore, 1) := by decide +kernel
theorem dX8_picks_162 : decode cX8_picks 162 = .ok (.return_, 1) := by decide +kernel
theorem dX8_isOver_0 : decode cX8_isOver 0 = .ok (.iconst 1, 1) := by decide +kernel
theorem dX8_isOver_1 : decode cX8_isOver 1 = .ok (.istore_n 1, 1) := by decide +kernel
theorem dX8_isOver_2 : decode cX8_isOver 2 = .ok (.iconst 0, 1) := by decide +kernel
theorem dX8_isOver_3 : decode cX8_isOver 3 = .ok (.istore_n 2, 1) := by decide +kernel
theorem dX8_isOver_4 : decode cX8_isOver 4 = .ok (.iload_n 2, 1) := by decide +kernel
theorem dX8_isOver_5 : decode cX8_isOver 5 = .ok (.iconst 4, 1) := by decide +kernel
theorem dX8_isOver_6 : decode cX8_isOver 6 = .ok (.if_icmp .ge 29, 3) := by decide +kernel
theorem dX8_isOver_9 : decode cX8_isOver 9 = .ok (.iload_n 1, 1) := by decide +kernel
theorem dX8_isOver_10 : decode cX8_isOver 10 = .ok (.ifCond .eq 17, 3) := by decide +kernel
theorem dX8_isOver_13 : decode cX8_isOver 13 = .ok (.aload_n 0, 1) := by decide +kernel
theorem dX8_isOver_14 : decode cX8_isOver 14 = .ok (.getfield 46, 3) := by decide +kernel
theorem dX8_isOver_17 : decode cX8_isOver 17 = .ok (.iload_n 2, 1) := by decide +kernel
theorem dX8_isOver_18 : decode cX8_isOver 18 = .ok (.iaload, 1) := by decide +kernel
theorem dX8_isOver_19 : decode cX8_isOver 19 = .ok (.iconst 3, 1) := by decide +kernel
theorem dX8_isOver_20 : decode cX8_isOver 20 = .ok (.if_icmp .lt 7, 3) := by decide +kernel
theorem dX8_isOver_23 : decode cX8_isOver 23 = .ok (.iconst 1, 1) := by decide +kernel
theorem dX8_isOver_24 : decode cX8_isOver 24 = .ok (.goto 4, 3) := by decide +kernel
theorem dX8_isOver_27 : decode cX8_isOver 27 = .ok (.iconst 0, 1) := by decide +kernel
theorem dX8_isOver_28 : decode cX8_isOver 28 = .ok (.istore_n 1, 1) := by decide +kernel
theorem dX8_isOver_29 : decode cX8_isOver 29 = .ok (.iinc 2 1, 3) := by decide +kernel
theorem dX8_isOver_32 : decode cX8_isOver 32 = .ok (.goto (-28), 3) := by decide +kernel
theorem dX8_isOver_35 : decode cX8_isOver 35 = .ok (.iload_n 1, 1) := by decide +kernel
theorem dX8_isOver_36 : decode cX8_isOver 36 = .ok (.ireturn, 1) := by decide +kernel
theorem dX8_hears_0 : decode cX8_hears 0 = .ok (.aload_n 0, 1) := by decide +kernel
theorem dX8_hears_1 : decode cX8_hears 1 = .ok (.getfield 194, 3) := by decide +kernel
theorem dX8_hears_4 : decode cX8_hears 4 = .ok (.aload_n 0, 1) := by decide +kernel
theorem dX8_hears_5 : decode cX8_hears 5 = .ok (.getfield 19, 3) := by decide +kernel
theorem dX8_hears_8 : decode cX8_hears 8 = .ok (.iconst 3, 1) := by decide +kernel
theorem dX8_hears_9 : decode cX8_hears 9 = .ok (.iaload, 1) := by decide +kernel
theorem dX8_hears_10 : decode cX8_hears 10 = .ok (.if_icmp .lt 17, 3) := by decide +kernel
theorem dX8_hears_13 : decode cX8_hears 13 = .ok (.aload_n 0, 1) := by decide +kernel
theorem dX8_hears_14 : decode cX8_hears 14 = .ok (.getfield 213, 3) := by decide +kernel
theorem dX8_hears_17 : decode cX8_hears 17 = .ok (.ldc 61, 2) := by decide +kernel
theorem dX8_hears_19 : decode cX8_hears 19 = .ok (.if_icmp .ne 8, 3) := by decide +kernel
theorem dX8_hears_22 : decode cX8_hears 22 = .ok (.aload_n 0, 1) := by decide +kernel
theorem dX8_hears_23 : decode cX8_hears 23 = .ok (.iload_n 1, 1) := by decide +kernel
theorem dX8_hears_24 : decode cX8_hears 24 = .ok (.putfield 213, 3) := by decide +kernel
theorem dX8_hears_27 : decode cX8_hears 27 = .ok (.aload_n 0, 1) := by decide +kernel
theorem dX8_hears_28 : decode cX8_hears 28 = .ok (.getfield 213, 3) := by decide +kernel
theorem dX8_hears_31 : decode cX8_hears 31 = .ok (.ldc 61, 2) := by decide +kernel
theorem dX8_hears_33 : decode cX8_hears 33 = .ok (.if_icmp .eq 100, 3) := by decide +kernel
theorem dX8_hears_36 : decode cX8_hears 36 = .ok (.iload_n 1, 1) := by decide +kernel
theorem dX8_hears_37 : decode cX8_hears 37 = .ok (.aload_n 0, 1) := by decide +kernel
theorem dX8_hears_38 : decode cX8_hears 38 = .ok (.getfield 213, 3) := by decide +kernel
theorem dX8_hears_41 : decode cX8_hears 41 = .ok (.isub, 1) := by decide +kernel
theorem dX8_hears_42 : decode cX8_hears 42 = .ok (.aload_n 0, 1) := by decide +kernel
theorem dX8_hears_43 : decode cX8_hears 43 = .ok (.getfield 216, 3) := by decide +kernel
theorem dX8_hears_46 : decode cX8_hears 46 = .ok (.if_icmp .ne 87, 3) := by decide +kernel
theorem dX8_hears_49 : decode cX8_hears 49 = .ok (.iconst 0, 1) := by decide +kernel
theorem dX8_hears_50 : decode cX8_hears 50 = .ok (.istore_n 2, 1) := by decide +kernel
theorem dX8_hears_51 : decode cX8_hears 51 = .ok (.iload_n 2, 1) := by decide +kernel
theorem dX8_hears_52 : decode cX8_hears 52 = .ok (.iconst 4, 1) := by decide +kernel
theorem dX8_hears_53 : decode cX8_hears 53 = .ok (.if_icmp .ge 80, 3) := by decide +kernel
theorem dX8_hears_56 : decode cX8_hears 56 = .ok (.aload_n 0, 1) := by decide +kernel
theorem dX8_hears_57 : decode cX8_hears 57 = .ok (.getfield 46, 3) := by decide +kernel
theorem dX8_hears_60 : decode cX8_hears 60 = .ok (.iload_n 2, 1) := by decide +kernel
theorem dX8_hears_61 : decode cX8_hears 61 = .ok (.iaload, 1) := by decide +kernel
theorem dX8_hears_62 : decode cX8_hears 62 = .ok (.ifCond .eq 13, 3) := by decide +kernel
theorem dX8_hears_65 : decode cX8_hears 65 = .ok (.aload_n 0, 1) := by decide +kernel
theorem dX8_hears_66 : decode cX8_hears 66 = .ok (.getfield 46, 3) := by decide +kernel
theorem dX8_hears_69 : decode cX8_hears 69 = .ok (.iload_n 2, 1) := by decide +kernel
theorem dX8_hears_70 : decode cX8_hears 70 = .ok (.iaload, 1) := by decide +kernel
theorem dX8_hears_71 : decode cX8_hears 71 = .ok (.iconst 1, 1) := by decide +kernel
theorem dX8_hears_72 : decode cX8_hears 72 = .ok (.if_icmp .ne 55, 3) := by decide +kernel
theorem dX8_hears_75 : decode cX8_hears 75 = .ok (.aload_n 0, 1) := by decide +kernel
theorem dX8_hears_76 : decode cX8_hears 76 = .ok (.getfield 46, 3) := by decide +kernel
theorem dX8_hears_79 : decode cX8_hears 79 = .ok (.iload_n 2, 1) := by decide +kernel
theorem dX8_hears_80 : decode cX8_hears 80 = .ok (.aload_n 0, 1) := by decide +kernel
theorem dX8_hears_81 : decode cX8_hears 81 = .ok (.getfield 43, 3) := by decide +kernel
theorem dX8_hears_84 : decode cX8_hears 84 = .ok (.iload_n 2, 1) := by decide +kernel
theorem dX8_hears_85 : decode cX8_hears 85 = .ok (.iaload, 1) := by decide +kernel
theorem dX8_hears_86 : decode cX8_hears 86 = .ok (.ifCond .ne 7, 3) := by decide +kernel
theorem dX8_hears_89 : decode cX8_hears 89 = .ok (.iconst 3, 1) := by decide +kernel
theorem dX8_hears_90 : decode cX8_hears 90 = .ok (.goto 4, 3) := by decide +kernel
theorem dX8_hears_93 : decode cX8_hears 93 = .ok (.iconst 2, 1) := by decide +kernel
theorem dX8_hears_94 : decode cX8_hears 94 = .ok (.iastore, 1) := by decide +kernel
theorem dX8_hears_95 : decode cX8_hears 95 = .ok (.aload_n 0, 1) := by decide +kernel
theorem dX8_hears_96 : decode cX8_hears 96 = .ok (.getfield 58, 3) := by decide +kernel
theorem dX8_hears_99 : decode cX8_hears 99 = .ok (.iload_n 2, 1) := by decide +kernel
theorem dX8_hears_100 : decode cX8_hears 100 = .ok (.aload_n 0, 1) := by decide +kernel
theorem dX8_hears_101 : decode cX8_hears 101 = .ok (.getfield 43, 3) := by decide +kernel
theorem dX8_hears_104 : decode cX8_hears 104 = .ok (.iload_n 2, 1) := by decide +kernel
theorem dX8_hears_105 : decode cX8_hears 105 = .ok (.iaload, 1) := by decide +kernel
theorem dX8_hears_106 : decode cX8_hears 106 = .ok (.ifCond .ne 7, 3) := by decide +kernel
theorem dX8_hears_109 : decode cX8_hears 109 = .ok (.iload_n 1, 1) := by decide +kernel
theorem dX8_hears_110 : decode cX8_hears 110 = .ok (.goto 9, 3) := by decide +kernel
theorem dX8_hears_113 : decode cX8_hears 113 = .ok (.aload_n 0, 1) := by decide +kernel
theorem dX8_hears_114 : decode cX8_hears 114 = .ok (.getfield 58, 3) := by decide +kernel
theorem dX8_hears_117 : decode cX8_hears 117 = .ok (.iload_n 2, 1) := by decide +kernel
theorem dX8_hears_118 : decode cX8_hears 118 = .ok (.iaload, 1) := by decide +kernel
theorem dX8_hears_119 : decode cX8_hears 119 = .ok (.iastore, 1) := by decide +kernel
theorem dX8_hears_120 : decode cX8_hears 120 = .ok (.aload_n 0, 1) := by decide +kernel
theorem dX8_hears_121 : decode cX8_hears 121 = .ok (.getfield 49, 3) := by decide +kernel
theorem dX8_hears_124 : decode cX8_hears 124 = .ok (.iload_n 2, 1) := by decide +kernel
theorem dX8_hears_125 : decode cX8_hears 125 = .ok (.iconst 0, 1) := by decide +kernel
theorem dX8_hears_126 : decode cX8_hears 126 = .ok (.iastore, 1) := by decide +kernel
theorem dX8_hears_127 : decode cX8_hears 127 = .ok (.iinc 2 1, 3) := by decide +kernel
theorem dX8_hears_130 : decode cX8_hears 130 = .ok (.goto (-79), 3) := by decide +kernel
theorem dX8_hears_133 : decode cX8_hears 133 = .ok (.aload_n 0, 1) := by decide +kernel
theorem dX8_hears_134 : decode cX8_hears 134 = .ok (.getfield 213, 3) := by decide +kernel
theorem dX8_hears_137 : decode cX8_hears 137 = .ok (.ldc 61, 2) := by decide +kernel
theorem dX8_hears_139 : decode cX8_hears 139 = .ok (.if_icmp .eq 38, 3) := by decide +kernel
theorem dX8_hears_142 : decode cX8_hears 142 = .ok (.iload_n 1, 1) := by decide +kernel
theorem dX8_hears_143 : decode cX8_hears 143 = .ok (.aload_n 0, 1) := by decide +kernel
theorem dX8_hears_144 : decode cX8_hears 144 = .ok (.getfield 213, 3) := by decide +kernel
theorem dX8_hears_147 : decode cX8_hears 147 = .ok (.isub, 1) := by decide +kernel
theorem dX8_hears_148 : decode cX8_hears 148 = .ok (.aload_n 0, 1) := by decide +kernel
theorem dX8_hears_149 : decode cX8_hears 149 = .ok (.getfield 19, 3) := by decide +kernel
theorem dX8_hears_152 : decode cX8_hears 152 = .ok (.iconst 5, 1) := by decide +kernel
theorem dX8_hears_153 : decode cX8_hears 153 = .ok (.iaload, 1) := by decide +kernel
theorem dX8_hears_154 : decode cX8_hears 154 = .ok (.aload_n 0, 1) := by decide +kernel
theorem dX8_hears_155 : decode cX8_hears 155 = .ok (.getfield 19, 3) := by decide +kernel
theorem dX8_hears_158 : decode cX8_hears 158 = .ok (.iconst 1, 1) := by decide +kernel
theorem dX8_hears_159 : decode cX8_hears 159 = .ok (.iaload, 1) := by decide +kernel
theorem dX8_hears_160 : decode cX8_hears 160 = .ok (.aload_n 0, 1) := by decide +kernel
theorem dX8_hears_161 : decode cX8_hears 161 = .ok (.getfield 19, 3) := by decide +kernel
theorem dX8_hears_164 : decode cX8_hears 164 = .ok (.iconst 2, 1) := by decide +kernel
theorem dX8_hears_165 : decode cX8_hears 165 = .ok (.iaload, 1) := by decide +kernel
theorem dX8_hears_166 : decode cX8_hears 166 = .ok (.invokestatic 197, 3) := by decide +kernel
theorem dX8_hears_169 : decode cX8_hears 169 = .ok (.iadd, 1) := by decide +kernel
theorem dX8_hears_170 : decode cX8_hears 170 = .ok (.if_icmp .ne 7, 3) := by decide +kernel
theorem dX8_hears_173 : decode cX8_hears 173 = .ok (.iconst 1, 1) := by decide +kernel
theorem dX8_hears_174 : decode cX8_hears 174 = .ok (.goto 4, 3) := by decide +kernel
theorem dX8_hears_177 : decode cX8_hears 177 = .ok (.iconst 0, 1) := by decide +kernel
theorem dX8_hears_178 : decode cX8_hears 178 = .ok (.istore_n 2, 1) := by decide +kernel
theorem dX8_hears_179 : decode cX8_hears 179 = .ok (.iconst 0, 1) := by decide +kernel
theorem dX8_hears_180 : decode cX8_hears 180 = .ok (.istore_n 3, 1) := by decide +kernel
theorem dX8_hears_181 : decode cX8_hears 181 = .ok (.iload_n 3, 1) := by decide +kernel
theorem dX8_hears_182 : decode cX8_hears 182 = .ok (.iconst 4, 1) := by decide +kernel
theorem dX8_hears_183 : decode cX8_hears 183 = .ok (.if_icmp .ge 46, 3) := by decide +kernel
theorem dX8_hears_186 : decode cX8_hears 186 = .ok (.iload_n 2, 1) := by decide +kernel
theorem dX8_hears_187 : decode cX8_hears 187 = .ok (.ifCond .ne 10, 3) := by decide +kernel
theorem dX8_hears_190 : decode cX8_hears 190 = .ok (.iload_n 1, 1) := by decide +kernel
theorem dX8_hears_191 : decode cX8_hears 191 = .ok (.sipush 150, 3) := by decide +kernel
theorem dX8_hears_194 : decode cX8_hears 194 = .ok (.if_icmp .ne 35, 3) := by decide +kernel
theorem dX8_hears_197 : decode cX8_hears 197 = .ok (.aload_n 0, 1) := by decide +kernel
theorem dX8_hears_198 : decode cX8_hears 198 = .ok (.getfield 46, 3) := by decide +kernel
theorem dX8_hears_201 : decode cX8_hears 201 = .ok (.iload_n 3, 1) := by decide +kernel
theorem dX8_hears_202 : decode cX8_hears 202 = .ok (.aload_n 0, 1) := by decide +kernel
theorem dX8_hears_203 : decode cX8_hears 203 = .ok (.getfield 46, 3) := by decide +kernel
theorem dX8_hears_206 : decode cX8_hears 206 = .ok (.iload_n 3, 1) := by decide +kernel
theorem dX8_hears_207 : decode cX8_hears 207 = .ok (.iaload, 1) := by decide +kernel
theorem dX8_hears_208 : decode cX8_hears 208 = .ok (.iconst 3, 1) := by decide +kernel
theorem dX8_hears_209 : decode cX8_hears 209 = .ok (.if_icmp .ge 7, 3) := by decide +kernel
theorem dX8_hears_212 : decode cX8_hears 212 = .ok (.iconst 4, 1) := by decide +kernel
theorem dX8_hears_213 : decode cX8_hears 213 = .ok (.goto 9, 3) := by decide +kernel
theorem dX8_hears_216 : decode cX8_hears 216 = .ok (.aload_n 0, 1) := by decide +kernel
theorem dX8_hears_217 : decode cX8_hears 217 = .ok (.getfield 46, 3) := by decide +kernel
theorem dX8_hears_220 : decode cX8_hears 220 = .ok (.iload_n 3, 1) := by decide +kernel
theorem dX8_hears_221 : decode cX8_hears 221 = .ok (.iaload, 1) := by decide +kernel
theorem dX8_hears_222 : decode cX8_hears 222 = .ok (.iastore, 1) := by decide +kernel
theorem dX8_hears_223 : decode cX8_hears 223 = .ok (.iinc 3 1, 3) := by decide +kernel
theorem dX8_hears_226 : decode cX8_hears 226 = .ok (.goto (-45), 3) := by decide +kernel
theorem dX8_hears_229 : decode cX8_hears 229 = .ok (.return_, 1) := by decide +kernel
theorem dX8_raidOf_0 : decode cX8_raidOf 0 = .ok (.aload_n 0, 1) := by decide +kernel
theorem dX8_raidOf_1 : decode cX8_raidOf 1 = .ok (.iconst 0, 1) := by decide +kernel
theorem dX8_raidOf_2 : decode cX8_raidOf 2 = .ok (.putfield 194, 3) := by decide +kernel
theorem dX8_raidOf_5 : decode cX8_raidOf 5 = .ok (.aload_n 0, 1) := by decide +kernel
theorem dX8_raidOf_6 : decode cX8_raidOf 6 = .ok (.ldc 61, 2) := by decide +kernel
theorem dX8_raidOf_8 : decode cX8_raidOf 8 = .ok (.putfield 213, 3) := by decide +kernel
theorem dX8_raidOf_11 : decode cX8_raidOf 11 = .ok (.aload_n 0, 1) := by decide +kernel
theorem dX8_raidOf_12 : decode cX8_raidOf 12 = .ok (.iconst 0, 1) := by decide +kernel
theorem dX8_raidOf_13 : decode cX8_raidOf 13 = .ok (.putfield 219, 3) := by decide +kernel
theorem dX8_raidOf_16 : decode cX8_raidOf 16 = .ok (.aload_n 0, 1) := by decide +kernel
theorem dX8_raidOf_17 : decode cX8_raidOf 17 = .ok (.aload_n 0, 1) := by decide +kernel
theorem dX8_raidOf_18 : decode cX8_raidOf 18 = .ok (.getfield 19, 3) := by decide +kernel
theorem dX8_raidOf_21 : decode cX8_raidOf 21 = .ok (.iconst 4, 1) := by decide +kernel
theorem dX8_raidOf_22 : decode cX8_raidOf 22 = .ok (.iaload, 1) := by decide +kernel
theorem dX8_raidOf_23 : decode cX8_raidOf 23 = .ok (.putfield 216, 3) := by decide +kernel
theorem dX8_raidOf_26 : decode cX8_raidOf 26 = .ok (.iconst 0, 1) := by decide +kernel
theorem dX8_raidOf_27 : decode cX8_raidOf 27 = .ok (.istore_n 2, 1) := by decide +kernel
theorem dX8_raidOf_28 : decode cX8_raidOf 28 = .ok (.iload_n 2, 1) := by decide +kernel
theorem dX8_raidOf_29 : decode cX8_raidOf 29 = .ok (.iconst 4, 1) := by decide +kernel
theorem dX8_raidOf_30 : decode cX8_raidOf 30 = .ok (.if_icmp .ge 95, 3) := by decide +kernel
theorem dX8_raidOf_33 : decode cX8_raidOf 33 = .ok (.iload_n 2, 1) := by decide +kernel
theorem dX8_raidOf_34 : decode cX8_raidOf 34 = .ok (.aload_n 0, 1) := by decide +kernel
theorem dX8_raidOf_35 : decode cX8_raidOf 35 = .ok (.getfield 19, 3) := by decide +kernel
theorem dX8_raidOf_38 : decode cX8_raidOf 38 = .ok (.bipush 8, 2) := by decide +kernel
theorem dX8_raidOf_40 : decode cX8_raidOf 40 = .ok (.iaload, 1) := by decide +kernel
theorem dX8_raidOf_41 : decode cX8_raidOf 41 = .ok (.if_icmp .ge 16, 3) := by decide +kernel
theorem dX8_raidOf_44 : decode cX8_raidOf 44 = .ok (.iload_n 1, 1) := by decide +kernel
theorem dX8_raidOf_45 : decode cX8_raidOf 45 = .ok (.iload_n 2, 1) := by decide +kernel
theorem dX8_raidOf_46 : decode cX8_raidOf 46 = .ok (.ishr, 1) := by decide +kernel
theorem dX8_raidOf_47 : decode cX8_raidOf 47 = .ok (.iconst 1, 1) := by decide +kernel
theorem dX8_raidOf_48 : decode cX8_raidOf 48 = .ok (.iand, 1) := by decide +kernel
theorem dX8_raidOf_49 : decode cX8_raidOf 49 = .ok (.iconst 1, 1) := by decide +kernel
theorem dX8_raidOf_50 : decode cX8_raidOf 50 = .ok (.if_icmp .ne 7, 3) := by decide +kernel
theorem dX8_raidOf_53 : decode cX8_raidOf 53 = .ok (.iconst 1, 1) := by decide +kernel
theorem dX8_raidOf_54 : decode cX8_raidOf 54 = .ok (.goto 4, 3) := by decide +kernel
theorem dX8_raidOf_57 : decode cX8_raidOf 57 = .ok (.iconst 0, 1) := by decide +kernel
theorem dX8_raidOf_58 : decode cX8_raidOf 58 = .ok (.istore_n 3, 1) := by decide +kernel
theorem dX8_raidOf_59 : decode cX8_raidOf 59 = .ok (.aload_n 0, 1) := by decide +kernel
theorem dX8_raidOf_60 : decode cX8_raidOf 60 = .ok (.getfield 46, 3) := by decide +kernel
theorem dX8_raidOf_63 : decode cX8_raidOf 63 = .ok (.iload_n 2, 1) := by decide +kernel
theorem dX8_raidOf_64 : decode cX8_raidOf 64 = .ok (.iload_n 3, 1) := by decide +kernel
theorem dX8_raidOf_65 : decode cX8_raidOf 65 = .ok (.ifCond .eq 16, 3) := by decide +kernel
theorem dX8_raidOf_68 : decode cX8_raidOf 68 = .ok (.aload_n 0, 1) := by decide +kernel
theorem dX8_raidOf_69 : decode cX8_raidOf 69 = .ok (.getfield 31, 3) := by decide +kernel
theorem dX8_raidOf_72 : decode cX8_raidOf 72 = .ok (.iload_n 2, 1) := by decide +kernel
theorem dX8_raidOf_73 : decode cX8_raidOf 73 = .ok (.iaload, 1) := by decide +kernel
theorem dX8_raidOf_74 : decode cX8_raidOf 74 = .ok (.ifCond .lt 7, 3) := by decide +kernel
theorem dX8_raidOf_77 : decode cX8_raidOf 77 = .ok (.iconst 0, 1) := by decide +kernel
theorem dX8_raidOf_78 : decode cX8_raidOf 78 = .ok (.goto 4, 3) := by decide +kernel
theorem dX8_raidOf_81 : decode cX8_raidOf 81 = .ok (.iconst 5, 1) := by decide +kernel
theorem dX8_raidOf_82 : decode cX8_raidOf 82 = .ok (.iastore, 1) := by decide +kernel
theorem dX8_raidOf_83 : decode cX8_raidOf 83 = .ok (.aload_n 0, 1) := by decide +kernel
theorem dX8_raidOf_84 : decode cX8_raidOf 84 = .ok (.getfield 43, 3) := by decide +kernel
theorem dX8_raidOf_87 : decode cX8_raidOf 87 = .ok (.iload_n 2, 1) := by decide +kernel
theorem dX8_raidOf_88 : decode cX8_raidOf 88 = .ok (.iconst 0, 1) := by decide +kernel
theorem dX8_raidOf_89 : decode cX8_raidOf 89 = .ok (.iastore, 1) := by decide +kernel
theorem dX8_raidOf_90 : decode cX8_raidOf 90 = .ok (.aload_n 0, 1) := by decide +kernel
theorem dX8_raidOf_91 : decode cX8_raidOf 91 = .ok (.getfield 49, 3) := by decide +kernel
theorem dX8_raidOf_94 : decode cX8_raidOf 94 = .ok (.iload_n 2, 1) := by decide +kernel
theorem dX8_raidOf_95 : decode cX8_raidOf 95 = .ok (.iconst 0, 1) := by decide +kernel
theorem dX8_raidOf_96 : decode cX8_raidOf 96 = .ok (.iastore, 1) := by decide +kernel
theorem dX8_raidOf_97 : decode cX8_raidOf 97 = .ok (.aload_n 0, 1) := by decide +kernel
theorem dX8_raidOf_98 : decode cX8_raidOf 98 = .ok (.getfield 52, 3) := by decide +kernel
theorem dX8_raidOf_101 : decode cX8_raidOf 101 = .ok (.iload_n 2, 1) := by decide +kernel
theorem dX8_raidOf_102 : decode cX8_raidOf 102 = .ok (.iconst 0, 1) := by decide +kernel
theorem dX8_raidOf_103 : decode cX8_raidOf 103 = .ok (.iastore, 1) := by decide +kernel
theorem dX8_raidOf_104 : decode cX8_raidOf 104 = .ok (.aload_n 0, 1) := by decide +kernel
theorem dX8_raidOf_105 : decode cX8_raidOf 105 = .ok (.getfield 55, 3) := by decide +kernel
theorem dX8_raidOf_108 : decode cX8_raidOf 108 = .ok (.iload_n 2, 1) := by decide +kernel
theorem dX8_raidOf_109 : decode cX8_raidOf 109 = .ok (.iconst 0, 1) := by decide +kernel
theorem dX8_raidOf_110 : decode cX8_raidOf 110 = .ok (.iastore, 1) := by decide +kernel
theorem dX8_raidOf_111 : decode cX8_raidOf 111 = .ok (.aload_n 0, 1) := by decide +kernel
theorem dX8_raidOf_112 : decode cX8_raidOf 112 = .ok (.getfield 58, 3) := by decide +kernel
theorem dX8_raidOf_115 : decode cX8_raidOf 115 = .ok (.iload_n 2, 1) := by decide +kernel
theorem dX8_raidOf_116 : decode cX8_raidOf 116 = .ok (.ldc 61, 2) := by decide +kernel
theorem dX8_raidOf_118 : decode cX8_raidOf 118 = .ok (.iastore, 1) := by decide +kernel
theorem dX8_raidOf_119 : decode cX8_raidOf 119 = .ok (.iinc 2 1, 3) := by decide +kernel
theorem dX8_raidOf_122 : decode cX8_raidOf 122 = .ok (.goto (-94), 3) := by decide +kernel
theorem dX8_raidOf_125 : decode cX8_raidOf 125 = .ok (.iconst 0, 1) := by decide +kernel
theorem dX8_raidOf_126 : decode cX8_raidOf 126 = .ok (.istore_n 2, 1) := by decide +kernel
theorem dX8_raidOf_127 : decode cX8_raidOf 127 = .ok (.iload_n 2, 1) := by decide +kernel
theorem dX8_raidOf_128 : decode cX8_raidOf 128 = .ok (.aload_n 0, 1) := by decide +kernel
theorem dX8_raidOf_129 : decode cX8_raidOf 129 = .ok (.getfield 19, 3) := by decide +kernel
theorem dX8_raidOf_132 : decode cX8_raidOf 132 = .ok (.bipush 8, 2) := by decide +kernel
theorem dX8_raidOf_134 : decode cX8_raidOf 134 = .ok (.iaload, 1) := by decide +kernel
theorem dX8_raidOf_135 : decode cX8_raidOf 135 = .ok (.if_icmp .ge 57, 3) := by decide +kernel
theorem dX8_raidOf_138 : decode cX8_raidOf 138 = .ok (.iload_n 1, 1) := by decide +kernel
theorem dX8_raidOf_139 : decode cX8_raidOf 139 = .ok (.iload_n 2, 1) := by decide +kernel
theorem dX8_raidOf_140 : decode cX8_raidOf 140 = .ok (.ishr, 1) := by decide +kernel
theorem dX8_raidOf_141 : decode cX8_raidOf 141 = .ok (.iconst 1, 1) := by decide +kernel
theorem dX8_raidOf_142 : decode cX8_raidOf 142 = .ok (.iand, 1) := by decide +kernel
theorem dX8_raidOf_143 : decode cX8_raidOf 143 = .ok (.iconst 1, 1) := by decide +kernel
theorem dX8_raidOf_144 : decode cX8_raidOf 144 = .ok (.if_icmp .ne 7, 3) := by decide +kernel
theorem dX8_raidOf_147 : decode cX8_raidOf 147 = .ok (.iconst 1, 1) := by decide +kernel
theorem dX8_raidOf_148 : decode cX8_raidOf 148 = .ok (.goto 4, 3) := by decide +kernel
theorem dX8_raidOf_151 : decode cX8_raidOf 151 = .ok (.iconst 0, 1) := by decide +kernel
theorem dX8_raidOf_152 : decode cX8_raidOf 152 = .ok (.istore_n 3, 1) := by decide +kernel
theorem dX8_raidOf_153 : decode cX8_raidOf 153 = .ok (.aload_n 0, 1) := by decide +kernel
theorem dX8_raidOf_154 : decode cX8_raidOf 154 = .ok (.iload_n 3, 1) := by decide +kernel
theorem dX8_raidOf_155 : decode cX8_raidOf 155 = .ok (.ifCond .eq 24, 3) := by decide +kernel
theorem dX8_raidOf_158 : decode cX8_raidOf 158 = .ok (.aload_n 0, 1) := by decide +kernel
theorem dX8_raidOf_159 : decode cX8_raidOf 159 = .ok (.iload_n 2, 1) := by decide +kernel
theorem dX8_raidOf_160 : decode cX8_raidOf 160 = .ok (.invokevirtual 222, 3) := by decide +kernel
theorem dX8_raidOf_163 : decode cX8_raidOf 163 = .ok (.iconst 5, 1) := by decide +kernel
theorem dX8_raidOf_164 : decode cX8_raidOf 164 = .ok (.if_icmp .ne 15, 3) := by decide +kernel
theorem dX8_raidOf_167 : decode cX8_raidOf 167 = .ok (.aload_n 0, 1) := by decide +kernel
theorem dX8_raidOf_168 : decode cX8_raidOf 168 = .ok (.getfield 216, 3) := by decide +kernel
theorem dX8_raidOf_171 : decode cX8_raidOf 171 = .ok (.iconst 2, 1) := by decide +kernel
theorem dX8_raidOf_172 : decode cX8_raidOf 172 = .ok (.if_icmp .le 7, 3) := by decide +kernel
theorem dX8_raidOf_175 : decode cX8_raidOf 175 = .ok (.iconst 2, 1) := by decide +kernel
theorem dX8_raidOf_176 : decode cX8_raidOf 176 = .ok (.goto 7, 3) := by decide +kernel
theorem dX8_raidOf_179 : decode cX8_raidOf 179 = .ok (.aload_n 0, 1) := by decide +kernel
theorem dX8_raidOf_180 : decode cX8_raidOf 180 = .ok (.getfield 216, 3) := by decide +kernel
theorem dX8_raidOf_183 : decode cX8_raidOf 183 = .ok (.putfield 216, 3) := by decide +kernel
theorem dX8_raidOf_186 : decode cX8_raidOf 186 = .ok (.iinc 2 1, 3) := by decide +kernel
theorem dX8_raidOf_189 : decode cX8_raidOf 189 = .ok (.goto (-62), 3) := by decide +kernel
theorem dX8_raidOf_192 : decode cX8_raidOf 192 = .ok (.iconst 0, 1) := by decide +kernel
theorem dX8_raidOf_193 : decode cX8_raidOf 193 = .ok (.istore_n 2, 1) := by decide +kernel
theorem dX8_raidOf_194 : decode cX8_raidOf 194 = .ok (.iload_n 2, 1) := by decide +kernel
theorem dX8_raidOf_195 : decode cX8_raidOf 195 = .ok (.aload_n 0, 1) := by decide +kernel
theorem dX8_raidOf_196 : decode cX8_raidOf 196 = .ok (.getfield 19, 3) := by decide +kernel
theorem dX8_raidOf_199 : decode cX8_raidOf 199 = .ok (.bipush 8, 2) := by decide +kernel
theorem dX8_raidOf_201 : decode cX8_raidOf 201 = .ok (.iaload, 1) := by decide +kernel
theorem dX8_raidOf_202 : decode cX8_raidOf 202 = .ok (.if_icmp .ge 39, 3) := by decide +kernel
theorem dX8_raidOf_205 : decode cX8_raidOf 205 = .ok (.aload_n 0, 1) := by decide +kernel
theorem dX8_raidOf_206 : decode cX8_raidOf 206 = .ok (.iload_n 1, 1) := by decide +kernel
theorem dX8_raidOf_207 : decode cX8_raidOf 207 = .ok (.iload_n 2, 1) := by decide +kernel
theorem dX8_raidOf_208 : decode cX8_raidOf 208 = .ok (.ishr, 1) := by decide +kernel
theorem dX8_raidOf_209 : decode cX8_raidOf 209 = .ok (.iconst 1, 1) := by decide +kernel
theorem dX8_raidOf_210 : decode cX8_raidOf 210 = .ok (.iand, 1) := by decide +kernel
theorem dX8_raidOf_211 : decode cX8_raidOf 211 = .ok (.iconst 1, 1) := by decide +kernel
theorem dX8_raidOf_212 : decode cX8_raidOf 212 = .ok (.if_icmp .ne 16, 3) := by decide +kernel
theorem dX8_raidOf_215 : decode cX8_raidOf 215 = .ok (.aload_n 0, 1) := by decide +kernel
theorem dX8_raidOf_216 : decode cX8_raidOf 216 = .ok (.iload_n 2, 1) := by decide +kernel
theorem dX8_raidOf_217 : decode cX8_raidOf 217 = .ok (.invokevirtual 222, 3) := by decide +kernel
theorem dX8_raidOf_220 : decode cX8_raidOf 220 = .ok (.iconst 4, 1) := by decide +kernel
theorem dX8_raidOf_221 : decode cX8_raidOf 221 = .ok (.if_icmp .ne 7, 3) := by decide +kernel
theorem dX8_raidOf_224 : decode cX8_raidOf 224 = .ok (.iconst 0, 1) := by decide +kernel
theorem dX8_raidOf_225 : decode cX8_raidOf 225 = .ok (.goto 7, 3) := by decide +kernel
theorem dX8_raidOf_228 : decode cX8_raidOf 228 = .ok (.aload_n 0, 1) := by decide +kernel
theorem dX8_raidOf_229 : decode cX8_raidOf 229 = .ok (.getfield 216, 3) := by decide +kernel
theorem dX8_raidOf_232 : decode cX8_raidOf 232 = .ok (.putfield 216, 3) := by decide +kernel
theorem dX8_raidOf_235 : decode cX8_raidOf 235 = .ok (.iinc 2 1, 3) := by decide +kernel
theorem dX8_raidOf_238 : decode cX8_raidOf 238 = .ok (.goto (-44), 3) := by decide +kernel
theorem dX8_raidOf_241 : decode cX8_raidOf 241 = .ok (.aload_n 0, 1) := by decide +kernel
theorem dX8_raidOf_242 : decode cX8_raidOf 242 = .ok (.invokevirtual 225, 3) := by decide +kernel
theorem dX8_raidOf_245 : decode cX8_raidOf 245 = .ok (.ifCond .ne 83, 3) := by decide +kernel
theorem dX8_raidOf_248 : decode cX8_raidOf 248 = .ok (.aload_n 0, 1) := by decide +kernel
theorem dX8_raidOf_249 : decode cX8_raidOf 249 = .ok (.dup, 1) := by decide +kernel
theorem dX8_raidOf_250 : decode cX8_raidOf 250 = .ok (.getfield 219, 3) := by decide +kernel
theorem dX8_raidOf_253 : decode cX8_raidOf 253 = .ok (.iconst 1, 1) := by decide +kernel
theorem dX8_raidOf_254 : decode cX8_raidOf 254 = .ok (.iadd, 1) := by decide +kernel
theorem dX8_raidOf_255 : decode cX8_raidOf 255 = .ok (.putfield 219, 3) := by decide +kernel
theorem dX8_raidOf_258 : decode cX8_raidOf 258 = .ok (.iconst 0, 1) := by decide +kernel
theorem dX8_raidOf_259 : decode cX8_raidOf 259 = .ok (.istore_n 2, 1) := by decide +kernel
theorem dX8_raidOf_260 : decode cX8_raidOf 260 = .ok (.iload_n 2, 1) := by decide +kernel
theorem dX8_raidOf_261 : decode cX8_raidOf 261 = .ok (.iconst 4, 1) := by decide +kernel
theorem dX8_raidOf_262 : decode cX8_raidOf 262 = .ok (.if_icmp .ge 55, 3) := by decide +kernel
theorem dX8_raidOf_265 : decode cX8_raidOf 265 = .ok (.aload_n 0, 1) := by decide +kernel
theorem dX8_raidOf_266 : decode cX8_raidOf 266 = .ok (.getfield 46, 3) := by decide +kernel
theorem dX8_raidOf_269 : decode cX8_raidOf 269 = .ok (.iload_n 2, 1) := by decide +kernel
theorem dX8_raidOf_270 : decode cX8_raidOf 270 = .ok (.iaload, 1) := by decide +kernel
theorem dX8_raidOf_271 : decode cX8_raidOf 271 = .ok (.iconst 1, 1) := by decide +kernel
theorem dX8_raidOf_272 : decode cX8_raidOf 272 = .ok (.if_icmp .ne 11, 3) := by decide +kernel
theorem dX8_raidOf_275 : decode cX8_raidOf 275 = .ok (.aload_n 0, 1) := by decide +kernel
theorem dX8_raidOf_276 : decode cX8_raidOf 276 = .ok (.iload_n 2, 1) := by decide +kernel
theorem dX8_raidOf_277 : decode cX8_raidOf 277 = .ok (.invokevirtual 228, 3) := by decide +kernel
theorem dX8_raidOf_280 : decode cX8_raidOf 280 = .ok (.goto 31, 3) := by decide +kernel
theorem dX8_raidOf_283 : decode cX8_raidOf 283 = .ok (.aload_n 0, 1) := by decide +kernel
theorem dX8_raidOf_284 : decode cX8_raidOf 284 = .ok (.getfield 46, 3) := by decide +kernel
theorem dX8_raidOf_287 : decode cX8_raidOf 287 = .ok (.iload_n 2, 1) := by decide +kernel
theorem dX8_raidOf_288 : decode cX8_raidOf 288 = .ok (.iaload, 1) := by decide +kernel
theorem dX8_raidOf_289 : decode cX8_raidOf 289 = .ok (.ifCond .eq 13, 3) := by decide +kernel
theorem dX8_raidOf_292 : decode cX8_raidOf 292 = .ok (.aload_n 0, 1) := by decide +kernel
theorem dX8_raidOf_293 : decode cX8_raidOf 293 = .ok (.getfield 46, 3) := by decide +kernel
theorem dX8_raidOf_296 : decode cX8_raidOf 296 = .ok (.iload_n 2, 1) := by decide +kernel
theorem dX8_raidOf_297 : decode cX8_raidOf 297 = .ok (.iaload, 1) := by decide +kernel
theorem dX8_raidOf_298 : decode cX8_raidOf 298 = .ok (.iconst 2, 1) := by decide +kernel
theorem dX8_raidOf_299 : decode cX8_raidOf 299 = .ok (.if_icmp .ne 12, 3) := by decide +kernel
theorem dX8_raidOf_302 : decode cX8_raidOf 302 = .ok (.aload_n 0, 1) := by decide +kernel
theorem dX8_raidOf_303 : decode cX8_raidOf 303 = .ok (.iload_n 2, 1) := by decide +kernel
theorem dX8_raidOf_304 : decode cX8_raidOf 304 = .ok (.aload_n 0, 1) := by decide +kernel
theorem dX8_raidOf_305 : decode cX8_raidOf 305 = .ok (.getfield 219, 3) := by decide +kernel
theorem dX8_raidOf_308 : decode cX8_raidOf 308 = .ok (.invokevirtual 231, 3) := by decide +kernel
theorem dX8_raidOf_311 : decode cX8_raidOf 311 = .ok (.iinc 2 1, 3) := by decide +kernel
theorem dX8_raidOf_314 : decode cX8_raidOf 314 = .ok (.goto (-54), 3) := by decide +kernel
theorem dX8_raidOf_317 : decode cX8_raidOf 317 = .ok (.aload_n 0, 1) := by decide +kernel
theorem dX8_raidOf_318 : decode cX8_raidOf 318 = .ok (.aload_n 0, 1) := by decide +kernel
theorem dX8_raidOf_319 : decode cX8_raidOf 319 = .ok (.getfield 219, 3) := by decide +kernel
theorem dX8_raidOf_322 : decode cX8_raidOf 322 = .ok (.invokevirtual 234, 3) := by decide +kernel
theorem dX8_raidOf_325 : decode cX8_raidOf 325 = .ok (.goto (-84), 3) := by decide +kernel
theorem dX8_raidOf_328 : decode cX8_raidOf 328 = .ok (.iconst 0, 1) := by decide +kernel
theorem dX8_raidOf_329 : decode cX8_raidOf 329 = .ok (.istore_n 2, 1) := by decide +kernel
theorem dX8_raidOf_330 : decode cX8_raidOf 330 = .ok (.iconst 0, 1) := by decide +kernel
theorem dX8_raidOf_331 : decode cX8_raidOf 331 = .ok (.istore_n 3, 1) := by decide +kernel
theorem dX8_raidOf_332 : decode cX8_raidOf 332 = .ok (.iload_n 3, 1) := by decide +kernel
theorem dX8_raidOf_333 : decode cX8_raidOf 333 = .ok (.iconst 4, 1) := by decide +kernel
theorem dX8_raidOf_334 : decode cX8_raidOf 334 = .ok (.if_icmp .ge 50, 3) := by decide +kernel
theorem dX8_raidOf_337 : decode cX8_raidOf 337 = .ok (.iload_n 2, 1) := by decide +kernel
theorem dX8_raidOf_338 : decode cX8_raidOf 338 = .ok (.aload_n 0, 1) := by decide +kernel
theorem dX8_raidOf_339 : decode cX8_raidOf 339 = .ok (.getfield 46, 3) := by decide +kernel
theorem dX8_raidOf_342 : decode cX8_raidOf 342 = .ok (.iload_n 3, 1) := by decide +kernel
theorem dX8_raidOf_343 : decode cX8_raidOf 343 = .ok (.iaload, 1) := by decide +kernel
theorem dX8_raidOf_344 : decode cX8_raidOf 344 = .ok (.iconst 5, 1) := by decide +kernel
theorem dX8_raidOf_345 : decode cX8_raidOf 345 = .ok (.if_icmp .ne 7, 3) := by decide +kernel
theorem dX8_raidOf_348 : decode cX8_raidOf 348 = .ok (.iconst 0, 1) := by decide +kernel
theorem dX8_raidOf_349 : decode cX8_raidOf 349 = .ok (.goto 27, 3) := by decide +kernel
theorem dX8_raidOf_352 : decode cX8_raidOf 352 = .ok (.aload_n 0, 1) := by decide +kernel
theorem dX8_raidOf_353 : decode cX8_raidOf 353 = .ok (.iload_n 3, 1) := by decide +kernel
theorem dX8_raidOf_354 : decode cX8_raidOf 354 = .ok (.invokevirtual 237, 3) := by decide +kernel
theorem dX8_raidOf_357 : decode cX8_raidOf 357 = .ok (.aload_n 0, 1) := by decide +kernel
theorem dX8_raidOf_358 : decode cX8_raidOf 358 = .ok (.getfield 19, 3) := by decide +kernel
theorem dX8_raidOf_361 : decode cX8_raidOf 361 = .ok (.bipush 17, 2) := by decide +kernel
theorem dX8_raidOf_363 : decode cX8_raidOf 363 = .ok (.iconst 3, 1) := by decide +kernel
theorem dX8_raidOf_364 : decode cX8_raidOf 364 = .ok (.aload_n 0, 1) := by decide +kernel
theorem dX8_raidOf_365 : decode cX8_raidOf 365 = .ok (.getfield 31, 3) := by decide +kernel
theorem dX8_raidOf_368 : decode cX8_raidOf 368 = .ok (.iload_n 3, 1) := by decide +kernel
theorem dX8_raidOf_369 : decode cX8_raidOf 369 = .ok (.iaload, 1) := by decide +kernel
theorem dX8_raidOf_370 : decode cX8_raidOf 370 = .ok (.imul, 1) := by decide +kernel
theorem dX8_raidOf_371 : decode cX8_raidOf 371 = .ok (.iadd, 1) := by decide +kernel
theorem dX8_raidOf_372 : decode cX8_raidOf 372 = .ok (.iconst 2, 1) := by decide +kernel
theorem dX8_raidOf_373 : decode cX8_raidOf 373 = .ok (.iadd, 1) := by decide +kernel
theorem dX8_raidOf_374 : decode cX8_raidOf 374 = .ok (.iaload, 1) := by decide +kernel
theorem dX8_raidOf_375 : decode cX8_raidOf 375 = .ok (.imul, 1) := by decide +kernel
theorem dX8_raidOf_376 : decode cX8_raidOf 376 = .ok (.iadd, 1) := by decide +kernel
theorem dX8_raidOf_377 : decode cX8_raidOf 377 = .ok (.istore_n 2, 1) := by decide +kernel
theorem dX8_raidOf_378 : decode cX8_raidOf 378 = .ok (.iinc 3 1, 3) := by decide +kernel
theorem dX8_raidOf_381 : decode cX8_raidOf 381 = .ok (.goto (-49), 3) := by decide +kernel
theorem dX8_raidOf_384 : decode cX8_raidOf 384 = .ok (.iload_n 2, 1) := by decide +kernel
theorem dX8_raidOf_385 : decode cX8_raidOf 385 = .ok (.ireturn, 1) := by decide +kernel
theorem dX8_kindNow_0 : decode cX8_kindNow 0 = .ok (.iload_n 1, 1) := by decide +kernel
theorem dX8_kindNow_1 : decode cX8_kindNow 1 = .ok (.aload_n 0, 1) := by decide +kernel
theorem dX8_kindNow_2 : decode cX8_kindNow 2 = .ok (.getfield 62, 3) := by decide +kernel
theorem dX8_kindNow_5 : decode cX8_kindNow 5 = .ok (.if_icmp .ne 7, 3) := by decide +kernel
theorem dX8_kindNow_8 : decode cX8_kindNow 8 = .ok (.iconst 4, 1) := by decide +kernel
theorem dX8_kindNow_9 : decode cX8_kindNow 9 = .ok (.goto 9, 3) := by decide +kernel
theorem dX8_kindNow_12 : decode cX8_kindNow 12 = .ok (.aload_n 0, 1) := by decide +kernel
theorem dX8_kindNow_13 : decode cX8_kindNow 13 = .ok (.iload_n 1, 1) := by decide +kernel
theorem dX8_kindNow_14 : decode cX8_kindNow 14 = .ok (.iconst 0, 1) := by decide +kernel
theorem dX8_kindNow_15 : decode cX8_kindNow 15 = .ok (.invokevirtual 188, 3) := by decide +kernel
theorem dX8_kindNow_18 : decode cX8_kindNow 18 = .ok (.ireturn, 1) := by decide +kernel
theorem dX8_gotOf_0 : decode cX8_gotOf 0 = .ok (.aload_n 0, 1) := by decide +kernel
theorem dX8_gotOf_1 : decode cX8_gotOf 1 = .ok (.getfield 46, 3) := by decide +kernel
theorem dX8_gotOf_4 : decode cX8_gotOf 4 = .ok (.iload_n 1, 1) := by decide +kernel
theorem dX8_gotOf_5 : decode cX8_gotOf 5 = .ok (.iaload, 1) := by decide +kernel
theorem dX8_gotOf_6 : decode cX8_gotOf 6 = .ok (.iconst 5, 1) := by decide +kernel
theorem dX8_gotOf_7 : decode cX8_gotOf 7 = .ok (.if_icmp .ne 7, 3) := by decide +kernel
theorem dX8_gotOf_10 : decode cX8_gotOf 10 = .ok (.iconst 0, 1) := by decide +kernel
theorem dX8_gotOf_11 : decode cX8_gotOf 11 = .ok (.goto 30, 3) := by decide +kernel
theorem dX8_gotOf_14 : decode cX8_gotOf 14 = .ok (.aload_n 0, 1) := by decide +kernel
theorem dX8_gotOf_15 : decode cX8_gotOf 15 = .ok (.getfield 55, 3) := by decide +kernel
theorem dX8_gotOf_18 : decode cX8_gotOf 18 = .ok (.iload_n 1, 1) := by decide +kernel
theorem dX8_gotOf_19 : decode cX8_gotOf 19 = .ok (.iaload, 1) := by decide +kernel
theorem dX8_gotOf_20 : decode cX8_gotOf 20 = .ok (.aload_n 0, 1) := by decide +kernel
theorem dX8_gotOf_21 : decode cX8_gotOf 21 = .ok (.getfield 46, 3) := by decide +kernel
theorem dX8_gotOf_24 : decode cX8_gotOf 24 = .ok (.iload_n 1, 1) := by decide +kernel
theorem dX8_gotOf_25 : decode cX8_gotOf 25 = .ok (.iaload, 1) := by decide +kernel
theorem dX8_gotOf_26 : decode cX8_gotOf 26 = .ok (.iconst 3, 1) := by decide +kernel
theorem dX8_gotOf_27 : decode cX8_gotOf 27 = .ok (.if_icmp .ne 12, 3) := by decide +kernel
theorem dX8_gotOf_30 : decode cX8_gotOf 30 = .ok (.aload_n 0, 1) := by decide +kernel
theorem dX8_gotOf_31 : decode cX8_gotOf 31 = .ok (.getfield 52, 3) := by decide +kernel
theorem dX8_gotOf_34 : decode cX8_gotOf 34 = .ok (.iload_n 1, 1) := by decide +kernel
theorem dX8_gotOf_35 : decode cX8_gotOf 35 = .ok (.iaload, 1) := by decide +kernel
theorem dX8_gotOf_36 : decode cX8_gotOf 36 = .ok (.goto 4, 3) := by decide +kernel
theorem dX8_gotOf_39 : decode cX8_gotOf 39 = .ok (.iconst 0, 1) := by decide +kernel
theorem dX8_gotOf_40 : decode cX8_gotOf 40 = .ok (.iadd, 1) := by decide +kernel
theorem dX8_gotOf_41 : decode cX8_gotOf 41 = .ok (.ireturn, 1) := by decide +kernel
theorem dX8_everybody_0 : decode cX8_everybody 0 = .ok (.iconst 1, 1) := by decide +kernel
theorem dX8_everybody_1 : decode cX8_everybody 1 = .ok (.aload_n 0, 1) := by decide +kernel
theorem dX8_everybody_2 : decode cX8_everybody 2 = .ok (.getfield 19, 3) := by decide +kernel
theorem dX8_everybody_5 : decode cX8_everybody 5 = .ok (.bipush 8, 2) := by decide +kernel
theorem dX8_everybody_7 : decode cX8_everybody 7 = .ok (.iaload, 1) := by decide +kernel
theorem dX8_everybody_8 : decode cX8_everybody 8 = .ok (.ishl, 1) := by decide +kernel
theorem dX8_everybody_9 : decode cX8_everybody 9 = .ok (.iconst 1, 1) := by decide +kernel
theorem dX8_everybody_10 : decode cX8_everybody 10 = .ok (.isub, 1) := by decide +kernel
theorem dX8_everybody_11 : decode cX8_everybody 11 = .ok (.ireturn, 1) := by decide +kernel
theorem dX8_raidNow_0 : decode cX8_raidNow 0 = .ok (.aload_n 0, 1) := by decide +kernel
theorem dX8_raidNow_1 : decode cX8_raidNow 1 = .ok (.invokevirtual 240, 3) := by decide +kernel
theorem dX8_raidNow_4 : decode cX8_raidNow 4 = .ok (.aload_n 0, 1) := by decide +kernel
theorem dX8_raidNow_5 : decode cX8_raidNow 5 = .ok (.aload_n 0, 1) := by decide +kernel
theorem dX8_raidNow_6 : decode cX8_raidNow 6 = .ok (.invokevirtual 243, 3) := by decide +kernel
theorem dX8_raidNow_9 : decode cX8_raidNow 9 = .ok (.invokevirtual 247, 3) := by decide +kernel
theorem dX8_raidNow_12 : decode cX8_raidNow 12 = .ok (.ireturn, 1) := by decide +kernel
theorem dX8_withPlans_0 : decode cX8_withPlans 0 = .ok (.iconst 0, 1) := by decide +kernel
theorem dX8_withPlans_1 : decode cX8_withPlans 1 = .ok (.istore_n 1, 1) := by decide +kernel
theorem dX8_withPlans_2 : decode cX8_withPlans 2 = .ok (.iconst 0, 1) := by decide +kernel
theorem dX8_withPlans_3 : decode cX8_withPlans 3 = .ok (.istore_n 2, 1) := by decide +kernel
theorem dX8_withPlans_4 : decode cX8_withPlans 4 = .ok (.iload_n 2, 1) := by decide +kernel
theorem dX8_withPlans_5 : decode cX8_withPlans 5 = .ok (.aload_n 0, 1) := by decide +kernel
theorem dX8_withPlans_6 : decode cX8_withPlans 6 = .ok (.getfield 19, 3) := by decide +kernel
theorem dX8_withPlans_9 : decode cX8_withPlans 9 = .ok (.bipush 8, 2) := by decide +kernel
theorem dX8_withPlans_11 : decode cX8_withPlans 11 = .ok (.iaload, 1) := by decide +kernel
theorem dX8_withPlans_12 : decode cX8_withPlans 12 = .ok (.if_icmp .ge 28, 3) := by decide +kernel
theorem dX8_withPlans_15 : decode cX8_withPlans 15 = .ok (.iload_n 1, 1) := by decide +kernel
theorem dX8_withPlans_16 : decode cX8_withPlans 16 = .ok (.aload_n 0, 1) := by decide +kernel
theorem dX8_withPlans_17 : decode cX8_withPlans 17 = .ok (.iload_n 2, 1) := by decide +kernel
theorem dX8_withPlans_18 : decode cX8_withPlans 18 = .ok (.iconst 2, 1) := by decide +kernel
theorem dX8_withPlans_19 : decode cX8_withPlans 19 = .ok (.invokevirtual 188, 3) := by decide +kernel
theorem dX8_withPlans_22 : decode cX8_withPlans 22 = .ok (.ifCond .lt 9, 3) := by decide +kernel
theorem dX8_withPlans_25 : decode cX8_withPlans 25 = .ok (.iconst 1, 1) := by decide +kernel
theorem dX8_withPlans_26 : decode cX8_withPlans 26 = .ok (.iload_n 2, 1) := by decide +kernel
theorem dX8_withPlans_27 : decode cX8_withPlans 27 = .ok (.ishl, 1) := by decide +kernel
theorem dX8_withPlans_28 : decode cX8_withPlans 28 = .ok (.goto 4, 3) := by decide +kernel
theorem dX8_withPlans_31 : decode cX8_withPlans 31 = .ok (.iconst 0, 1) := by decide +kernel
theorem dX8_withPlans_32 : decode cX8_withPlans 32 = .ok (.ior, 1) := by decide +kernel
theorem dX8_withPlans_33 : decode cX8_withPlans 33 = .ok (.istore_n 1, 1) := by decide +kernel
theorem dX8_withPlans_34 : decode cX8_withPlans 34 = .ok (.iinc 2 1, 3) := by decide +kernel
theorem dX8_withPlans_37 : decode cX8_withPlans 37 = .ok (.goto (-33), 3) := by decide +kernel
theorem dX8_withPlans_40 : decode cX8_withPlans 40 = .ok (.iload_n 1, 1) := by decide +kernel
theorem dX8_withPlans_41 : decode cX8_withPlans 41 = .ok (.ireturn, 1) := by decide +kernel
theorem dX8_keep_0 : decode cX8_keep 0 = .ok (.aload_n 0, 1) := by decide +kernel
theorem dX8_keep_1 : decode cX8_keep 1 = .ok (.getfield 183, 3) := by decide +kernel
theorem dX8_keep_4 : decode cX8_keep 4 = .ok (.bipush 24, 2) := by decide +kernel
theorem dX8_keep_6 : decode cX8_keep 6 = .ok (.if_icmp .ne 43, 3) := by decide +kernel
theorem dX8_keep_9 : decode cX8_keep 9 = .ok (.iconst 0, 1) := by decide +kernel
theorem dX8_keep_10 : decode cX8_keep 10 = .ok (.istore_n 1, 1) := by decide +kernel
theorem dX8_keep_11 : decode cX8_keep 11 = .ok (.iload_n 1, 1) := by decide +kernel
theorem dX8_keep_12 : decode cX8_keep 12 = .ok (.sipush 1357, 3) := by decide +kernel
theorem dX8_keep_15 : decode cX8_keep 15 = .ok (.if_icmp .ge 24, 3) := by decide +kernel
theorem dX8_keep_18 : decode cX8_keep 18 = .ok (.aload_n 0, 1) := by decide +kernel
theorem dX8_keep_19 : decode cX8_keep 19 = .ok (.getfield 25, 3) := by decide +kernel
theorem dX8_keep_22 : decode cX8_keep 22 = .ok (.iload_n 1, 1) := by decide +kernel
theorem dX8_keep_23 : decode cX8_keep 23 = .ok (.aload_n 0, 1) := by decide +kernel
theorem dX8_keep_24 : decode cX8_keep 24 = .ok (.getfield 25, 3) := by decide +kernel
theorem dX8_keep_27 : decode cX8_keep 27 = .ok (.iload_n 1, 1) := by decide +kernel
theorem dX8_keep_28 : decode cX8_keep 28 = .ok (.bipush 59, 2) := by decide +kernel
theorem dX8_keep_30 : decode cX8_keep 30 = .ok (.iadd, 1) := by decide +kernel
theorem dX8_keep_31 : decode cX8_keep 31 = .ok (.iaload, 1) := by decide +kernel
theorem dX8_keep_32 : decode cX8_keep 32 = .ok (.iastore, 1) := by decide +kernel
theorem dX8_keep_33 : decode cX8_keep 33 = .ok (.iinc 1 1, 3) := by decide +kernel
theorem dX8_keep_36 : decode cX8_keep 36 = .ok (.goto (-25), 3) := by decide +kernel
theorem dX8_keep_39 : decode cX8_keep 39 = .ok (.aload_n 0, 1) := by decide +kernel
theorem dX8_keep_40 : decode cX8_keep 40 = .ok (.dup, 1) := by decide +kernel
theorem dX8_keep_41 : decode cX8_keep 41 = .ok (.getfield 183, 3) := by decide +kernel
theorem dX8_keep_44 : decode cX8_keep 44 = .ok (.iconst 1, 1) := by decide +kernel
theorem dX8_keep_45 : decode cX8_keep 45 = .ok (.isub, 1) := by decide +kernel
theorem dX8_keep_46 : decode cX8_keep 46 = .ok (.putfield 183, 3) := by decide +kernel
theorem dX8_keep_49 : decode cX8_keep 49 = .ok (.iconst 0, 1) := by decide +kernel
theorem dX8_keep_50 : decode cX8_keep 50 = .ok (.istore_n 1, 1) := by decide +kernel
theorem dX8_keep_51 : decode cX8_keep 51 = .ok (.iload_n 1, 1) := by decide +kernel
theorem dX8_keep_52 : decode cX8_keep 52 = .ok (.bipush 59, 2) := by decide +kernel
theorem dX8_keep_54 : decode cX8_keep 54 = .ok (.if_icmp .ge 29, 3) := by decide +kernel
theorem dX8_keep_57 : decode cX8_keep 57 = .ok (.aload_n 0, 1) := by decide +kernel
theorem dX8_keep_58 : decode cX8_keep 58 = .ok (.getfield 25, 3) := by decide +kernel
theorem dX8_keep_61 : decode cX8_keep 61 = .ok (.bipush 59, 2) := by decide +kernel
theorem dX8_keep_63 : decode cX8_keep 63 = .ok (.aload_n 0, 1) := by decide +kernel
theorem dX8_keep_64 : decode cX8_keep 64 = .ok (.getfield 183, 3) := by decide +kernel
theorem dX8_keep_67 : decode cX8_keep 67 = .ok (.imul, 1) := by decide +kernel
theorem dX8_keep_68 : decode cX8_keep 68 = .ok (.iload_n 1, 1) := by decide +kernel
theorem dX8_keep_69 : decode cX8_keep 69 = .ok (.iadd, 1) := by decide +kernel
theorem dX8_keep_70 : decode cX8_keep 70 = .ok (.aload_n 0, 1) := by decide +kernel
theorem dX8_keep_71 : decode cX8_keep 71 = .ok (.getfield 19, 3) := by decide +kernel
theorem dX8_keep_74 : decode cX8_keep 74 = .ok (.iload_n 1, 1) := by decide +kernel
theorem dX8_keep_75 : decode cX8_keep 75 = .ok (.iaload, 1) := by decide +kernel
theorem dX8_keep_76 : decode cX8_keep 76 = .ok (.iastore, 1) := by decide +kernel
theorem dX8_keep_77 : decode cX8_keep 77 = .ok (.iinc 1 1, 3) := by decide +kernel
theorem dX8_keep_80 : decode cX8_keep 80 = .ok (.goto (-29), 3) := by decide +kernel
theorem dX8_keep_83 : decode cX8_keep 83 = .ok (.aload_n 0, 1) := by decide +kernel
theorem dX8_keep_84 : decode cX8_keep 84 = .ok (.dup, 1) := by decide +kernel
theorem dX8_keep_85 : decode cX8_keep 85 = .ok (.getfield 183, 3) := by decide +kernel
theorem dX8_keep_88 : decode cX8_keep 88 = .ok (.iconst 1, 1) := by decide +kernel
theorem dX8_keep_89 : decode cX8_keep 89 = .ok (.iadd, 1) := by decide +kernel
theorem dX8_keep_90 : decode cX8_keep 90 = .ok (.putfield 183, 3) := by decide +kernel
theorem dX8_keep_93 : decode cX8_keep 93 = .ok (.return_, 1) := by decide +kernel
theorem dX8_plan_0 : decode cX8_plan 0 = .ok (.aload_n 0, 1) := by decide +kernel
theorem dX8_plan_1 : decode cX8_plan 1 = .ok (.iconst 0, 1) := by decide +kernel
theorem dX8_plan_2 : decode cX8_plan 2 = .ok (.putfield 79, 3) := by decide +kernel
theorem dX8_plan_5 : decode cX8_plan 5 = .ok (.aload_n 0, 1) := by decide +kernel
theorem dX8_plan_6 : decode cX8_plan 6 = .ok (.iload_n 1, 1) := by decide +kernel
theorem dX8_plan_7 : decode cX8_plan 7 = .ok (.invokevirtual 250, 3) := by decide +kernel
theorem dX8_plan_10 : decode cX8_plan 10 = .ok (.ifCond .eq 39, 3) := by decide +kernel
theorem dX8_plan_13 : decode cX8_plan 13 = .ok (.iload_n 2, 1) := by decide +kernel
theorem dX8_plan_14 : decode cX8_plan 14 = .ok (.iconst (-1), 1) := by decide +kernel
theorem dX8_plan_15 : decode cX8_plan 15 = .ok (.if_icmp .eq 37, 3) := by decide +kernel
theorem dX8_plan_18 : decode cX8_plan 18 = .ok (.aload_n 0, 1) := by decide +kernel
theorem dX8_plan_19 : decode cX8_plan 19 = .ok (.iload_n 2, 1) := by decide +kernel
theorem dX8_plan_20 : decode cX8_plan 20 = .ok (.invokevirtual 253, 3) := by decide +kernel
theorem dX8_plan_23 : decode cX8_plan 23 = .ok (.ifCond .eq 26, 3) := by decide +kernel
theorem dX8_plan_26 : decode cX8_plan 26 = .ok (.iload_n 3, 1) := by decide +kernel
theorem dX8_plan_27 : decode cX8_plan 27 = .ok (.i2l, 1) := by decide +kernel
theorem dX8_plan_28 : decode cX8_plan 28 = .ok (.lconst 1, 1) := by decide +kernel
theorem dX8_plan_29 : decode cX8_plan 29 = .ok (.ldc2_w 256, 3) := by decide +kernel
theorem dX8_plan_32 : decode cX8_plan 32 = .ok (.invokestatic 88, 3) := by decide +kernel
theorem dX8_plan_35 : decode cX8_plan 35 = .ok (.ifCond .eq 14, 3) := by decide +kernel
theorem dX8_plan_38 : decode cX8_plan 38 = .ok (.iload 4, 2) := by decide +kernel
theorem dX8_plan_40 : decode cX8_plan 40 = .ok (.i2l, 1) := by decide +kernel
theorem dX8_plan_41 : decode cX8_plan 41 = .ok (.lconst 0, 1) := by decide +kernel
theorem dX8_plan_42 : decode cX8_plan 42 = .ok (.lconst 1, 1) := by decide +kernel
theorem dX8_plan_43 : decode cX8_plan 43 = .ok (.invokestatic 88, 3) := by decide +kernel
theorem dX8_plan_46 : decode cX8_plan 46 = .ok (.ifCond .ne 6, 3) := by decide +kernel
theorem dX8_plan_49 : decode cX8_plan 49 = .ok (.ldc 98, 2) := by decide +kernel
theorem dX8_plan_51 : decode cX8_plan 51 = .ok (.ireturn, 1) := by decide +kernel
theorem dX8_plan_52 : decode cX8_plan 52 = .ok (.aload_n 0, 1) := by decide +kernel
theorem dX8_plan_53 : decode cX8_plan 53 = .ok (.iload_n 1, 1) := by decide +kernel
theorem dX8_plan_54 : decode cX8_plan 54 = .ok (.invokevirtual 258, 3) := by decide +kernel
theorem dX8_plan_57 : decode cX8_plan 57 = .ok (.ifCond .eq 7, 3) := by decide +kernel
theorem dX8_plan_60 : decode cX8_plan 60 = .ok (.ldc_w 261, 3) := by decide +kernel
theorem dX8_plan_63 : decode cX8_plan 63 = .ok (.ireturn, 1) := by decide +kernel
theorem dX8_plan_64 : decode cX8_plan 64 = .ok (.aload_n 0, 1) := by decide +kernel
theorem dX8_plan_65 : decode cX8_plan 65 = .ok (.invokevirtual 262, 3) := by decide +kernel
theorem dX8_plan_68 : decode cX8_plan 68 = .ok (.bipush 35, 2) := by decide +kernel
theorem dX8_plan_70 : decode cX8_plan 70 = .ok (.bipush 6, 2) := by decide +kernel
theorem dX8_plan_72 : decode cX8_plan 72 = .ok (.iload_n 1, 1) := by decide +kernel
theorem dX8_plan_73 : decode cX8_plan 73 = .ok (.imul, 1) := by decide +kernel
theorem dX8_plan_74 : decode cX8_plan 74 = .ok (.iadd, 1) := by decide +kernel
theorem dX8_plan_75 : decode cX8_plan 75 = .ok (.istore 5, 2) := by decide +kernel
theorem dX8_plan_77 : decode cX8_plan 77 = .ok (.aload_n 0, 1) := by decide +kernel
theorem dX8_plan_78 : decode cX8_plan 78 = .ok (.getfield 19, 3) := by decide +kernel
theorem dX8_plan_81 : decode cX8_plan 81 = .ok (.iload 5, 2) := by decide +kernel
theorem dX8_plan_83 : decode cX8_plan 83 = .ok (.iconst 2, 1) := by decide +kernel
theorem dX8_plan_84 : decode cX8_plan 84 = .ok (.iadd, 1) := by decide +kernel
theorem dX8_plan_85 : decode cX8_plan 85 = .ok (.iaload, 1) := by decide +kernel
theorem dX8_plan_86 : decode cX8_plan 86 = .ok (.ifCond .lt 7, 3) := by decide +kernel
theorem dX8_plan_89 : decode cX8_plan 89 = .ok (.iconst 1, 1) := by decide +kernel
theorem dX8_plan_90 : decode cX8_plan 90 = .ok (.goto 4, 3) := by decide +kernel
theorem dX8_plan_93 : decode cX8_plan 93 = .ok (.iconst 0, 1) := by decide +kernel
theorem dX8_plan_94 : decode cX8_plan 94 = .ok (.istore 6, 2) := by decide +kernel
theorem dX8_plan_96 : decode cX8_plan 96 = .ok (.aload_n 0, 1) := by decide +kernel
theorem dX8_plan_97 : decode cX8_plan 97 = .ok (.getfield 19, 3) := by decide +kernel
theorem dX8_plan_100 : decode cX8_plan 100 = .ok (.iload 5, 2) := by decide +kernel
theorem dX8_plan_102 : decode cX8_plan 102 = .ok (.iconst 2, 1) := by decide +kernel
theorem dX8_plan_103 : decode cX8_plan 103 = .ok (.iadd, 1) := by decide +kernel
theorem dX8_plan_104 : decode cX8_plan 104 = .ok (.iload_n 2, 1) := by decide +kernel
theorem dX8_plan_105 : decode cX8_plan 105 = .ok (.iastore, 1) := by decide +kernel
theorem dX8_plan_106 : decode cX8_plan 106 = .ok (.aload_n 0, 1) := by decide +kernel
theorem dX8_plan_107 : decode cX8_plan 107 = .ok (.getfield 19, 3) := by decide +kernel
theorem dX8_plan_110 : decode cX8_plan 110 = .ok (.iload 5, 2) := by decide +kernel
theorem dX8_plan_112 : decode cX8_plan 112 = .ok (.iconst 3, 1) := by decide +kernel
theorem dX8_plan_113 : decode cX8_plan 113 = .ok (.iadd, 1) := by decide +kernel
theorem dX8_plan_114 : decode cX8_plan 114 = .ok (.iload_n 2, 1) := by decide +kernel
theorem dX8_plan_115 : decode cX8_plan 115 = .ok (.ifCond .ge 7, 3) := by decide +kernel
theorem dX8_plan_118 : decode cX8_plan 118 = .ok (.iconst 0, 1) := by decide +kernel
theorem dX8_plan_119 : decode cX8_plan 119 = .ok (.goto 4, 3) := by decide +kernel
theorem dX8_plan_122 : decode cX8_plan 122 = .ok (.iload_n 3, 1) := by decide +kernel
theorem dX8_plan_123 : decode cX8_plan 123 = .ok (.iastore, 1) := by decide +kernel
theorem dX8_plan_124 : decode cX8_plan 124 = .ok (.aload_n 0, 1) := by decide +kernel
theorem dX8_plan_125 : decode cX8_plan 125 = .ok (.getfield 19, 3) := by decide +kernel
theorem dX8_plan_128 : decode cX8_plan 128 = .ok (.iload 5, 2) := by decide +kernel
theorem dX8_plan_130 : decode cX8_plan 130 = .ok (.iconst 4, 1) := by decide +kernel
theorem dX8_plan_131 : decode cX8_plan 131 = .ok (.iadd, 1) := by decide +kernel
theorem dX8_plan_132 : decode cX8_plan 132 = .ok (.iload_n 2, 1) := by decide +kernel
theorem dX8_plan_133 : decode cX8_plan 133 = .ok (.ifCond .ge 7, 3) := by decide +kernel
theorem dX8_plan_136 : decode cX8_plan 136 = .ok (.iconst 0, 1) := by decide +kernel
theorem dX8_plan_137 : decode cX8_plan 137 = .ok (.goto 5, 3) := by decide +kernel
theorem dX8_plan_140 : decode cX8_plan 140 = .ok (.iload 4, 2) := by decide +kernel
theorem dX8_plan_142 : decode cX8_plan 142 = .ok (.iastore, 1) := by decide +kernel
theorem dX8_plan_143 : decode cX8_plan 143 = .ok (.iload 6, 2) := by decide +kernel
theorem dX8_plan_145 : decode cX8_plan 145 = .ok (.ireturn, 1) := by decide +kernel
