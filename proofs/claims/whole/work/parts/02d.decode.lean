theorem dX4_held_7 : decode cX4_held 7 = .ok (.bipush (-2), 2) := by decide +kernel
theorem dX4_held_9 : decode cX4_held 9 = .ok (.ireturn, 1) := by decide +kernel
theorem dX4_held_10 : decode cX4_held 10 = .ok (.aload_n 0, 1) := by decide +kernel
theorem dX4_held_11 : decode cX4_held 11 = .ok (.iload_n 2, 1) := by decide +kernel
theorem dX4_held_12 : decode cX4_held 12 = .ok (.invokevirtual 54, 3) := by decide +kernel
theorem dX4_held_15 : decode cX4_held 15 = .ok (.ifCond .ne 5, 3) := by decide +kernel
theorem dX4_held_18 : decode cX4_held 18 = .ok (.iconst (-1), 1) := by decide +kernel
theorem dX4_held_19 : decode cX4_held 19 = .ok (.ireturn, 1) := by decide +kernel
theorem dX4_held_20 : decode cX4_held 20 = .ok (.aload_n 0, 1) := by decide +kernel
theorem dX4_held_21 : decode cX4_held 21 = .ok (.iload_n 1, 1) := by decide +kernel
theorem dX4_held_22 : decode cX4_held 22 = .ok (.invokevirtual 75, 3) := by decide +kernel
theorem dX4_held_25 : decode cX4_held 25 = .ok (.aload_n 0, 1) := by decide +kernel
theorem dX4_held_26 : decode cX4_held 26 = .ok (.getfield 65, 3) := by decide +kernel
theorem dX4_held_29 : decode cX4_held 29 = .ok (.iload_n 2, 1) := by decide +kernel
theorem dX4_held_30 : decode cX4_held 30 = .ok (.ishr, 1) := by decide +kernel
theorem dX4_held_31 : decode cX4_held 31 = .ok (.iconst 1, 1) := by decide +kernel
theorem dX4_held_32 : decode cX4_held 32 = .ok (.iand, 1) := by decide +kernel
theorem dX4_held_33 : decode cX4_held 33 = .ok (.ireturn, 1) := by decide +kernel
theorem dX4_wayIn_0 : decode cX4_wayIn 0 = .ok (.aload_n 0, 1) := by decide +kernel
theorem dX4_wayIn_1 : decode cX4_wayIn 1 = .ok (.getfield 13, 3) := by decide +kernel
theorem dX4_wayIn_4 : decode cX4_wayIn 4 = .ok (.iconst 2, 1) := by decide +kernel
theorem dX4_wayIn_5 : decode cX4_wayIn 5 = .ok (.iload_n 2, 1) := by decide +kernel
theorem dX4_wayIn_6 : decode cX4_wayIn 6 = .ok (.imul, 1) := by decide +kernel
theorem dX4_wayIn_7 : decode cX4_wayIn 7 = .ok (.iaload, 1) := by decide +kernel
theorem dX4_wayIn_8 : decode cX4_wayIn 8 = .ok (.istore_n 3, 1) := by decide +kernel
theorem dX4_wayIn_9 : decode cX4_wayIn 9 = .ok (.iconst 0, 1) := by decide +kernel
theorem dX4_wayIn_10 : decode cX4_wayIn 10 = .ok (.istore 4, 2) := by decide +kernel
theorem dX4_wayIn_12 : decode cX4_wayIn 12 = .ok (.iload 4, 2) := by decide +kernel
theorem dX4_wayIn_14 : decode cX4_wayIn 14 = .ok (.bipush 10, 2) := by decide +kernel
theorem dX4_wayIn_16 : decode cX4_wayIn 16 = .ok (.if_icmp .ge 17, 3) := by decide +kernel
theorem dX4_wayIn_19 : decode cX4_wayIn 19 = .ok (.aload_n 0, 1) := by decide +kernel
theorem dX4_wayIn_20 : decode cX4_wayIn 20 = .ok (.getfield 36, 3) := by decide +kernel
theorem dX4_wayIn_23 : decode cX4_wayIn 23 = .ok (.iload 4, 2) := by decide +kernel
theorem dX4_wayIn_25 : decode cX4_wayIn 25 = .ok (.iconst (-1), 1) := by decide +kernel
theorem dX4_wayIn_26 : decode cX4_wayIn 26 = .ok (.iastore, 1) := by decide +kernel
theorem dX4_wayIn_27 : decode cX4_wayIn 27 = .ok (.iinc 4 1, 3) := by decide +kernel
theorem dX4_wayIn_30 : decode cX4_wayIn 30 = .ok (.goto (-18), 3) := by decide +kernel
theorem dX4_wayIn_33 : decode cX4_wayIn 33 = .ok (.iconst 1, 1) := by decide +kernel
theorem dX4_wayIn_34 : decode cX4_wayIn 34 = .ok (.iload_n 3, 1) := by decide +kernel
theorem dX4_wayIn_35 : decode cX4_wayIn 35 = .ok (.ishl, 1) := by decide +kernel
theorem dX4_wayIn_36 : decode cX4_wayIn 36 = .ok (.istore 4, 2) := by decide +kernel
theorem dX4_wayIn_38 : decode cX4_wayIn 38 = .ok (.iconst 1, 1) := by decide +kernel
theorem dX4_wayIn_39 : decode cX4_wayIn 39 = .ok (.istore 5, 2) := by decide +kernel
theorem dX4_wayIn_41 : decode cX4_wayIn 41 = .ok (.iload 5, 2) := by decide +kernel
theorem dX4_wayIn_43 : decode cX4_wayIn 43 = .ok (.ifCond .eq 145, 3) := by decide +kernel
theorem dX4_wayIn_46 : decode cX4_wayIn 46 = .ok (.iconst 0, 1) := by decide +kernel
theorem dX4_wayIn_47 : decode cX4_wayIn 47 = .ok (.istore 5, 2) := by decide +kernel
theorem dX4_wayIn_49 : decode cX4_wayIn 49 = .ok (.iconst 0, 1) := by decide +kernel
theorem dX4_wayIn_50 : decode cX4_wayIn 50 = .ok (.istore 6, 2) := by decide +kernel
theorem dX4_wayIn_52 : decode cX4_wayIn 52 = .ok (.iload 6, 2) := by decide +kernel
theorem dX4_wayIn_54 : decode cX4_wayIn 54 = .ok (.bipush 24, 2) := by decide +kernel
theorem dX4_wayIn_56 : decode cX4_wayIn 56 = .ok (.if_icmp .ge 129, 3) := by decide +kernel
theorem dX4_wayIn_59 : decode cX4_wayIn 59 = .ok (.aload_n 0, 1) := by decide +kernel
theorem dX4_wayIn_60 : decode cX4_wayIn 60 = .ok (.getfield 21, 3) := by decide +kernel
theorem dX4_wayIn_63 : decode cX4_wayIn 63 = .ok (.iload 6, 2) := by decide +kernel
theorem dX4_wayIn_65 : decode cX4_wayIn 65 = .ok (.iaload, 1) := by decide +kernel
theorem dX4_wayIn_66 : decode cX4_wayIn 66 = .ok (.iload_n 1, 1) := by decide +kernel
theorem dX4_wayIn_67 : decode cX4_wayIn 67 = .ok (.if_icmp .ne 112, 3) := by decide +kernel
theorem dX4_wayIn_70 : decode cX4_wayIn 70 = .ok (.iload 6, 2) := by decide +kernel
theorem dX4_wayIn_72 : decode cX4_wayIn 72 = .ok (.iload_n 2, 1) := by decide +kernel
theorem dX4_wayIn_73 : decode cX4_wayIn 73 = .ok (.if_icmp .eq 106, 3) := by decide +kernel
theorem dX4_wayIn_76 : decode cX4_wayIn 76 = .ok (.aload_n 0, 1) := by decide +kernel
theorem dX4_wayIn_77 : decode cX4_wayIn 77 = .ok (.getfield 13, 3) := by decide +kernel
theorem dX4_wayIn_80 : decode cX4_wayIn 80 = .ok (.iconst 2, 1) := by decide +kernel
theorem dX4_wayIn_81 : decode cX4_wayIn 81 = .ok (.iload 6, 2) := by decide +kernel
theorem dX4_wayIn_83 : decode cX4_wayIn 83 = .ok (.imul, 1) := by decide +kernel
theorem dX4_wayIn_84 : decode cX4_wayIn 84 = .ok (.iaload, 1) := by decide +kernel
theorem dX4_wayIn_85 : decode cX4_wayIn 85 = .ok (.istore 7, 2) := by decide +kernel
theorem dX4_wayIn_87 : decode cX4_wayIn 87 = .ok (.aload_n 0, 1) := by decide +kernel
theorem dX4_wayIn_88 : decode cX4_wayIn 88 = .ok (.getfield 13, 3) := by decide +kernel
theorem dX4_wayIn_91 : decode cX4_wayIn 91 = .ok (.iconst 2, 1) := by decide +kernel
theorem dX4_wayIn_92 : decode cX4_wayIn 92 = .ok (.iload 6, 2) := by decide +kernel
theorem dX4_wayIn_94 : decode cX4_wayIn 94 = .ok (.imul, 1) := by decide +kernel
theorem dX4_wayIn_95 : decode cX4_wayIn 95 = .ok (.iconst 1, 1) := by decide +kernel
theorem dX4_wayIn_96 : decode cX4_wayIn 96 = .ok (.iadd, 1) := by decide +kernel
theorem dX4_wayIn_97 : decode cX4_wayIn 97 = .ok (.iaload, 1) := by decide +kernel
theorem dX4_wayIn_98 : decode cX4_wayIn 98 = .ok (.istore 8, 2) := by decide +kernel
theorem dX4_wayIn_100 : decode cX4_wayIn 100 = .ok (.iload 4, 2) := by decide +kernel
theorem dX4_wayIn_102 : decode cX4_wayIn 102 = .ok (.iload 7, 2) := by decide +kernel
theorem dX4_wayIn_104 : decode cX4_wayIn 104 = .ok (.ishr, 1) := by decide +kernel
theorem dX4_wayIn_105 : decode cX4_wayIn 105 = .ok (.iconst 1, 1) := by decide +kernel
theorem dX4_wayIn_106 : decode cX4_wayIn 106 = .ok (.iand, 1) := by decide +kernel
theorem dX4_wayIn_107 : decode cX4_wayIn 107 = .ok (.iconst 1, 1) := by decide +kernel
theorem dX4_wayIn_108 : decode cX4_wayIn 108 = .ok (.if_icmp .ne 7, 3) := by decide +kernel
theorem dX4_wayIn_111 : decode cX4_wayIn 111 = .ok (.iconst 1, 1) := by decide +kernel
theorem dX4_wayIn_112 : decode cX4_wayIn 112 = .ok (.goto 4, 3) := by decide +kernel
theorem dX4_wayIn_115 : decode cX4_wayIn 115 = .ok (.iconst 0, 1) := by decide +kernel
theorem dX4_wayIn_116 : decode cX4_wayIn 116 = .ok (.istore 9, 2) := by decide +kernel
theorem dX4_wayIn_118 : decode cX4_wayIn 118 = .ok (.iload 4, 2) := by decide +kernel
theorem dX4_wayIn_120 : decode cX4_wayIn 120 = .ok (.iload 8, 2) := by decide +kernel
theorem dX4_wayIn_122 : decode cX4_wayIn 122 = .ok (.ishr, 1) := by decide +kernel
theorem dX4_wayIn_123 : decode cX4_wayIn 123 = .ok (.iconst 1, 1) := by decide +kernel
theorem dX4_wayIn_124 : decode cX4_wayIn 124 = .ok (.iand, 1) := by decide +kernel
theorem dX4_wayIn_125 : decode cX4_wayIn 125 = .ok (.iconst 1, 1) := by decide +kernel
theorem dX4_wayIn_126 : decode cX4_wayIn 126 = .ok (.if_icmp .ne 7, 3) := by decide +kernel
theorem dX4_wayIn_129 : decode cX4_wayIn 129 = .ok (.iconst 1, 1) := by decide +kernel
theorem dX4_wayIn_130 : decode cX4_wayIn 130 = .ok (.goto 4, 3) := by decide +kernel
theorem dX4_wayIn_133 : decode cX4_wayIn 133 = .ok (.iconst 0, 1) := by decide +kernel
theorem dX4_wayIn_134 : decode cX4_wayIn 134 = .ok (.istore 10, 2) := by decide +kernel
theorem dX4_wayIn_136 : decode cX4_wayIn 136 = .ok (.iload 9, 2) := by decide +kernel
theorem dX4_wayIn_138 : decode cX4_wayIn 138 = .ok (.iload 10, 2) := by decide +kernel
theorem dX4_wayIn_140 : decode cX4_wayIn 140 = .ok (.if_icmp .eq 39, 3) := by decide +kernel
theorem dX4_wayIn_143 : decode cX4_wayIn 143 = .ok (.aload_n 0, 1) := by decide +kernel
theorem dX4_wayIn_144 : decode cX4_wayIn 144 = .ok (.getfield 36, 3) := by decide +kernel
theorem dX4_wayIn_147 : decode cX4_wayIn 147 = .ok (.iload 9, 2) := by decide +kernel
theorem dX4_wayIn_149 : decode cX4_wayIn 149 = .ok (.ifCond .eq 8, 3) := by decide +kernel
theorem dX4_wayIn_152 : decode cX4_wayIn 152 = .ok (.iload 8, 2) := by decide +kernel
theorem dX4_wayIn_154 : decode cX4_wayIn 154 = .ok (.goto 5, 3) := by decide +kernel
theorem dX4_wayIn_157 : decode cX4_wayIn 157 = .ok (.iload 7, 2) := by decide +kernel
theorem dX4_wayIn_159 : decode cX4_wayIn 159 = .ok (.iload 6, 2) := by decide +kernel
theorem dX4_wayIn_161 : decode cX4_wayIn 161 = .ok (.iastore, 1) := by decide +kernel
theorem dX4_wayIn_162 : decode cX4_wayIn 162 = .ok (.iload 4, 2) := by decide +kernel
theorem dX4_wayIn_164 : decode cX4_wayIn 164 = .ok (.iconst 1, 1) := by decide +kernel
theorem dX4_wayIn_165 : decode cX4_wayIn 165 = .ok (.iload 7, 2) := by decide +kernel
theorem dX4_wayIn_167 : decode cX4_wayIn 167 = .ok (.ishl, 1) := by decide +kernel
theorem dX4_wayIn_168 : decode cX4_wayIn 168 = .ok (.iconst 1, 1) := by decide +kernel
theorem dX4_wayIn_169 : decode cX4_wayIn 169 = .ok (.iload 8, 2) := by decide +kernel
theorem dX4_wayIn_171 : decode cX4_wayIn 171 = .ok (.ishl, 1) := by decide +kernel
theorem dX4_wayIn_172 : decode cX4_wayIn 172 = .ok (.ior, 1) := by decide +kernel
theorem dX4_wayIn_173 : decode cX4_wayIn 173 = .ok (.ior, 1) := by decide +kernel
theorem dX4_wayIn_174 : decode cX4_wayIn 174 = .ok (.istore 4, 2) := by decide +kernel
theorem dX4_wayIn_176 : decode cX4_wayIn 176 = .ok (.iconst 1, 1) := by decide +kernel
theorem dX4_wayIn_177 : decode cX4_wayIn 177 = .ok (.istore 5, 2) := by decide +kernel
theorem dX4_wayIn_179 : decode cX4_wayIn 179 = .ok (.iinc 6 1, 3) := by decide +kernel
theorem dX4_wayIn_182 : decode cX4_wayIn 182 = .ok (.goto (-130), 3) := by decide +kernel
theorem dX4_wayIn_185 : decode cX4_wayIn 185 = .ok (.goto (-144), 3) := by decide +kernel
theorem dX4_wayIn_188 : decode cX4_wayIn 188 = .ok (.aload_n 0, 1) := by decide +kernel
theorem dX4_wayIn_189 : decode cX4_wayIn 189 = .ok (.getfield 13, 3) := by decide +kernel
theorem dX4_wayIn_192 : decode cX4_wayIn 192 = .ok (.iconst 2, 1) := by decide +kernel
theorem dX4_wayIn_193 : decode cX4_wayIn 193 = .ok (.iload_n 2, 1) := by decide +kernel
theorem dX4_wayIn_194 : decode cX4_wayIn 194 = .ok (.imul, 1) := by decide +kernel
theorem dX4_wayIn_195 : decode cX4_wayIn 195 = .ok (.iconst 1, 1) := by decide +kernel
theorem dX4_wayIn_196 : decode cX4_wayIn 196 = .ok (.iadd, 1) := by decide +kernel
theorem dX4_wayIn_197 : decode cX4_wayIn 197 = .ok (.iaload, 1) := by decide +kernel
theorem dX4_wayIn_198 : decode cX4_wayIn 198 = .ok (.istore 6, 2) := by decide +kernel
theorem dX4_wayIn_200 : decode cX4_wayIn 200 = .ok (.iconst 0, 1) := by decide +kernel
theorem dX4_wayIn_201 : decode cX4_wayIn 201 = .ok (.istore 7, 2) := by decide +kernel
theorem dX4_wayIn_203 : decode cX4_wayIn 203 = .ok (.iload 6, 2) := by decide +kernel
theorem dX4_wayIn_205 : decode cX4_wayIn 205 = .ok (.iload_n 3, 1) := by decide +kernel
theorem dX4_wayIn_206 : decode cX4_wayIn 206 = .ok (.if_icmp .eq 73, 3) := by decide +kernel
theorem dX4_wayIn_209 : decode cX4_wayIn 209 = .ok (.aload_n 0, 1) := by decide +kernel
theorem dX4_wayIn_210 : decode cX4_wayIn 210 = .ok (.getfield 36, 3) := by decide +kernel
theorem dX4_wayIn_213 : decode cX4_wayIn 213 = .ok (.iload 6, 2) := by decide +kernel
theorem dX4_wayIn_215 : decode cX4_wayIn 215 = .ok (.iaload, 1) := by decide +kernel
theorem dX4_wayIn_216 : decode cX4_wayIn 216 = .ok (.ifCond .lt 63, 3) := by decide +kernel
theorem dX4_wayIn_219 : decode cX4_wayIn 219 = .ok (.aload_n 0, 1) := by decide +kernel
theorem dX4_wayIn_220 : decode cX4_wayIn 220 = .ok (.getfield 36, 3) := by decide +kernel
theorem dX4_wayIn_223 : decode cX4_wayIn 223 = .ok (.iload 6, 2) := by decide +kernel
theorem dX4_wayIn_225 : decode cX4_wayIn 225 = .ok (.iaload, 1) := by decide +kernel
theorem dX4_wayIn_226 : decode cX4_wayIn 226 = .ok (.istore 8, 2) := by decide +kernel
theorem dX4_wayIn_228 : decode cX4_wayIn 228 = .ok (.iload 7, 2) := by decide +kernel
theorem dX4_wayIn_230 : decode cX4_wayIn 230 = .ok (.iconst 1, 1) := by decide +kernel
theorem dX4_wayIn_231 : decode cX4_wayIn 231 = .ok (.iload 8, 2) := by decide +kernel
theorem dX4_wayIn_233 : decode cX4_wayIn 233 = .ok (.ishl, 1) := by decide +kernel
theorem dX4_wayIn_234 : decode cX4_wayIn 234 = .ok (.ior, 1) := by decide +kernel
theorem dX4_wayIn_235 : decode cX4_wayIn 235 = .ok (.istore 7, 2) := by decide +kernel
theorem dX4_wayIn_237 : decode cX4_wayIn 237 = .ok (.aload_n 0, 1) := by decide +kernel
theorem dX4_wayIn_238 : decode cX4_wayIn 238 = .ok (.getfield 13, 3) := by decide +kernel
theorem dX4_wayIn_241 : decode cX4_wayIn 241 = .ok (.iconst 2, 1) := by decide +kernel
theorem dX4_wayIn_242 : decode cX4_wayIn 242 = .ok (.iload 8, 2) := by decide +kernel
theorem dX4_wayIn_244 : decode cX4_wayIn 244 = .ok (.imul, 1) := by decide +kernel
theorem dX4_wayIn_245 : decode cX4_wayIn 245 = .ok (.iaload, 1) := by decide +kernel
theorem dX4_wayIn_246 : decode cX4_wayIn 246 = .ok (.iload 6, 2) := by decide +kernel
theorem dX4_wayIn_248 : decode cX4_wayIn 248 = .ok (.if_icmp .ne 17, 3) := by decide +kernel
theorem dX4_wayIn_251 : decode cX4_wayIn 251 = .ok (.aload_n 0, 1) := by decide +kernel
theorem dX4_wayIn_252 : decode cX4_wayIn 252 = .ok (.getfield 13, 3) := by decide +kernel
theorem dX4_wayIn_255 : decode cX4_wayIn 255 = .ok (.iconst 2, 1) := by decide +kernel
theorem dX4_wayIn_256 : decode cX4_wayIn 256 = .ok (.iload 8, 2) := by decide +kernel
theorem dX4_wayIn_258 : decode cX4_wayIn 258 = .ok (.imul, 1) := by decide +kernel
theorem dX4_wayIn_259 : decode cX4_wayIn 259 = .ok (.iconst 1, 1) := by decide +kernel
theorem dX4_wayIn_260 : decode cX4_wayIn 260 = .ok (.iadd, 1) := by decide +kernel
theorem dX4_wayIn_261 : decode cX4_wayIn 261 = .ok (.iaload, 1) := by decide +kernel
theorem dX4_wayIn_262 : decode cX4_wayIn 262 = .ok (.goto 12, 3) := by decide +kernel
theorem dX4_wayIn_265 : decode cX4_wayIn 265 = .ok (.aload_n 0, 1) := by decide +kernel
theorem dX4_wayIn_266 : decode cX4_wayIn 266 = .ok (.getfield 13, 3) := by decide +kernel
theorem dX4_wayIn_269 : decode cX4_wayIn 269 = .ok (.iconst 2, 1) := by decide +kernel
theorem dX4_wayIn_270 : decode cX4_wayIn 270 = .ok (.iload 8, 2) := by decide +kernel
theorem dX4_wayIn_272 : decode cX4_wayIn 272 = .ok (.imul, 1) := by decide +kernel
theorem dX4_wayIn_273 : decode cX4_wayIn 273 = .ok (.iaload, 1) := by decide +kernel
theorem dX4_wayIn_274 : decode cX4_wayIn 274 = .ok (.istore 6, 2) := by decide +kernel
theorem dX4_wayIn_276 : decode cX4_wayIn 276 = .ok (.goto (-73), 3) := by decide +kernel
theorem dX4_wayIn_279 : decode cX4_wayIn 279 = .ok (.iload 7, 2) := by decide +kernel
theorem dX4_wayIn_281 : decode cX4_wayIn 281 = .ok (.ireturn, 1) := by decide +kernel
theorem dX4_place_0 : decode cX4_place 0 = .ok (.iconst 0, 1) := by decide +kernel
theorem dX4_place_1 : decode cX4_place 1 = .ok (.istore_n 3, 1) := by decide +kernel
theorem dX4_place_2 : decode cX4_place 2 = .ok (.iload_n 3, 1) := by decide +kernel
theorem dX4_place_3 : decode cX4_place 3 = .ok (.bipush 24, 2) := by decide +kernel
theorem dX4_place_5 : decode cX4_place 5 = .ok (.if_icmp .ge 16, 3) := by decide +kernel
theorem dX4_place_8 : decode cX4_place 8 = .ok (.aload_n 0, 1) := by decide +kernel
theorem dX4_place_9 : decode cX4_place 9 = .ok (.getfield 30, 3) := by decide +kernel
theorem dX4_place_12 : decode cX4_place 12 = .ok (.iload_n 3, 1) := by decide +kernel
theorem dX4_place_13 : decode cX4_place 13 = .ok (.iconst (-1), 1) := by decide +kernel
theorem dX4_place_14 : decode cX4_place 14 = .ok (.iastore, 1) := by decide +kernel
theorem dX4_place_15 : decode cX4_place 15 = .ok (.iinc 3 1, 3) := by decide +kernel
theorem dX4_place_18 : decode cX4_place 18 = .ok (.goto (-16), 3) := by decide +kernel
theorem dX4_place_21 : decode cX4_place 21 = .ok (.iconst 0, 1) := by decide +kernel
theorem dX4_place_22 : decode cX4_place 22 = .ok (.istore_n 3, 1) := by decide +kernel
theorem dX4_place_23 : decode cX4_place 23 = .ok (.iconst 1, 1) := by decide +kernel
theorem dX4_place_24 : decode cX4_place 24 = .ok (.istore 4, 2) := by decide +kernel
theorem dX4_place_26 : decode cX4_place 26 = .ok (.aload_n 0, 1) := by decide +kernel
theorem dX4_place_27 : decode cX4_place 27 = .ok (.getfield 27, 3) := by decide +kernel
theorem dX4_place_30 : decode cX4_place 30 = .ok (.iconst 0, 1) := by decide +kernel
theorem dX4_place_31 : decode cX4_place 31 = .ok (.iload_n 1, 1) := by decide +kernel
theorem dX4_place_32 : decode cX4_place 32 = .ok (.iastore, 1) := by decide +kernel
theorem dX4_place_33 : decode cX4_place 33 = .ok (.aload_n 0, 1) := by decide +kernel
theorem dX4_place_34 : decode cX4_place 34 = .ok (.getfield 30, 3) := by decide +kernel
theorem dX4_place_37 : decode cX4_place 37 = .ok (.iload_n 1, 1) := by decide +kernel
theorem dX4_place_38 : decode cX4_place 38 = .ok (.iload_n 1, 1) := by decide +kernel
theorem dX4_place_39 : decode cX4_place 39 = .ok (.iastore, 1) := by decide +kernel
theorem dX4_place_40 : decode cX4_place 40 = .ok (.iload_n 3, 1) := by decide +kernel
theorem dX4_place_41 : decode cX4_place 41 = .ok (.iload 4, 2) := by decide +kernel
theorem dX4_place_43 : decode cX4_place 43 = .ok (.if_icmp .ge 138, 3) := by decide +kernel
theorem dX4_place_46 : decode cX4_place 46 = .ok (.aload_n 0, 1) := by decide +kernel
theorem dX4_place_47 : decode cX4_place 47 = .ok (.getfield 27, 3) := by decide +kernel
theorem dX4_place_50 : decode cX4_place 50 = .ok (.iload_n 3, 1) := by decide +kernel
theorem dX4_place_51 : decode cX4_place 51 = .ok (.iaload, 1) := by decide +kernel
theorem dX4_place_52 : decode cX4_place 52 = .ok (.istore 5, 2) := by decide +kernel
theorem dX4_place_54 : decode cX4_place 54 = .ok (.iinc 3 1, 3) := by decide +kernel
theorem dX4_place_57 : decode cX4_place 57 = .ok (.iconst 0, 1) := by decide +kernel
theorem dX4_place_58 : decode cX4_place 58 = .ok (.istore 6, 2) := by decide +kernel
theorem dX4_place_60 : decode cX4_place 60 = .ok (.iload 6, 2) := by decide +kernel
theorem dX4_place_62 : decode cX4_place 62 = .ok (.iload_n 2, 1) := by decide +kernel
theorem dX4_place_63 : decode cX4_place 63 = .ok (.if_icmp .ge 115, 3) := by decide +kernel
theorem dX4_place_66 : decode cX4_place 66 = .ok (.aload_n 0, 1) := by decide +kernel
theorem dX4_place_67 : decode cX4_place 67 = .ok (.getfield 21, 3) := by decide +kernel
theorem dX4_place_70 : decode cX4_place 70 = .ok (.iload 5, 2) := by decide +kernel
theorem dX4_place_72 : decode cX4_place 72 = .ok (.iaload, 1) := by decide +kernel
theorem dX4_place_73 : decode cX4_place 73 = .ok (.iload 6, 2) := by decide +kernel
theorem dX4_place_75 : decode cX4_place 75 = .ok (.if_icmp .eq 97, 3) := by decide +kernel
theorem dX4_place_78 : decode cX4_place 78 = .ok (.aload_n 0, 1) := by decide +kernel
theorem dX4_place_79 : decode cX4_place 79 = .ok (.iload 6, 2) := by decide +kernel
theorem dX4_place_81 : decode cX4_place 81 = .ok (.iload 5, 2) := by decide +kernel
theorem dX4_place_83 : decode cX4_place 83 = .ok (.invokevirtual 82, 3) := by decide +kernel
theorem dX4_place_86 : decode cX4_place 86 = .ok (.istore 7, 2) := by decide +kernel
theorem dX4_place_88 : decode cX4_place 88 = .ok (.iload 7, 2) := by decide +kernel
theorem dX4_place_90 : decode cX4_place 90 = .ok (.ifCond .ne 14, 3) := by decide +kernel
theorem dX4_place_93 : decode cX4_place 93 = .ok (.aload_n 0, 1) := by decide +kernel
theorem dX4_place_94 : decode cX4_place 94 = .ok (.iload 5, 2) := by decide +kernel
theorem dX4_place_96 : decode cX4_place 96 = .ok (.iload 6, 2) := by decide +kernel
theorem dX4_place_98 : decode cX4_place 98 = .ok (.iload_n 1, 1) := by decide +kernel
theorem dX4_place_99 : decode cX4_place 99 = .ok (.invokevirtual 86, 3) := by decide +kernel
theorem dX4_place_102 : decode cX4_place 102 = .ok (.iconst 1, 1) := by decide +kernel
theorem dX4_place_103 : decode cX4_place 103 = .ok (.ireturn, 1) := by decide +kernel
theorem dX4_place_104 : decode cX4_place 104 = .ok (.iconst 0, 1) := by decide +kernel
theorem dX4_place_105 : decode cX4_place 105 = .ok (.istore 8, 2) := by decide +kernel
theorem dX4_place_107 : decode cX4_place 107 = .ok (.iload 8, 2) := by decide +kernel
theorem dX4_place_109 : decode cX4_place 109 = .ok (.bipush 24, 2) := by decide +kernel
theorem dX4_place_111 : decode cX4_place 111 = .ok (.if_icmp .ge 61, 3) := by decide +kernel
theorem dX4_place_114 : decode cX4_place 114 = .ok (.iload 7, 2) := by decide +kernel
theorem dX4_place_116 : decode cX4_place 116 = .ok (.iload 8, 2) := by decide +kernel
theorem dX4_place_118 : decode cX4_place 118 = .ok (.ishr, 1) := by decide +kernel
theorem dX4_place_119 : decode cX4_place 119 = .ok (.iconst 1, 1) := by decide +kernel
theorem dX4_place_120 : decode cX4_place 120 = .ok (.iand, 1) := by decide +kernel
theorem dX4_place_121 : decode cX4_place 121 = .ok (.iconst 1, 1) := by decide +kernel
theorem dX4_place_122 : decode cX4_place 122 = .ok (.if_icmp .ne 44, 3) := by decide +kernel
theorem dX4_place_125 : decode cX4_place 125 = .ok (.aload_n 0, 1) := by decide +kernel
theorem dX4_place_126 : decode cX4_place 126 = .ok (.getfield 24, 3) := by decide +kernel
theorem dX4_place_129 : decode cX4_place 129 = .ok (.iload 8, 2) := by decide +kernel
theorem dX4_place_131 : decode cX4_place 131 = .ok (.baload, 1) := by decide +kernel
theorem dX4_place_132 : decode cX4_place 132 = .ok (.ifCond .ne 34, 3) := by decide +kernel
theorem dX4_place_135 : decode cX4_place 135 = .ok (.aload_n 0, 1) := by decide +kernel
theorem dX4_place_136 : decode cX4_place 136 = .ok (.getfield 30, 3) := by decide +kernel
theorem dX4_place_139 : decode cX4_place 139 = .ok (.iload 8, 2) := by decide +kernel
theorem dX4_place_141 : decode cX4_place 141 = .ok (.iaload, 1) := by decide +kernel
theorem dX4_place_142 : decode cX4_place 142 = .ok (.ifCond .ge 24, 3) := by decide +kernel
theorem dX4_place_145 : decode cX4_place 145 = .ok (.aload_n 0, 1) := by decide +kernel
theorem dX4_place_146 : decode cX4_place 146 = .ok (.getfield 30, 3) := by decide +kernel
theorem dX4_place_149 : decode cX4_place 149 = .ok (.iload 8, 2) := by decide +kernel
theorem dX4_place_151 : decode cX4_place 151 = .ok (.iload 5, 2) := by decide +kernel
theorem dX4_place_153 : decode cX4_place 153 = .ok (.iastore, 1) := by decide +kernel
theorem dX4_place_154 : decode cX4_place 154 = .ok (.aload_n 0, 1) := by decide +kernel
theorem dX4_place_155 : decode cX4_place 155 = .ok (.getfield 27, 3) := by decide +kernel
theorem dX4_place_158 : decode cX4_place 158 = .ok (.iload 4, 2) := by decide +kernel
theorem dX4_place_160 : decode cX4_place 160 = .ok (.iload 8, 2) := by decide +kernel
theorem dX4_place_162 : decode cX4_place 162 = .ok (.iastore, 1) := by decide +kernel
theorem dX4_place_163 : decode cX4_place 163 = .ok (.iinc 4 1, 3) := by decide +kernel
theorem dX4_place_166 : decode cX4_place 166 = .ok (.iinc 8 1, 3) := by decide +kernel
theorem dX4_place_169 : decode cX4_place 169 = .ok (.goto (-62), 3) := by decide +kernel
theorem dX4_place_172 : decode cX4_place 172 = .ok (.iinc 6 1, 3) := by decide +kernel
theorem dX4_place_175 : decode cX4_place 175 = .ok (.goto (-115), 3) := by decide +kernel
theorem dX4_place_178 : decode cX4_place 178 = .ok (.goto (-138), 3) := by decide +kernel
theorem dX4_place_181 : decode cX4_place 181 = .ok (.iconst 0, 1) := by decide +kernel
theorem dX4_place_182 : decode cX4_place 182 = .ok (.ireturn, 1) := by decide +kernel
theorem dX4_shift_0 : decode cX4_shift 0 = .ok (.iload_n 1, 1) := by decide +kernel
theorem dX4_shift_1 : decode cX4_shift 1 = .ok (.istore 4, 2) := by decide +kernel
theorem dX4_shift_3 : decode cX4_shift 3 = .ok (.iload_n 2, 1) := by decide +kernel
theorem dX4_shift_4 : decode cX4_shift 4 = .ok (.istore 5, 2) := by decide +kernel
theorem dX4_shift_6 : decode cX4_shift 6 = .ok (.iconst 1, 1) := by decide +kernel
theorem dX4_shift_7 : decode cX4_shift 7 = .ok (.istore 6, 2) := by decide +kernel
theorem dX4_shift_9 : decode cX4_shift 9 = .ok (.iload 6, 2) := by decide +kernel
theorem dX4_shift_11 : decode cX4_shift 11 = .ok (.ifCond .eq 50, 3) := by decide +kernel
theorem dX4_shift_14 : decode cX4_shift 14 = .ok (.aload_n 0, 1) := by decide +kernel
theorem dX4_shift_15 : decode cX4_shift 15 = .ok (.getfield 21, 3) := by decide +kernel
theorem dX4_shift_18 : decode cX4_shift 18 = .ok (.iload 4, 2) := by decide +kernel
theorem dX4_shift_20 : decode cX4_shift 20 = .ok (.iaload, 1) := by decide +kernel
theorem dX4_shift_21 : decode cX4_shift 21 = .ok (.istore 7, 2) := by decide +kernel
theorem dX4_shift_23 : decode cX4_shift 23 = .ok (.aload_n 0, 1) := by decide +kernel
theorem dX4_shift_24 : decode cX4_shift 24 = .ok (.getfield 21, 3) := by decide +kernel
theorem dX4_shift_27 : decode cX4_shift 27 = .ok (.iload 4, 2) := by decide +kernel
theorem dX4_shift_29 : decode cX4_shift 29 = .ok (.iload 5, 2) := by decide +kernel
theorem dX4_shift_31 : decode cX4_shift 31 = .ok (.iastore, 1) := by decide +kernel
theorem dX4_shift_32 : decode cX4_shift 32 = .ok (.iload 7, 2) := by decide +kernel
theorem dX4_shift_34 : decode cX4_shift 34 = .ok (.istore 5, 2) := by decide +kernel
theorem dX4_shift_36 : decode cX4_shift 36 = .ok (.iload 4, 2) := by decide +kernel
theorem dX4_shift_38 : decode cX4_shift 38 = .ok (.iload_n 3, 1) := by decide +kernel
theorem dX4_shift_39 : decode cX4_shift 39 = .ok (.if_icmp .eq 7, 3) := by decide +kernel
theorem dX4_shift_42 : decode cX4_shift 42 = .ok (.iconst 1, 1) := by decide +kernel
theorem dX4_shift_43 : decode cX4_shift 43 = .ok (.goto 4, 3) := by decide +kernel
theorem dX4_shift_46 : decode cX4_shift 46 = .ok (.iconst 0, 1) := by decide +kernel
theorem dX4_shift_47 : decode cX4_shift 47 = .ok (.istore 6, 2) := by decide +kernel
theorem dX4_shift_49 : decode cX4_shift 49 = .ok (.aload_n 0, 1) := by decide +kernel
theorem dX4_shift_50 : decode cX4_shift 50 = .ok (.getfield 30, 3) := by decide +kernel
theorem dX4_shift_53 : decode cX4_shift 53 = .ok (.iload 4, 2) := by decide +kernel
theorem dX4_shift_55 : decode cX4_shift 55 = .ok (.iaload, 1) := by decide +kernel
theorem dX4_shift_56 : decode cX4_shift 56 = .ok (.istore 4, 2) := by decide +kernel
theorem dX4_shift_58 : decode cX4_shift 58 = .ok (.goto (-49), 3) := by decide +kernel
theorem dX4_shift_61 : decode cX4_shift 61 = .ok (.return_, 1) := by decide +kernel
theorem dX4_move_0 : decode cX4_move 0 = .ok (.iconst 0, 1) := by decide +kernel
theorem dX4_move_1 : decode cX4_move 1 = .ok (.istore 4, 2) := by decide +kernel
theorem dX4_move_3 : decode cX4_move 3 = .ok (.iload 4, 2) := by decide +kernel
theorem dX4_move_5 : decode cX4_move 5 = .ok (.bipush 24, 2) := by decide +kernel
theorem dX4_move_7 : decode cX4_move 7 = .ok (.if_icmp .ge 23, 3) := by decide +kernel
theorem dX4_move_10 : decode cX4_move 10 = .ok (.aload_n 0, 1) := by decide +kernel
theorem dX4_move_11 : decode cX4_move 11 = .ok (.getfield 39, 3) := by decide +kernel
theorem dX4_move_14 : decode cX4_move 14 = .ok (.iload 4, 2) := by decide +kernel
theorem dX4_move_16 : decode cX4_move 16 = .ok (.aload_n 0, 1) := by decide +kernel
theorem dX4_move_17 : decode cX4_move 17 = .ok (.getfield 21, 3) := by decide +kernel
theorem dX4_move_20 : decode cX4_move 20 = .ok (.iload 4, 2) := by decide +kernel
theorem dX4_move_22 : decode cX4_move 22 = .ok (.iaload, 1) := by decide +kernel
theorem dX4_move_23 : decode cX4_move 23 = .ok (.iastore, 1) := by decide +kernel
theorem dX4_move_24 : decode cX4_move 24 = .ok (.iinc 4 1, 3) := by decide +kernel
theorem dX4_move_27 : decode cX4_move 27 = .ok (.goto (-24), 3) := by decide +kernel
theorem dX4_move_30 : decode cX4_move 30 = .ok (.aload_n 0, 1) := by decide +kernel
theorem dX4_move_31 : decode cX4_move 31 = .ok (.iload_n 2, 1) := by decide +kernel
theorem dX4_move_32 : decode cX4_move 32 = .ok (.iload_n 1, 1) := by decide +kernel
theorem dX4_move_33 : decode cX4_move 33 = .ok (.invokevirtual 82, 3) := by decide +kernel
theorem dX4_move_36 : decode cX4_move 36 = .ok (.istore 4, 2) := by decide +kernel
theorem dX4_move_38 : decode cX4_move 38 = .ok (.aload_n 0, 1) := by decide +kernel
theorem dX4_move_39 : decode cX4_move 39 = .ok (.getfield 21, 3) := by decide +kernel
theorem dX4_move_42 : decode cX4_move 42 = .ok (.iload_n 1, 1) := by decide +kernel
theorem dX4_move_43 : decode cX4_move 43 = .ok (.iload_n 2, 1) := by decide +kernel
theorem dX4_move_44 : decode cX4_move 44 = .ok (.iastore, 1) := by decide +kernel
theorem dX4_move_45 : decode cX4_move 45 = .ok (.aload_n 0, 1) := by decide +kernel
theorem dX4_move_46 : decode cX4_move 46 = .ok (.getfield 24, 3) := by decide +kernel
theorem dX4_move_49 : decode cX4_move 49 = .ok (.iload_n 1, 1) := by decide +kernel
theorem dX4_move_50 : decode cX4_move 50 = .ok (.iconst 1, 1) := by decide +kernel
theorem dX4_move_51 : decode cX4_move 51 = .ok (.bastore, 1) := by decide +kernel
theorem dX4_move_52 : decode cX4_move 52 = .ok (.iconst (-1), 1) := by decide +kernel
theorem dX4_move_53 : decode cX4_move 53 = .ok (.istore 5, 2) := by decide +kernel
theorem dX4_move_55 : decode cX4_move 55 = .ok (.iconst 0, 1) := by decide +kernel
theorem dX4_move_56 : decode cX4_move 56 = .ok (.istore 6, 2) := by decide +kernel
theorem dX4_move_58 : decode cX4_move 58 = .ok (.iload 6, 2) := by decide +kernel
theorem dX4_move_60 : decode cX4_move 60 = .ok (.bipush 24, 2) := by decide +kernel
theorem dX4_move_62 : decode cX4_move 62 = .ok (.if_icmp .ge 39, 3) := by decide +kernel
theorem dX4_move_65 : decode cX4_move 65 = .ok (.iload 4, 2) := by decide +kernel
theorem dX4_move_67 : decode cX4_move 67 = .ok (.iload 6, 2) := by decide +kernel
theorem dX4_move_69 : decode cX4_move 69 = .ok (.ishr, 1) := by decide +kernel
theorem dX4_move_70 : decode cX4_move 70 = .ok (.iconst 1, 1) := by decide +kernel
theorem dX4_move_71 : decode cX4_move 71 = .ok (.iand, 1) := by decide +kernel
theorem dX4_move_72 : decode cX4_move 72 = .ok (.iconst 1, 1) := by decide +kernel
theorem dX4_move_73 : decode cX4_move 73 = .ok (.if_icmp .ne 18, 3) := by decide +kernel
theorem dX4_move_76 : decode cX4_move 76 = .ok (.aload_n 0, 1) := by decide +kernel
theorem dX4_move_77 : decode cX4_move 77 = .ok (.getfield 24, 3) := by decide +kernel
theorem dX4_move_80 : decode cX4_move 80 = .ok (.iload 6, 2) := by decide +kernel
theorem dX4_move_82 : decode cX4_move 82 = .ok (.baload, 1) := by decide +kernel
theorem dX4_move_83 : decode cX4_move 83 = .ok (.ifCond .ne 8, 3) := by decide +kernel
theorem dX4_move_86 : decode cX4_move 86 = .ok (.iload 6, 2) := by decide +kernel
theorem dX4_move_88 : decode cX4_move 88 = .ok (.goto 5, 3) := by decide +kernel
theorem dX4_move_91 : decode cX4_move 91 = .ok (.iload 5, 2) := by decide +kernel
theorem dX4_move_93 : decode cX4_move 93 = .ok (.istore 5, 2) := by decide +kernel
theorem dX4_move_95 : decode cX4_move 95 = .ok (.iinc 6 1, 3) := by decide +kernel
theorem dX4_move_98 : decode cX4_move 98 = .ok (.goto (-40), 3) := by decide +kernel
theorem dX4_move_101 : decode cX4_move 101 = .ok (.iload 4, 2) := by decide +kernel
theorem dX4_move_103 : decode cX4_move 103 = .ok (.ifCond .ne 7, 3) := by decide +kernel
theorem dX4_move_106 : decode cX4_move 106 = .ok (.iconst 1, 1) := by decide +kernel
theorem dX4_move_107 : decode cX4_move 107 = .ok (.goto 4, 3) := by decide +kernel
theorem dX4_move_110 : decode cX4_move 110 = .ok (.iconst 0, 1) := by decide +kernel
theorem dX4_move_111 : decode cX4_move 111 = .ok (.istore 6, 2) := by decide +kernel
theorem dX4_move_113 : decode cX4_move 113 = .ok (.iload 5, 2) := by decide +kernel
theorem dX4_move_115 : decode cX4_move 115 = .ok (.ifCond .lt 20, 3) := by decide +kernel
theorem dX4_move_118 : decode cX4_move 118 = .ok (.aload_n 0, 1) := by decide +kernel
theorem dX4_move_119 : decode cX4_move 119 = .ok (.getfield 21, 3) := by decide +kernel
theorem dX4_move_122 : decode cX4_move 122 = .ok (.iload 5, 2) := by decide +kernel
theorem dX4_move_124 : decode cX4_move 124 = .ok (.iconst (-1), 1) := by decide +kernel
theorem dX4_move_125 : decode cX4_move 125 = .ok (.iastore, 1) := by decide +kernel
theorem dX4_move_126 : decode cX4_move 126 = .ok (.aload_n 0, 1) := by decide +kernel
theorem dX4_move_127 : decode cX4_move 127 = .ok (.iload 5, 2) := by decide +kernel
theorem dX4_move_129 : decode cX4_move 129 = .ok (.iload_n 3, 1) := by decide +kernel
theorem dX4_move_130 : decode cX4_move 130 = .ok (.invokevirtual 90, 3) := by decide +kernel
theorem dX4_move_133 : decode cX4_move 133 = .ok (.istore 6, 2) := by decide +kernel
theorem dX4_move_135 : decode cX4_move 135 = .ok (.iload 6, 2) := by decide +kernel
theorem dX4_move_137 : decode cX4_move 137 = .ok (.ifCond .ne 33, 3) := by decide +kernel
theorem dX4_move_140 : decode cX4_move 140 = .ok (.iconst 0, 1) := by decide +kernel
theorem dX4_move_141 : decode cX4_move 141 = .ok (.istore 7, 2) := by decide +kernel
theorem dX4_move_143 : decode cX4_move 143 = .ok (.iload 7, 2) := by decide +kernel
theorem dX4_move_145 : decode cX4_move 145 = .ok (.bipush 24, 2) := by decide +kernel
theorem dX4_move_147 : decode cX4_move 147 = .ok (.if_icmp .ge 23, 3) := by decide +kernel
theorem dX4_move_150 : decode cX4_move 150 = .ok (.aload_n 0, 1) := by decide +kernel
theorem dX4_move_151 : decode cX4_move 151 = .ok (.getfield 21, 3) := by decide +kernel
theorem dX4_move_154 : decode cX4_move 154 = .ok (.iload 7, 2) := by decide +kernel
theorem dX4_move_156 : decode cX4_move 156 = .ok (.aload_n 0, 1) := by decide +kernel
theorem dX4_move_157 : decode cX4_move 157 = .ok (.getfield 39, 3) := by decide +kernel
theorem dX4_move_160 : decode cX4_move 160 = .ok (.iload 7, 2) := by decide +kernel
theorem dX4_move_162 : decode cX4_move 162 = .ok (.iaload, 1) := by decide +kernel
theorem dX4_move_163 : decode cX4_move 163 = .ok (.iastore, 1) := by decide +kernel
theorem dX4_move_164 : decode cX4_move 164 = .ok (.iinc 7 1, 3) := by decide +kernel
theorem dX4_move_167 : decode cX4_move 167 = .ok (.goto (-24), 3) := by decide +kernel
theorem dX4_move_170 : decode cX4_move 170 = .ok (.aload_n 0, 1) := by decide +kernel
theorem dX4_move_171 : decode cX4_move 171 = .ok (.getfield 24, 3) := by decide +kernel
theorem dX4_move_174 : decode cX4_move 174 = .ok (.iload_n 1, 1) := by decide +kernel
theorem dX4_move_175 : decode cX4_move 175 = .ok (.iload 6, 2) := by decide +kernel
theorem dX4_move_177 : decode cX4_move 177 = .ok (.bastore, 1) := by decide +kernel
theorem dX4_move_178 : decode cX4_move 178 = .ok (.iload 6, 2) := by decide +kernel
theorem dX4_move_180 : decode cX4_move 180 = .ok (.ireturn, 1) := by decide +kernel
theorem dX4_part_0 : decode cX4_part 0 = .ok (.aload_n 0, 1) := by decide +kernel
theorem dX4_part_1 : decode cX4_part 1 = .ok (.iload_n 1, 1) := by decide +kernel
theorem dX4_part_2 : decode cX4_part 2 = .ok (.invokevirtual 75, 3) := by decide +kernel
theorem dX4_part_5 : decode cX4_part 5 = .ok (.iconst 0, 1) := by decide +kernel
theorem dX4_part_6 : decode cX4_part 6 = .ok (.istore_n 2, 1) := by decide +kernel
theorem dX4_part_7 : decode cX4_part 7 = .ok (.iload_n 2, 1) := by decide +kernel
theorem dX4_part_8 : decode cX4_part 8 = .ok (.bipush 24, 2) := by decide +kernel
theorem dX4_part_10 : decode cX4_part 10 = .ok (.if_icmp .ge 23, 3) := by decide +kernel
theorem dX4_part_13 : decode cX4_part 13 = .ok (.aload_n 0, 1) := by decide +kernel
theorem dX4_part_14 : decode cX4_part 14 = .ok (.getfield 21, 3) := by decide +kernel
theorem dX4_part_17 : decode cX4_part 17 = .ok (.iload_n 2, 1) := by decide +kernel
theorem dX4_part_18 : decode cX4_part 18 = .ok (.iconst (-1), 1) := by decide +kernel
theorem dX4_part_19 : decode cX4_part 19 = .ok (.iastore, 1) := by decide +kernel
theorem dX4_part_20 : decode cX4_part 20 = .ok (.aload_n 0, 1) := by decide +kernel
theorem dX4_part_21 : decode cX4_part 21 = .ok (.getfield 24, 3) := by decide +kernel
theorem dX4_part_24 : decode cX4_part 24 = .ok (.iload_n 2, 1) := by decide +kernel
theorem dX4_part_25 : decode cX4_part 25 = .ok (.iconst 0, 1) := by decide +kernel
theorem dX4_part_26 : decode cX4_part 26 = .ok (.bastore, 1) := by decide +kernel
theorem dX4_part_27 : decode cX4_part 27 = .ok (.iinc 2 1, 3) := by decide +kernel
theorem dX4_part_30 : decode cX4_part 30 = .ok (.goto (-23), 3) := by decide +kernel
theorem dX4_part_33 : decode cX4_part 33 = .ok (.iconst 1, 1) := by decide +kernel
theorem dX4_part_34 : decode cX4_part 34 = .ok (.istore_n 2, 1) := by decide +kernel
theorem dX4_part_35 : decode cX4_part 35 = .ok (.iconst 0, 1) := by decide +kernel
theorem dX4_part_36 : decode cX4_part 36 = .ok (.istore_n 3, 1) := by decide +kernel
theorem dX4_part_37 : decode cX4_part 37 = .ok (.iload_n 3, 1) := by decide +kernel
theorem dX4_part_38 : decode cX4_part 38 = .ok (.bipush 24, 2) := by decide +kernel
theorem dX4_part_40 : decode cX4_part 40 = .ok (.if_icmp .ge 40, 3) := by decide +kernel
theorem dX4_part_43 : decode cX4_part 43 = .ok (.aload_n 0, 1) := by decide +kernel
theorem dX4_part_44 : decode cX4_part 44 = .ok (.getfield 65, 3) := by decide +kernel
theorem dX4_part_47 : decode cX4_part 47 = .ok (.iload_n 3, 1) := by decide +kernel
theorem dX4_part_48 : decode cX4_part 48 = .ok (.ishr, 1) := by decide +kernel
theorem dX4_part_49 : decode cX4_part 49 = .ok (.iconst 1, 1) := by decide +kernel
theorem dX4_part_50 : decode cX4_part 50 = .ok (.iand, 1) := by decide +kernel
theorem dX4_part_51 : decode cX4_part 51 = .ok (.iconst 1, 1) := by decide +kernel
theorem dX4_part_52 : decode cX4_part 52 = .ok (.if_icmp .ne 22, 3) := by decide +kernel
theorem dX4_part_55 : decode cX4_part 55 = .ok (.aload_n 0, 1) := by decide +kernel
theorem dX4_part_56 : decode cX4_part 56 = .ok (.iload_n 3, 1) := by decide +kernel
theorem dX4_part_57 : decode cX4_part 57 = .ok (.iload_n 1, 1) := by decide +kernel
theorem dX4_part_58 : decode cX4_part 58 = .ok (.invokevirtual 90, 3) := by decide +kernel
theorem dX4_part_61 : decode cX4_part 61 = .ok (.ifCond .eq 11, 3) := by decide +kernel
theorem dX4_part_64 : decode cX4_part 64 = .ok (.iload_n 2, 1) := by decide +kernel
theorem dX4_part_65 : decode cX4_part 65 = .ok (.ifCond .eq 7, 3) := by decide +kernel
theorem dX4_part_68 : decode cX4_part 68 = .ok (.iconst 1, 1) := by decide +kernel
theorem dX4_part_69 : decode cX4_part 69 = .ok (.goto 4, 3) := by decide +kernel
theorem dX4_part_72 : decode cX4_part 72 = .ok (.iconst 0, 1) := by decide +kernel
theorem dX4_part_73 : decode cX4_part 73 = .ok (.istore_n 2, 1) := by decide +kernel
theorem dX4_part_74 : decode cX4_part 74 = .ok (.iinc 3 1, 3) := by decide +kernel
theorem dX4_part_77 : decode cX4_part 77 = .ok (.goto (-40), 3) := by decide +kernel
theorem dX4_part_80 : decode cX4_part 80 = .ok (.iconst 0, 1) := by decide +kernel
theorem dX4_part_81 : decode cX4_part 81 = .ok (.istore_n 3, 1) := by decide +kernel
theorem dX4_part_82 : decode cX4_part 82 = .ok (.iload_n 3, 1) := by decide +kernel
theorem dX4_part_83 : decode cX4_part 83 = .ok (.bipush 24, 2) := by decide +kernel
theorem dX4_part_85 : decode cX4_part 85 = .ok (.if_icmp .ge 88, 3) := by decide +kernel
theorem dX4_part_88 : decode cX4_part 88 = .ok (.iload_n 2, 1) := by decide +kernel
theorem dX4_part_89 : decode cX4_part 89 = .ok (.ifCond .eq 84, 3) := by decide +kernel
theorem dX4_part_92 : decode cX4_part 92 = .ok (.aload_n 0, 1) := by decide +kernel
theorem dX4_part_93 : decode cX4_part 93 = .ok (.getfield 65, 3) := by decide +kernel
theorem dX4_part_96 : decode cX4_part 96 = .ok (.iload_n 3, 1) := by decide +kernel
theorem dX4_part_97 : decode cX4_part 97 = .ok (.ishr, 1) := by decide +kernel
theorem dX4_part_98 : decode cX4_part 98 = .ok (.iconst 1, 1) := by decide +kernel
theorem dX4_part_99 : decode cX4_part 99 = .ok (.iand, 1) := by decide +kernel
theorem dX4_part_100 : decode cX4_part 100 = .ok (.ifCond .ne 7, 3) := by decide +kernel
theorem dX4_part_103 : decode cX4_part 103 = .ok (.iconst 1, 1) := by decide +kernel
theorem dX4_part_104 : decode cX4_part 104 = .ok (.goto 4, 3) := by decide +kernel
theorem dX4_part_107 : decode cX4_part 107 = .ok (.iconst 0, 1) := by decide +kernel
theorem dX4_part_108 : decode cX4_part 108 = .ok (.istore 4, 2) := by decide +kernel
theorem dX4_part_110 : decode cX4_part 110 = .ok (.iconst 0, 1) := by decide +kernel
theorem dX4_part_111 : decode cX4_part 111 = .ok (.istore 5, 2) := by decide +kernel
theorem dX4_part_113 : decode cX4_part 113 = .ok (.iload 5, 2) := by decide +kernel
theorem dX4_part_115 : decode cX4_part 115 = .ok (.iload_n 1, 1) := by decide +kernel
theorem dX4_part_116 : decode cX4_part 116 = .ok (.if_icmp .ge 51, 3) := by decide +kernel
theorem dX4_part_119 : decode cX4_part 119 = .ok (.iload 4, 2) := by decide +kernel
theorem dX4_part_121 : decode cX4_part 121 = .ok (.ifCond .ne 46, 3) := by decide +kernel
theorem dX4_part_124 : decode cX4_part 124 = .ok (.aload_n 0, 1) := by decide +kernel
theorem dX4_part_125 : decode cX4_part 125 = .ok (.getfield 21, 3) := by decide +kernel
theorem dX4_part_128 : decode cX4_part 128 = .ok (.iload_n 3, 1) := by decide +kernel
theorem dX4_part_129 : decode cX4_part 129 = .ok (.iaload, 1) := by decide +kernel
theorem dX4_part_130 : decode cX4_part 130 = .ok (.iload 5, 2) := by decide +kernel
theorem dX4_part_132 : decode cX4_part 132 = .ok (.if_icmp .eq 14, 3) := by decide +kernel
theorem dX4_part_135 : decode cX4_part 135 = .ok (.aload_n 0, 1) := by decide +kernel
theorem dX4_part_136 : decode cX4_part 136 = .ok (.iload_n 3, 1) := by decide +kernel
theorem dX4_part_137 : decode cX4_part 137 = .ok (.iload 5, 2) := by decide +kernel
theorem dX4_part_139 : decode cX4_part 139 = .ok (.iload_n 1, 1) := by decide +kernel
theorem dX4_part_140 : decode cX4_part 140 = .ok (.invokevirtual 94, 3) := by decide +kernel
theorem dX4_part_143 : decode cX4_part 143 = .ok (.ifCond .eq 7, 3) := by decide +kernel
theorem dX4_part_146 : decode cX4_part 146 = .ok (.iconst 1, 1) := by decide +kernel
theorem dX4_part_147 : decode cX4_part 147 = .ok (.goto 4, 3) := by decide +kernel
theorem dX4_part_150 : decode cX4_part 150 = .ok (.iconst 0, 1) := by decide +kernel
theorem dX4_part_151 : decode cX4_part 151 = .ok (.istore 4, 2) := by decide +kernel
theorem dX4_part_153 : decode cX4_part 153 = .ok (.aload_n 0, 1) := by decide +kernel
theorem dX4_part_154 : decode cX4_part 154 = .ok (.getfield 24, 3) := by decide +kernel
theorem dX4_part_157 : decode cX4_part 157 = .ok (.iload_n 3, 1) := by decide +kernel
theorem dX4_part_158 : decode cX4_part 158 = .ok (.iload 4, 2) := by decide +kernel
theorem dX4_part_160 : decode cX4_part 160 = .ok (.bastore, 1) := by decide +kernel
theorem dX4_part_161 : decode cX4_part 161 = .ok (.iinc 5 1, 3) := by decide +kernel
theorem dX4_part_164 : decode cX4_part 164 = .ok (.goto (-51), 3) := by decide +kernel
theorem dX4_part_167 : decode cX4_part 167 = .ok (.iinc 3 1, 3) := by decide +kernel
theorem dX4_part_170 : decode cX4_part 170 = .ok (.goto (-88), 3) := by decide +kernel
theorem dX4_part_173 : decode cX4_part 173 = .ok (.return_, 1) := by decide +kernel
theorem dX4_forest_0 : decode cX4_forest 0 = .ok (.iload_n 1, 1) := by decide +kernel
theorem dX4_forest_1 : decode cX4_forest 1 = .ok (.invokestatic 72, 3) := by decide +kernel
theorem dX4_forest_4 : decode cX4_forest 4 = .ok (.ifCond .ne 6, 3) := by decide +kernel
theorem dX4_forest_7 : decode cX4_forest 7 = .ok (.bipush (-2), 2) := by decide +kernel
theorem dX4_forest_9 : decode cX4_forest 9 = .ok (.ireturn, 1) := by decide +kernel
theorem dX4_forest_10 : decode cX4_forest 10 = .ok (.aload_n 0, 1) := by decide +kernel
theorem dX4_forest_11 : decode cX4_forest 11 = .ok (.iload_n 2, 1) := by decide +kernel
theorem dX4_forest_12 : decode cX4_forest 12 = .ok (.invokevirtual 54, 3) := by decide +kernel
theorem dX4_forest_15 : decode cX4_forest 15 = .ok (.ifCond .ne 5, 3) := by decide +kernel
theorem dX4_forest_18 : decode cX4_forest 18 = .ok (.iconst (-1), 1) := by decide +kernel
theorem dX4_forest_19 : decode cX4_forest 19 = .ok (.ireturn, 1) := by decide +kernel
theorem dX4_forest_20 : decode cX4_forest 20 = .ok (.aload_n 0, 1) := by decide +kernel
theorem dX4_forest_21 : decode cX4_forest 21 = .ok (.iload_n 1, 1) := by decide +kernel
theorem dX4_forest_22 : decode cX4_forest 22 = .ok (.invokevirtual 97, 3) := by decide +kernel
theorem dX4_forest_25 : decode cX4_forest 25 = .ok (.aload_n 0, 1) := by decide +kernel
theorem dX4_forest_26 : decode cX4_forest 26 = .ok (.getfield 65, 3) := by decide +kernel
theorem dX4_forest_29 : decode cX4_forest 29 = .ok (.iload_n 2, 1) := by decide +kernel
theorem dX4_forest_30 : decode cX4_forest 30 = .ok (.ishr, 1) := by decide +kernel
theorem dX4_forest_31 : decode cX4_forest 31 = .ok (.iconst 1, 1) := by decide +kernel
theorem dX4_forest_32 : decode cX4_forest 32 = .ok (.iand, 1) := by decide +kernel
theorem dX4_forest_33 : decode cX4_forest 33 = .ok (.iconst 1, 1) := by decide +kernel
theorem dX4_forest_34 : decode cX4_forest 34 = .ok (.if_icmp .ne 12, 3) := by decide +kernel
theorem dX4_forest_37 : decode cX4_forest 37 = .ok (.aload_n 0, 1) := by decide +kernel
theorem dX4_forest_38 : decode cX4_forest 38 = .ok (.getfield 21, 3) := by decide +kernel
theorem dX4_forest_41 : decode cX4_forest 41 = .ok (.iload_n 2, 1) := by decide +kernel
theorem dX4_forest_42 : decode cX4_forest 42 = .ok (.iaload, 1) := by decide +kernel
theorem dX4_forest_43 : decode cX4_forest 43 = .ok (.goto 4, 3) := by decide +kernel
theorem dX4_forest_46 : decode cX4_forest 46 = .ok (.iconst (-1), 1) := by decide +kernel
theorem dX4_forest_47 : decode cX4_forest 47 = .ok (.ireturn, 1) := by decide +kernel
theorem dX4_whyBits_0 : decode cX4_whyBits 0 = .ok (.iconst 1, 1) := by decide +kernel
theorem dX4_whyBits_1 : decode cX4_whyBits 1 = .ok (.iload_n 2, 1) := by decide +kernel
theorem dX4_whyBits_2 : decode cX4_whyBits 2 = .ok (.ishl, 1) := by decide +kernel
theorem dX4_whyBits_3 : decode cX4_whyBits 3 = .ok (.istore_n 3, 1) := by decide +kernel
theorem dX4_whyBits_4 : decode cX4_whyBits 4 = .ok (.iconst 0, 1) := by decide +kernel
theorem dX4_whyBits_5 : decode cX4_whyBits 5 = .ok (.istore 4, 2) := by decide +kernel
theorem dX4_whyBits_7 : decode cX4_whyBits 7 = .ok (.iload 4, 2) := by decide +kernel
theorem dX4_whyBits_9 : decode cX4_whyBits 9 = .ok (.bipush 24, 2) := by decide +kernel
theorem dX4_whyBits_11 : decode cX4_whyBits 11 = .ok (.if_icmp .ge 54, 3) := by decide +kernel
theorem dX4_whyBits_14 : decode cX4_whyBits 14 = .ok (.aload_n 0, 1) := by decide +kernel
theorem dX4_whyBits_15 : decode cX4_whyBits 15 = .ok (.getfield 65, 3) := by decide +kernel
theorem dX4_whyBits_18 : decode cX4_whyBits 18 = .ok (.iload 4, 2) := by decide +kernel
theorem dX4_whyBits_20 : decode cX4_whyBits 20 = .ok (.ishr, 1) := by decide +kernel
theorem dX4_whyBits_21 : decode cX4_whyBits 21 = .ok (.iconst 1, 1) := by decide +kernel
theorem dX4_whyBits_22 : decode cX4_whyBits 22 = .ok (.iand, 1) := by decide +kernel
theorem dX4_whyBits_23 : decode cX4_whyBits 23 = .ok (.iconst 1, 1) := by decide +kernel
theorem dX4_whyBits_24 : decode cX4_whyBits 24 = .ok (.if_icmp .ne 35, 3) := by decide +kernel
theorem dX4_whyBits_27 : decode cX4_whyBits 27 = .ok (.aload_n 0, 1) := by decide +kernel
theorem dX4_whyBits_28 : decode cX4_whyBits 28 = .ok (.aload_n 0, 1) := by decide +kernel
theorem dX4_whyBits_29 : decode cX4_whyBits 29 = .ok (.getfield 65, 3) := by decide +kernel
theorem dX4_whyBits_32 : decode cX4_whyBits 32 = .ok (.iconst 1, 1) := by decide +kernel
theorem dX4_whyBits_33 : decode cX4_whyBits 33 = .ok (.iload 4, 2) := by decide +kernel
theorem dX4_whyBits_35 : decode cX4_whyBits 35 = .ok (.ishl, 1) := by decide +kernel
theorem dX4_whyBits_36 : decode cX4_whyBits 36 = .ok (.iconst (-1), 1) := by decide +kernel
theorem dX4_whyBits_37 : decode cX4_whyBits 37 = .ok (.ixor, 1) := by decide +kernel
theorem dX4_whyBits_38 : decode cX4_whyBits 38 = .ok (.iand, 1) := by decide +kernel
theorem dX4_whyBits_39 : decode cX4_whyBits 39 = .ok (.iconst 1, 1) := by decide +kernel
theorem dX4_whyBits_40 : decode cX4_whyBits 40 = .ok (.iload_n 2, 1) := by decide +kernel
theorem dX4_whyBits_41 : decode cX4_whyBits 41 = .ok (.ishl, 1) := by decide +kernel
theorem dX4_whyBits_42 : decode cX4_whyBits 42 = .ok (.ior, 1) := by decide +kernel
theorem dX4_whyBits_43 : decode cX4_whyBits 43 = .ok (.iload_n 1, 1) := by decide +kernel
theorem dX4_whyBits_44 : decode cX4_whyBits 44 = .ok (.iconst (-1), 1) := by decide +kernel
theorem dX4_whyBits_45 : decode cX4_whyBits 45 = .ok (.iconst (-1), 1) := by decide +kernel
theorem dX4_whyBits_46 : decode cX4_whyBits 46 = .ok (.invokevirtual 68, 3) := by decide +kernel
theorem dX4_whyBits_49 : decode cX4_whyBits 49 = .ok (.ifCond .eq 10, 3) := by decide +kernel
theorem dX4_whyBits_52 : decode cX4_whyBits 52 = .ok (.iload_n 3, 1) := by decide +kernel
theorem dX4_whyBits_53 : decode cX4_whyBits 53 = .ok (.iconst 1, 1) := by decide +kernel
theorem dX4_whyBits_54 : decode cX4_whyBits 54 = .ok (.iload 4, 2) := by decide +kernel
theorem dX4_whyBits_56 : decode cX4_whyBits 56 = .ok (.ishl, 1) := by decide +kernel
theorem dX4_whyBits_57 : decode cX4_whyBits 57 = .ok (.ior, 1) := by decide +kernel
theorem dX4_whyBits_58 : decode cX4_whyBits 58 = .ok (.istore_n 3, 1) := by decide +kernel
theorem dX4_whyBits_59 : decode cX4_whyBits 59 = .ok (.iinc 4 1, 3) := by decide +kernel
theorem dX4_whyBits_62 : decode cX4_whyBits 62 = .ok (.goto (-55), 3) := by decide +kernel
theorem dX4_whyBits_65 : decode cX4_whyBits 65 = .ok (.iload_n 3, 1) := by decide +kernel
theorem dX4_whyBits_66 : decode cX4_whyBits 66 = .ok (.ireturn, 1) := by decide +kernel
theorem dX4_why_0 : decode cX4_why 0 = .ok (.iload_n 1, 1) := by decide +kernel
theorem dX4_why_1 : decode cX4_why 1 = .ok (.invokestatic 72, 3) := by decide +kernel
theorem dX4_why_4 : decode cX4_why 4 = .ok (.ifCond .ne 6, 3) := by decide +kernel
theorem dX4_why_7 : decode cX4_why 7 = .ok (.bipush (-2), 2) := by decide +kernel
theorem dX4_why_9 : decode cX4_why 9 = .ok (.ireturn, 1) := by decide +kernel
theorem dX4_why_10 : decode cX4_why 10 = .ok (.aload_n 0, 1) := by decide +kernel
theorem dX4_why_11 : decode cX4_why 11 = .ok (.iload_n 2, 1) := by decide +kernel
theorem dX4_why_12 : decode cX4_why 12 = .ok (.invokevirtual 54, 3) := by decide +kernel
theorem dX4_why_15 : decode cX4_why 15 = .ok (.ifCond .eq 16, 3) := by decide +kernel
theorem dX4_why_18 : decode cX4_why 18 = .ok (.iload_n 3, 1) := by decide +kernel
theorem dX4_why_19 : decode cX4_why 19 = .ok (.iconst (-1), 1) := by decide +kernel
theorem dX4_why_20 : decode cX4_why 20 = .ok (.if_icmp .eq 13, 3) := by decide +kernel
theorem dX4_why_23 : decode cX4_why 23 = .ok (.aload_n 0, 1) := by decide +kernel
theorem dX4_why_24 : decode cX4_why 24 = .ok (.iload_n 3, 1) := by decide +kernel
theorem dX4_why_25 : decode cX4_why 25 = .ok (.invokevirtual 54, 3) := by decide +kernel
theorem dX4_why_28 : decode cX4_why 28 = .ok (.ifCond .ne 5, 3) := by decide +kernel
theorem dX4_why_31 : decode cX4_why 31 = .ok (.iconst (-1), 1) := by decide +kernel
theorem dX4_why_32 : decode cX4_why 32 = .ok (.ireturn, 1) := by decide +kernel
theorem dX4_why_33 : decode cX4_why 33 = .ok (.aload_n 0, 1) := by decide +kernel
theorem dX4_why_34 : decode cX4_why 34 = .ok (.iload_n 1, 1) := by decide +kernel
theorem dX4_why_35 : decode cX4_why 35 = .ok (.invokevirtual 75, 3) := by decide +kernel
theorem dX4_why_38 : decode cX4_why 38 = .ok (.aload_n 0, 1) := by decide +kernel
theorem dX4_why_39 : decode cX4_why 39 = .ok (.getfield 65, 3) := by decide +kernel
theorem dX4_why_42 : decode cX4_why 42 = .ok (.iload_n 2, 1) := by decide +kernel
theorem dX4_why_43 : decode cX4_why 43 = .ok (.ishr, 1) := by decide +kernel
theorem dX4_why_44 : decode cX4_why 44 = .ok (.iconst 1, 1) := by decide +kernel
theorem dX4_why_45 : decode cX4_why 45 = .ok (.iand, 1) := by decide +kernel
theorem dX4_why_46 : decode cX4_why 46 = .ok (.iconst 1, 1) := by decide +kernel
theorem dX4_why_47 : decode cX4_why 47 = .ok (.if_icmp .ne 5, 3) := by decide +kernel
theorem dX4_why_50 : decode cX4_why 50 = .ok (.iconst (-1), 1) := by decide +kernel
theorem dX4_why_51 : decode cX4_why 51 = .ok (.ireturn, 1) := by decide +kernel
theorem dX4_why_52 : decode cX4_why 52 = .ok (.aload_n 0, 1) := by decide +kernel
theorem dX4_why_53 : decode cX4_why 53 = .ok (.iload_n 1, 1) := by decide +kernel
theorem dX4_why_54 : decode cX4_why 54 = .ok (.iload_n 2, 1) := by decide +kernel
theorem dX4_why_55 : decode cX4_why 55 = .ok (.invokevirtual 100, 3) := by decide +kernel
theorem dX4_why_58 : decode cX4_why 58 = .ok (.istore 4, 2) := by decide +kernel
theorem dX4_why_60 : decode cX4_why 60 = .ok (.iconst 0, 1) := by decide +kernel
theorem dX4_why_61 : decode cX4_why 61 = .ok (.istore 5, 2) := by decide +kernel
theorem dX4_why_63 : decode cX4_why 63 = .ok (.iconst 0, 1) := by decide +kernel
theorem dX4_why_64 : decode cX4_why 64 = .ok (.istore 6, 2) := by decide +kernel
theorem dX4_why_66 : decode cX4_why 66 = .ok (.iload 6, 2) := by decide +kernel
theorem dX4_why_68 : decode cX4_why 68 = .ok (.bipush 24, 2) := by decide +kernel
theorem dX4_why_70 : decode cX4_why 70 = .ok (.if_icmp .ge 21, 3) := by decide +kernel
theorem dX4_why_73 : decode cX4_why 73 = .ok (.iload 5, 2) := by decide +kernel
theorem dX4_why_75 : decode cX4_why 75 = .ok (.iload 4, 2) := by decide +kernel
theorem dX4_why_77 : decode cX4_why 77 = .ok (.iload 6, 2) := by decide +kernel
theorem dX4_why_79 : decode cX4_why 79 = .ok (.ishr, 1) := by decide +kernel
theorem dX4_why_80 : decode cX4_why 80 = .ok (.iconst 1, 1) := by decide +kernel
theorem dX4_why_81 : decode cX4_why 81 = .ok (.iand, 1) := by decide +kernel
theorem dX4_why_82 : decode cX4_why 82 = .ok (.iadd, 1) := by decide +kernel
theorem dX4_why_83 : decode cX4_why 83 = .ok (.istore 5, 2) := by decide +kernel
theorem dX4_why_85 : decode cX4_why 85 = .ok (.iinc 6 1, 3) := by decide +kernel
theorem dX4_why_88 : decode cX4_why 88 = .ok (.goto (-22), 3) := by decide +kernel
theorem dX4_why_91 : decode cX4_why 91 = .ok (.iload_n 3, 1) := by decide +kernel
theorem dX4_why_92 : decode cX4_why 92 = .ok (.iconst (-1), 1) := by decide +kernel
theorem dX4_why_93 : decode cX4_why 93 = .ok (.if_icmp .ne 8, 3) := by decide +kernel
theorem dX4_why_96 : decode cX4_why 96 = .ok (.iload 5, 2) := by decide +kernel
theorem dX4_why_98 : decode cX4_why 98 = .ok (.goto 9, 3) := by decide +kernel
theorem dX4_why_101 : decode cX4_why 101 = .ok (.iload 4, 2) := by decide +kernel
theorem dX4_why_103 : decode cX4_why 103 = .ok (.iload_n 3, 1) := by decide +kernel
theorem dX4_why_104 : decode cX4_why 104 = .ok (.ishr, 1) := by decide +kernel
theorem dX4_why_105 : decode cX4_why 105 = .ok (.iconst 1, 1) := by decide +kernel
theorem dX4_why_106 : decode cX4_why 106 = .ok (.iand, 1) := by decide +kernel
theorem dX4_why_107 : decode cX4_why 107 = .ok (.ireturn, 1) := by decide +kernel
theorem dX4_isTight_0 : decode cX4_isTight 0 = .ok (.iload_n 2, 1) := by decide +kernel
theorem dX4_isTight_1 : decode cX4_isTight 1 = .ok (.iload_n 3, 1) := by decide +kernel
theorem dX4_isTight_2 : decode cX4_isTight 2 = .ok (.if_icmp .eq 17, 3) := by decide +kernel
theorem dX4_isTight_5 : decode cX4_isTight 5 = .ok (.aload_n 0, 1) := by decide +kernel
theorem dX4_isTight_6 : decode cX4_isTight 6 = .ok (.aload_n 0, 1) := by decide +kernel
theorem dX4_isTight_7 : decode cX4_isTight 7 = .ok (.getfield 65, 3) := by decide +kernel
theorem dX4_isTight_10 : decode cX4_isTight 10 = .ok (.iload_n 1, 1) := by decide +kernel
theorem dX4_isTight_11 : decode cX4_isTight 11 = .ok (.iload_n 2, 1) := by decide +kernel
theorem dX4_isTight_12 : decode cX4_isTight 12 = .ok (.iload_n 3, 1) := by decide +kernel
theorem dX4_isTight_13 : decode cX4_isTight 13 = .ok (.invokevirtual 68, 3) := by decide +kernel
theorem dX4_isTight_16 : decode cX4_isTight 16 = .ok (.ifCond .ne 7, 3) := by decide +kernel
theorem dX4_isTight_19 : decode cX4_isTight 19 = .ok (.iconst 1, 1) := by decide +kernel
theorem dX4_isTight_20 : decode cX4_isTight 20 = .ok (.goto 4, 3) := by decide +kernel
theorem dX4_isTight_23 : decode cX4_isTight 23 = .ok (.iconst 0, 1) := by decide +kernel
theorem dX4_isTight_24 : decode cX4_isTight 24 = .ok (.ireturn, 1) := by decide +kernel
theorem dX4_tight_0 : decode cX4_tight 0 = .ok (.iload_n 1, 1) := by decide +kernel
theorem dX4_tight_1 : decode cX4_tight 1 = .ok (.invokestatic 72, 3) := by decide +kernel
theorem dX4_tight_4 : decode cX4_tight 4 = .ok (.ifCond .eq 19, 3) := by decide +kernel
theorem dX4_tight_7 : decode cX4_tight 7 = .ok (.aload_n 0, 1) := by decide +kernel
theorem dX4_tight_8 : decode cX4_tight 8 = .ok (.iload_n 2, 1) := by decide +kernel
theorem dX4_tight_9 : decode cX4_tight 9 = .ok (.invokevirtual 50, 3) := by decide +kernel
theorem dX4_tight_12 : decode cX4_tight 12 = .ok (.ifCond .eq 11, 3) := by decide +kernel
theorem dX4_tight_15 : decode cX4_tight 15 = .ok (.aload_n 0, 1) := by decide +kernel
theorem dX4_tight_16 : decode cX4_tight 16 = .ok (.iload_n 3, 1) := by decide +kernel
theorem dX4_tight_17 : decode cX4_tight 17 = .ok (.invokevirtual 50, 3) := by decide +kernel
theorem dX4_tight_20 : decode cX4_tight 20 = .ok (.ifCond .ne 6, 3) := by decide +kernel
theorem dX4_tight_23 : decode cX4_tight 23 = .ok (.bipush (-2), 2) := by decide +kernel
theorem dX4_tight_25 : decode cX4_tight 25 = .ok (.ireturn, 1) := by decide +kernel
theorem dX4_tight_26 : decode cX4_tight 26 = .ok (.aload_n 0, 1) := by decide +kernel
theorem dX4_tight_27 : decode cX4_tight 27 = .ok (.iload_n 1, 1) := by decide +kernel
theorem dX4_tight_28 : decode cX4_tight 28 = .ok (.invokevirtual 75, 3) := by decide +kernel
theorem dX4_tight_31 : decode cX4_tight 31 = .ok (.aload_n 0, 1) := by decide +kernel
theorem dX4_tight_32 : decode cX4_tight 32 = .ok (.iload_n 1, 1) := by decide +kernel
theorem dX4_tight_33 : decode cX4_tight 33 = .ok (.iload_n 2, 1) := by decide +kernel
theorem dX4_tight_34 : decode cX4_tight 34 = .ok (.iload_n 3, 1) := by decide +kernel
theorem dX4_tight_35 : decode cX4_tight 35 = .ok (.invokevirtual 103, 3) := by decide +kernel
theorem dX4_tight_38 : decode cX4_tight 38 = .ok (.ifCond .eq 7, 3) := by decide +kernel
theorem dX4_tight_41 : decode cX4_tight 41 = .ok (.iconst 1, 1) := by decide +kernel
theorem dX4_tight_42 : decode cX4_tight 42 = .ok (.goto 4, 3) := by decide +kernel
theorem dX4_tight_45 : decode cX4_tight 45 = .ok (.iconst 0, 1) := by decide +kernel
theorem dX4_tight_46 : decode cX4_tight 46 = .ok (.ireturn, 1) := by decide +kernel
theorem dX4_classes_0 : decode cX4_classes 0 = .ok (.iload_n 1, 1) := by decide +kernel
theorem dX4_classes_1 : decode cX4_classes 1 = .ok (.invokestatic 72, 3) := by decide +kernel
theorem dX4_classes_4 : decode cX4_classes 4 = .ok (.ifCond .ne 6, 3) := by decide +kernel
theorem dX4_classes_7 : decode cX4_classes 7 = .ok (.bipush (-2), 2) := by decide +kernel
theorem dX4_classes_9 : decode cX4_classes 9 = .ok (.ireturn, 1) := by decide +kernel
theorem dX4_classes_10 : decode cX4_classes 10 = .ok (.aload_n 0, 1) := by decide +kernel
theorem dX4_classes_11 : decode cX4_classes 11 = .ok (.iload_n 1, 1) := by decide +kernel
theorem dX4_classes_12 : decode cX4_classes 12 = .ok (.invokevirtual 75, 3) := by decide +kernel
theorem dX4_classes_15 : decode cX4_classes 15 = .ok (.iconst 0, 1) := by decide +kernel
theorem dX4_classes_16 : decode cX4_classes 16 = .ok (.istore_n 2, 1) := by decide +kernel
theorem dX4_classes_17 : decode cX4_classes 17 = .ok (.iconst 0, 1) := by decide +kernel
theorem dX4_classes_18 : decode cX4_classes 18 = .ok (.istore_n 3, 1) := by decide +kernel
theorem dX4_classes_19 : decode cX4_classes 19 = .ok (.iload_n 3, 1) := by decide +kernel
theorem dX4_classes_20 : decode cX4_classes 20 = .ok (.aload_n 0, 1) := by decide +kernel
theorem dX4_classes_21 : decode cX4_classes 21 = .ok (.getfield 7, 3) := by decide +kernel
theorem dX4_classes_24 : decode cX4_classes 24 = .ok (.if_icmp .ge 63, 3) := by decide +kernel
theorem dX4_classes_27 : decode cX4_classes 27 = .ok (.iconst 1, 1) := by decide +kernel
theorem dX4_classes_28 : decode cX4_classes 28 = .ok (.istore 4, 2) := by decide +kernel
theorem dX4_classes_30 : decode cX4_classes 30 = .ok (.iconst 0, 1) := by decide +kernel
theorem dX4_classes_31 : decode cX4_classes 31 = .ok (.istore 5, 2) := by decide +kernel
theorem dX4_classes_33 : decode cX4_classes 33 = .ok (.iload 5, 2) := by decide +kernel
theorem dX4_classes_35 : decode cX4_classes 35 = .ok (.iload_n 3, 1) := by decide +kernel
theorem dX4_classes_36 : decode cX4_classes 36 = .ok (.if_icmp .ge 32, 3) := by decide +kernel
theorem dX4_classes_39 : decode cX4_classes 39 = .ok (.iload 4, 2) := by decide +kernel
theorem dX4_classes_41 : decode cX4_classes 41 = .ok (.ifCond .eq 18, 3) := by decide +kernel
theorem dX4_classes_44 : decode cX4_classes 44 = .ok (.aload_n 0, 1) := by decide +kernel
theorem dX4_classes_45 : decode cX4_classes 45 = .ok (.iload_n 1, 1) := by decide +kernel
theorem dX4_classes_46 : decode cX4_classes 46 = .ok (.iload_n 3, 1) := by decide +kernel
theorem dX4_classes_47 : decode cX4_classes 47 = .ok (.iload 5, 2) := by decide +kernel
theorem dX4_classes_49 : decode cX4_classes 49 = .ok (.invokevirtual 103, 3) := by decide +kernel
theorem dX4_classes_52 : decode cX4_classes 52 = .ok (.ifCond .ne 7, 3) := by decide +kernel
theorem dX4_classes_55 : decode cX4_classes 55 = .ok (.iconst 1, 1) := by decide +kernel
theorem dX4_classes_56 : decode cX4_classes 56 = .ok (.goto 4, 3) := by decide +kernel
theorem dX4_classes_59 : decode cX4_classes 59 = .ok (.iconst 0, 1) := by decide +kernel
theorem dX4_classes_60 : decode cX4_classes 60 = .ok (.istore 4, 2) := by decide +kernel
theorem dX4_classes_62 : decode cX4_classes 62 = .ok (.iinc 5 1, 3) := by decide +kernel
theorem dX4_classes_65 : decode cX4_classes 65 = .ok (.goto (-32), 3) := by decide +kernel
theorem dX4_classes_68 : decode cX4_classes 68 = .ok (.iload 4, 2) := by decide +kernel
theorem dX4_classes_70 : decode cX4_classes 70 = .ok (.ifCond .eq 9, 3) := by decide +kernel
theorem dX4_classes_73 : decode cX4_classes 73 = .ok (.iload_n 2, 1) := by decide +kernel
theorem dX4_classes_74 : decode cX4_classes 74 = .ok (.iconst 1, 1) := by decide +kernel
theorem dX4_classes_75 : decode cX4_classes 75 = .ok (.iadd, 1) := by decide +kernel
theorem dX4_classes_76 : decode cX4_classes 76 = .ok (.goto 4, 3) := by decide +kernel
theorem dX4_classes_79 : decode cX4_classes 79 = .ok (.iload_n 2, 1) := by decide +kernel
theorem dX4_classes_80 : decode cX4_classes 80 = .ok (.istore_n 2, 1) := by decide +kernel
theorem dX4_classes_81 : decode cX4_classes 81 = .ok (.iinc 3 1, 3) := by decide +kernel
theorem dX4_classes_84 : decode cX4_classes 84 = .ok (.goto (-65), 3) := by decide +kernel
theorem dX4_classes_87 : decode cX4_classes 87 = .ok (.iload_n 2, 1) := by decide +kernel
theorem dX4_classes_88 : decode cX4_classes 88 = .ok (.ireturn, 1) := by decide +kernel
theorem dX4_crossing_0 : decode cX4_crossing 0 = .ok (.iload_n 1, 1) := by decide +kernel
theorem dX4_crossing_1 : decode cX4_crossing 1 = .ok (.invokestatic 72, 3) := by decide +kernel
theorem dX4_crossing_4 : decode cX4_crossing 4 = .ok (.ifCond .ne 6, 3) := by decide +kernel
theorem dX4_crossing_7 : decode cX4_crossing 7 = .ok (.bipush (-2), 2) := by decide +kernel
theorem dX4_crossing_9 : decode cX4_crossing 9 = .ok (.ireturn, 1) := by decide +kernel
theorem dX4_crossing_10 : decode cX4_crossing 10 = .ok (.aload_n 0, 1) := by decide +kernel
theorem dX4_crossing_11 : decode cX4_crossing 11 = .ok (.iload_n 1, 1) := by decide +kernel
theorem dX4_crossing_12 : decode cX4_crossing 12 = .ok (.invokevirtual 75, 3) := by decide +kernel
theorem dX4_crossing_15 : decode cX4_crossing 15 = .ok (.iconst 0, 1) := by decide +kernel
theorem dX4_crossing_16 : decode cX4_crossing 16 = .ok (.istore_n 2, 1) := by decide +kernel
theorem dX4_crossing_17 : decode cX4_crossing 17 = .ok (.iconst 0, 1) := by decide +kernel
theorem dX4_crossing_18 : decode cX4_crossing 18 = .ok (.istore_n 3, 1) := by decide +kernel
theorem dX4_crossing_19 : decode cX4_crossing 19 = .ok (.iload_n 3, 1) := by decide +kernel
theorem dX4_crossing_20 : decode cX4_crossing 20 = .ok (.bipush 24, 2) := by decide +kernel
theorem dX4_crossing_22 : decode cX4_crossing 22 = .ok (.if_icmp .ge 52, 3) := by decide +kernel
theorem dX4_crossing_25 : decode cX4_crossing 25 = .ok (.aload_n 0, 1) := by decide +kernel
theorem dX4_crossing_26 : decode cX4_crossing 26 = .ok (.getfield 17, 3) := by decide +kernel
theorem dX4_crossing_29 : decode cX4_crossing 29 = .ok (.iload_n 3, 1) := by decide +kernel
theorem dX4_crossing_30 : decode cX4_crossing 30 = .ok (.baload, 1) := by decide +kernel
theorem dX4_crossing_31 : decode cX4_crossing 31 = .ok (.ifCond .eq 35, 3) := by decide +kernel
theorem dX4_crossing_34 : decode cX4_crossing 34 = .ok (.aload_n 0, 1) := by decide +kernel
theorem dX4_crossing_35 : decode cX4_crossing 35 = .ok (.iload_n 1, 1) := by decide +kernel
theorem dX4_crossing_36 : decode cX4_crossing 36 = .ok (.aload_n 0, 1) := by decide +kernel
theorem dX4_crossing_37 : decode cX4_crossing 37 = .ok (.getfield 13, 3) := by decide +kernel
theorem dX4_crossing_40 : decode cX4_crossing 40 = .ok (.iconst 2, 1) := by decide +kernel
theorem dX4_crossing_41 : decode cX4_crossing 41 = .ok (.iload_n 3, 1) := by decide +kernel
theorem dX4_crossing_42 : decode cX4_crossing 42 = .ok (.imul, 1) := by decide +kernel
theorem dX4_crossing_43 : decode cX4_crossing 43 = .ok (.iaload, 1) := by decide +kernel
theorem dX4_crossing_44 : decode cX4_crossing 44 = .ok (.aload_n 0, 1) := by decide +kernel
theorem dX4_crossing_45 : decode cX4_crossing 45 = .ok (.getfield 13, 3) := by decide +kernel
theorem dX4_crossing_48 : decode cX4_crossing 48 = .ok (.iconst 2, 1) := by decide +kernel
theorem dX4_crossing_49 : decode cX4_crossing 49 = .ok (.iload_n 3, 1) := by decide +kernel
theorem dX4_crossing_50 : decode cX4_crossing 50 = .ok (.imul, 1) := by decide +kernel
theorem dX4_crossing_51 : decode cX4_crossing 51 = .ok (.iconst 1, 1) := by decide +kernel
theorem dX4_crossing_52 : decode cX4_crossing 52 = .ok (.iadd, 1) := by decide +kernel
theorem dX4_crossing_53 : decode cX4_crossing 53 = .ok (.iaload, 1) := by decide +kernel
theorem dX4_crossing_54 : decode cX4_crossing 54 = .ok (.invokevirtual 103, 3) := by decide +kernel
theorem dX4_crossing_57 : decode cX4_crossing 57 = .ok (.ifCond .ne 9, 3) := by decide +kernel
theorem dX4_crossing_60 : decode cX4_crossing 60 = .ok (.iload_n 2, 1) := by decide +kernel
theorem dX4_crossing_61 : decode cX4_crossing 61 = .ok (.iconst 1, 1) := by decide +kernel
theorem dX4_crossing_62 : decode cX4_crossing 62 = .ok (.iadd, 1) := by decide +kernel
theorem dX4_crossing_63 : decode cX4_crossing 63 = .ok (.goto 4, 3) := by decide +kernel
theorem dX4_crossing_66 : decode cX4_crossing 66 = .ok (.iload_n 2, 1) := by decide +kernel
theorem dX4_crossing_67 : decode cX4_crossing 67 = .ok (.istore_n 2, 1) := by decide +kernel
theorem dX4_crossing_68 : decode cX4_crossing 68 = .ok (.iinc 3 1, 3) := by decide +kernel
theorem dX4_crossing_71 : decode cX4_crossing 71 = .ok (.goto (-52), 3) := by decide +kernel
theorem dX4_crossing_74 : decode cX4_crossing 74 = .ok (.iload_n 2, 1) := by decide +kernel
theorem dX4_crossing_75 : decode cX4_crossing 75 = .ok (.ireturn, 1) := by decide +kernel
theorem dX4_arboricity_0 : decode cX4_arboricity 0 = .ok (.aload_n 0, 1) := by decide +kernel
theorem dX4_arboricity_1 : decode cX4_arboricity 1 = .ok (.invokevirtual 46, 3) := by decide +kernel
theorem dX4_arboricity_4 : decode cX4_arboricity 4 = .ok (.istore_n 1, 1) := by decide +kernel
theorem dX4_arboricity_5 : decode cX4_arboricity 5 = .ok (.iconst 0, 1) := by decide +kernel
theorem dX4_arboricity_6 : decode cX4_arboricity 6 = .ok (.istore_n 2, 1) := by decide +kernel
theorem dX4_arboricity_7 : decode cX4_arboricity 7 = .ok (.iload_n 2, 1) := by decide +kernel
theorem dX4_arboricity_8 : decode cX4_arboricity 8 = .ok (.bipush 6, 2) := by decide +kernel
theorem dX4_arboricity_10 : decode cX4_arboricity 10 = .ok (.if_icmp .gt 20, 3) := by decide +kernel
theorem dX4_arboricity_13 : decode cX4_arboricity 13 = .ok (.aload_n 0, 1) := by decide +kernel
theorem dX4_arboricity_14 : decode cX4_arboricity 14 = .ok (.iload_n 2, 1) := by decide +kernel
theorem dX4_arboricity_15 : decode cX4_arboricity 15 = .ok (.invokevirtual 106, 3) := by decide +kernel
theorem dX4_arboricity_18 : decode cX4_arboricity 18 = .ok (.iload_n 1, 1) := by decide +kernel
theorem dX4_arboricity_19 : decode cX4_arboricity 19 = .ok (.if_icmp .ne 5, 3) := by decide +kernel
theorem dX4_arboricity_22 : decode cX4_arboricity 22 = .ok (.iload_n 2, 1) := by decide +kernel
theorem dX4_arboricity_23 : decode cX4_arboricity 23 = .ok (.ireturn, 1) := by decide +kernel
theorem dX4_arboricity_24 : decode cX4_arboricity 24 = .ok (.iinc 2 1, 3) := by decide +kernel
theorem dX4_arboricity_27 : decode cX4_arboricity 27 = .ok (.goto (-20), 3) := by decide +kernel
theorem dX4_arboricity_30 : decode cX4_arboricity 30 = .ok (.iconst (-1), 1) := by decide +kernel
theorem dX4_arboricity_31 : decode cX4_arboricity 31 = .ok (.ireturn, 1) := by decide +kernel
theorem dX4_dense_0 : decode cX4_dense 0 = .ok (.aload_n 0, 1) := by decide +kernel
theorem dX4_dense_1 : decode cX4_dense 1 = .ok (.invokevirtual 109, 3) := by decide +kernel
theorem dX4_dense_4 : decode cX4_dense 4 = .ok (.istore_n 1, 1) := by decide +kernel
theorem dX4_dense_5 : decode cX4_dense 5 = .ok (.iload_n 1, 1) := by decide +kernel
theorem dX4_dense_6 : decode cX4_dense 6 = .ok (.iconst 1, 1) := by decide +kernel
theorem dX4_dense_7 : decode cX4_dense 7 = .ok (.if_icmp .ge 5, 3) := by decide +kernel
theorem dX4_dense_10 : decode cX4_dense 10 = .ok (.iload_n 1, 1) := by decide +kernel
theorem dX4_dense_11 : decode cX4_dense 11 = .ok (.ireturn, 1) := by decide +kernel
theorem dX4_dense_12 : decode cX4_dense 12 = .ok (.aload_n 0, 1) := by decide +kernel
theorem dX4_dense_13 : decode cX4_dense 13 = .ok (.iload_n 1, 1) := by decide +kernel
theorem dX4_dense_14 : decode cX4_dense 14 = .ok (.iconst 1, 1) := by decide +kernel
theorem dX4_dense_15 : decode cX4_dense 15 = .ok (.isub, 1) := by decide +kernel
theorem dX4_dense_16 : decode cX4_dense 16 = .ok (.invokevirtual 75, 3) := by decide +kernel
theorem dX4_dense_19 : decode cX4_dense 19 = .ok (.iconst 0, 1) := by decide +kernel
theorem dX4_dense_20 : decode cX4_dense 20 = .ok (.istore_n 2, 1) := by decide +kernel
theorem dX4_dense_21 : decode cX4_dense 21 = .ok (.aload_n 0, 1) := by decide +kernel
theorem dX4_dense_22 : decode cX4_dense 22 = .ok (.getfield 17, 3) := by decide +kernel
theorem dX4_dense_25 : decode cX4_dense 25 = .ok (.iload_n 2, 1) := by decide +kernel
theorem dX4_dense_26 : decode cX4_dense 26 = .ok (.baload, 1) := by decide +kernel
theorem dX4_dense_27 : decode cX4_dense 27 = .ok (.ifCond .eq 15, 3) := by decide +kernel
theorem dX4_dense_30 : decode cX4_dense 30 = .ok (.aload_n 0, 1) := by decide +kernel
theorem dX4_dense_31 : decode cX4_dense 31 = .ok (.getfield 65, 3) := by decide +kernel
theorem dX4_dense_34 : decode cX4_dense 34 = .ok (.iload_n 2, 1) := by decide +kernel
theorem dX4_dense_35 : decode cX4_dense 35 = .ok (.ishr, 1) := by decide +kernel
theorem dX4_dense_36 : decode cX4_dense 36 = .ok (.iconst 1, 1) := by decide +kernel
theorem dX4_dense_37 : decode cX4_dense 37 = .ok (.iand, 1) := by decide +kernel
theorem dX4_dense_38 : decode cX4_dense 38 = .ok (.iconst 1, 1) := by decide +kernel
theorem dX4_dense_39 : decode cX4_dense 39 = .ok (.if_icmp .ne 9, 3) := by decide +kernel
theorem dX4_dense_42 : decode cX4_dense 42 = .ok (.iinc 2 1, 3) := by decide +kernel
theorem dX4_dense_45 : decode cX4_dense 45 = .ok (.goto (-24), 3) := by decide +kernel
theorem dX4_dense_48 : decode cX4_dense 48 = .ok (.aload_n 0, 1) := by decide +kernel
theorem dX4_dense_49 : decode cX4_dense 49 = .ok (.iload_n 1, 1) := by decide +kernel
theorem dX4_dense_50 : decode cX4_dense 50 = .ok (.iconst 1, 1) := by decide +kernel
theorem dX4_dense_51 : decode cX4_dense 51 = .ok (.isub, 1) := by decide +kernel
theorem dX4_dense_52 : decode cX4_dense 52 = .ok (.iload_n 2, 1) := by decide +kernel
theorem dX4_dense_53 : decode cX4_dense 53 = .ok (.invokevirtual 100, 3) := by decide +kernel
theorem dX4_dense_56 : decode cX4_dense 56 = .ok (.istore_n 3, 1) := by decide +kernel
theorem dX4_dense_57 : decode cX4_dense 57 = .ok (.iconst 0, 1) := by decide +kernel
theorem dX4_dense_58 : decode cX4_dense 58 = .ok (.istore 4, 2) := by decide +kernel
theorem dX4_dense_60 : decode cX4_dense 60 = .ok (.iconst 0, 1) := by decide +kernel
theorem dX4_dense_61 : decode cX4_dense 61 = .ok (.istore 5, 2) := by decide +kernel
theorem dX4_dense_63 : decode cX4_dense 63 = .ok (.iload 5, 2) := by decide +kernel
theorem dX4_dense_65 : decode cX4_dense 65 = .ok (.bipush 24, 2) := by decide +kernel
theorem dX4_dense_67 : decode cX4_dense 67 = .ok (.if_icmp .ge 54, 3) := by decide +kernel
theorem dX4_dense_70 : decode cX4_dense 70 = .ok (.iload_n 3, 1) := by decide +kernel
theorem dX4_dense_71 : decode cX4_dense 71 = .ok (.iload 5, 2) := by decide +kernel
theorem dX4_dense_73 : decode cX4_dense 73 = .ok (.ishr, 1) := by decide +kernel
theorem dX4_dense_74 : decode cX4_dense 74 = .ok (.iconst 1, 1) := by decide +kernel
theorem dX4_dense_75 : decode cX4_dense 75 = .ok (.iand, 1) := by decide +kernel
theorem dX4_dense_76 : decode cX4_dense 76 = .ok (.iconst 1, 1) := by decide +kernel
theorem dX4_dense_77 : decode cX4_dense 77 = .ok (.if_icmp .ne 34, 3) := by decide +kernel
theorem dX4_dense_80 : decode cX4_dense 80 = .ok (.iload 4, 2) := by decide +kernel
theorem dX4_dense_82 : decode cX4_dense 82 = .ok (.iconst 1, 1) := by decide +kernel
theorem dX4_dense_83 : decode cX4_dense 83 = .ok (.aload_n 0, 1) := by decide +kernel
theorem dX4_dense_84 : decode cX4_dense 84 = .ok (.getfield 13, 3) := by decide +kernel
theorem dX4_dense_87 : decode cX4_dense 87 = .ok (.iconst 2, 1) := by decide +kernel
theorem dX4_dense_88 : decode cX4_dense 88 = .ok (.iload 5, 2) := by decide +kernel
theorem dX4_dense_90 : decode cX4_dense 90 = .ok (.imul, 1) := by decide +kernel
theorem dX4_dense_91 : decode cX4_dense 91 = .ok (.iaload, 1) := by decide +kernel
theorem dX4_dense_92 : decode cX4_dense 92 = .ok (.ishl, 1) := by decide +kernel
theorem dX4_dense_93 : decode cX4_dense 93 = .ok (.ior, 1) := by decide +kernel
theorem dX4_dense_94 : decode cX4_dense 94 = .ok (.iconst 1, 1) := by decide +kernel
theorem dX4_dense_95 : decode cX4_dense 95 = .ok (.aload_n 0, 1) := by decide +kernel
theorem dX4_dense_96 : decode cX4_dense 96 = .ok (.getfield 13, 3) := by decide +kernel
theorem dX4_dense_99 : decode cX4_dense 99 = .ok (.iconst 2, 1) := by decide +kernel
theorem dX4_dense_100 : decode cX4_dense 100 = .ok (.iload 5, 2) := by decide +kernel
theorem dX4_dense_102 : decode cX4_dense 102 = .ok (.imul, 1) := by decide +kernel
theorem dX4_dense_103 : decode cX4_dense 103 = .ok (.iconst 1, 1) := by decide +kernel
theorem dX4_dense_104 : decode cX4_dense 104 = .ok (.iadd, 1) := by decide +kernel
theorem dX4_dense_105 : decode cX4_dense 105 = .ok (.iaload, 1) := by decide +kernel
theorem dX4_dense_106 : decode cX4_dense 106 = .ok (.ishl, 1) := by decide +kernel
theorem dX4_dense_107 : decode cX4_dense 107 = .ok (.ior, 1) := by decide +kernel
theorem dX4_dense_108 : decode cX4_dense 108 = .ok (.goto 5, 3) := by decide +kernel
theorem dX4_dense_111 : decode cX4_dense 111 = .ok (.iload 4, 2) := by decide +kernel
theorem dX4_dense_113 : decode cX4_dense 113 = .ok (.istore 4, 2) := by decide +kernel
theorem dX4_dense_115 : decode cX4_dense 115 = .ok (.iinc 5 1, 3) := by decide +kernel
theorem dX4_dense_118 : decode cX4_dense 118 = .ok (.goto (-55), 3) := by decide +kernel
theorem dX4_dense_121 : decode cX4_dense 121 = .ok (.iload 4, 2) := by decide +kernel
theorem dX4_dense_123 : decode cX4_dense 123 = .ok (.ireturn, 1) := by decide +kernel
theorem dX4_spanning_0 : decode cX4_spanning 0 = .ok (.bipush 6, 2) := by decide +kernel
theorem dX4_spanning_2 : decode cX4_spanning 2 = .ok (.istore_n 1, 1) := by decide +kernel
theorem dX4_spanning_3 : decode cX4_spanning 3 = .ok (.aload_n 0, 1) := by decide +kernel
theorem dX4_spanning_4 : decode cX4_spanning 4 = .ok (.iload_n 1, 1) := by decide +kernel
theorem dX4_spanning_5 : decode cX4_spanning 5 = .ok (.invokevirtual 106, 3) := by decide +kernel
theorem dX4_spanning_8 : decode cX4_spanning 8 = .ok (.iload_n 1, 1) := by decide +kernel
theorem dX4_spanning_9 : decode cX4_spanning 9 = .ok (.aload_n 0, 1) := by decide +kernel
theorem dX4_spanning_10 : decode cX4_spanning 10 = .ok (.getfield 7, 3) := by decide +kernel
theorem dX4_spanning_13 : decode cX4_spanning 13 = .ok (.iconst 1, 1) := by decide +kernel
theorem dX4_spanning_14 : decode cX4_spanning 14 = .ok (.isub, 1) := by decide +kernel
theorem dX4_spanning_15 : decode cX4_spanning 15 = .ok (.imul, 1) := by decide +kernel
theorem dX4_spanning_16 : decode cX4_spanning 16 = .ok (.if_icmp .eq 9, 3) := by decide +kernel
theorem dX4_spanning_19 : decode cX4_spanning 19 = .ok (.iinc 1 (-1), 3) := by decide +kernel
