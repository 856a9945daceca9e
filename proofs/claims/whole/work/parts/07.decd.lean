theorem dX11_init_0 : decode cX11_init 0 = .ok (.aload_n 0, 1) := by decide +kernel
theorem dX11_init_1 : decode cX11_init 1 = .ok (.invokespecial 1, 3) := by decide +kernel
theorem dX11_init_4 : decode cX11_init 4 = .ok (.aload_n 0, 1) := by decide +kernel
theorem dX11_init_5 : decode cX11_init 5 = .ok (.iconst 4, 1) := by decide +kernel
theorem dX11_init_6 : decode cX11_init 6 = .ok (.newarray .int, 2) := by decide +kernel
theorem dX11_init_8 : decode cX11_init 8 = .ok (.putfield 7, 3) := by decide +kernel
theorem dX11_init_11 : decode cX11_init 11 = .ok (.aload_n 0, 1) := by decide +kernel
theorem dX11_init_12 : decode cX11_init 12 = .ok (.iconst 4, 1) := by decide +kernel
theorem dX11_init_13 : decode cX11_init 13 = .ok (.newarray .int, 2) := by decide +kernel
theorem dX11_init_15 : decode cX11_init 15 = .ok (.dup, 1) := by decide +kernel
theorem dX11_init_16 : decode cX11_init 16 = .ok (.iconst 0, 1) := by decide +kernel
theorem dX11_init_17 : decode cX11_init 17 = .ok (.iconst 2, 1) := by decide +kernel
theorem dX11_init_18 : decode cX11_init 18 = .ok (.iastore, 1) := by decide +kernel
theorem dX11_init_19 : decode cX11_init 19 = .ok (.dup, 1) := by decide +kernel
theorem dX11_init_20 : decode cX11_init 20 = .ok (.iconst 1, 1) := by decide +kernel
theorem dX11_init_21 : decode cX11_init 21 = .ok (.iconst 2, 1) := by decide +kernel
theorem dX11_init_22 : decode cX11_init 22 = .ok (.iastore, 1) := by decide +kernel
theorem dX11_init_23 : decode cX11_init 23 = .ok (.dup, 1) := by decide +kernel
theorem dX11_init_24 : decode cX11_init 24 = .ok (.iconst 2, 1) := by decide +kernel
theorem dX11_init_25 : decode cX11_init 25 = .ok (.iconst 2, 1) := by decide +kernel
theorem dX11_init_26 : decode cX11_init 26 = .ok (.iastore, 1) := by decide +kernel
theorem dX11_init_27 : decode cX11_init 27 = .ok (.dup, 1) := by decide +kernel
theorem dX11_init_28 : decode cX11_init 28 = .ok (.iconst 3, 1) := by decide +kernel
theorem dX11_init_29 : decode cX11_init 29 = .ok (.iconst 2, 1) := by decide +kernel
theorem dX11_init_30 : decode cX11_init 30 = .ok (.iastore, 1) := by decide +kernel
theorem dX11_init_31 : decode cX11_init 31 = .ok (.putfield 13, 3) := by decide +kernel
theorem dX11_init_34 : decode cX11_init 34 = .ok (.aload_n 0, 1) := by decide +kernel
theorem dX11_init_35 : decode cX11_init 35 = .ok (.iconst 4, 1) := by decide +kernel
theorem dX11_init_36 : decode cX11_init 36 = .ok (.newarray .int, 2) := by decide +kernel
theorem dX11_init_38 : decode cX11_init 38 = .ok (.putfield 16, 3) := by decide +kernel
theorem dX11_init_41 : decode cX11_init 41 = .ok (.aload_n 0, 1) := by decide +kernel
theorem dX11_init_42 : decode cX11_init 42 = .ok (.bipush 12, 2) := by decide +kernel
theorem dX11_init_44 : decode cX11_init 44 = .ok (.newarray .int, 2) := by decide +kernel
theorem dX11_init_46 : decode cX11_init 46 = .ok (.putfield 19, 3) := by decide +kernel
theorem dX11_init_49 : decode cX11_init 49 = .ok (.aload_n 0, 1) := by decide +kernel
theorem dX11_init_50 : decode cX11_init 50 = .ok (.bipush 12, 2) := by decide +kernel
theorem dX11_init_52 : decode cX11_init 52 = .ok (.newarray .int, 2) := by decide +kernel
theorem dX11_init_54 : decode cX11_init 54 = .ok (.putfield 22, 3) := by decide +kernel
theorem dX11_init_57 : decode cX11_init 57 = .ok (.aload_n 0, 1) := by decide +kernel
theorem dX11_init_58 : decode cX11_init 58 = .ok (.sipush 400, 3) := by decide +kernel
theorem dX11_init_61 : decode cX11_init 61 = .ok (.newarray .int, 2) := by decide +kernel
theorem dX11_init_63 : decode cX11_init 63 = .ok (.putfield 25, 3) := by decide +kernel
theorem dX11_init_66 : decode cX11_init 66 = .ok (.aload_n 0, 1) := by decide +kernel
theorem dX11_init_67 : decode cX11_init 67 = .ok (.iconst (-1), 1) := by decide +kernel
theorem dX11_init_68 : decode cX11_init 68 = .ok (.putfield 28, 3) := by decide +kernel
theorem dX11_init_71 : decode cX11_init 71 = .ok (.aload_n 0, 1) := by decide +kernel
theorem dX11_init_72 : decode cX11_init 72 = .ok (.iconst 5, 1) := by decide +kernel
theorem dX11_init_73 : decode cX11_init 73 = .ok (.newarray .int, 2) := by decide +kernel
theorem dX11_init_75 : decode cX11_init 75 = .ok (.putfield 32, 3) := by decide +kernel
theorem dX11_init_78 : decode cX11_init 78 = .ok (.aload_n 0, 1) := by decide +kernel
theorem dX11_init_79 : decode cX11_init 79 = .ok (.iconst 4, 1) := by decide +kernel
theorem dX11_init_80 : decode cX11_init 80 = .ok (.newarray .int, 2) := by decide +kernel
theorem dX11_init_82 : decode cX11_init 82 = .ok (.putfield 35, 3) := by decide +kernel
theorem dX11_init_85 : decode cX11_init 85 = .ok (.aload_n 0, 1) := by decide +kernel
theorem dX11_init_86 : decode cX11_init 86 = .ok (.iconst 4, 1) := by decide +kernel
theorem dX11_init_87 : decode cX11_init 87 = .ok (.newarray .int, 2) := by decide +kernel
theorem dX11_init_89 : decode cX11_init 89 = .ok (.putfield 38, 3) := by decide +kernel
theorem dX11_init_92 : decode cX11_init 92 = .ok (.aload_n 0, 1) := by decide +kernel
theorem dX11_init_93 : decode cX11_init 93 = .ok (.iconst 4, 1) := by decide +kernel
theorem dX11_init_94 : decode cX11_init 94 = .ok (.newarray .int, 2) := by decide +kernel
theorem dX11_init_96 : decode cX11_init 96 = .ok (.putfield 41, 3) := by decide +kernel
theorem dX11_init_99 : decode cX11_init 99 = .ok (.aload_n 0, 1) := by decide +kernel
theorem dX11_init_100 : decode cX11_init 100 = .ok (.bipush 12, 2) := by decide +kernel
theorem dX11_init_102 : decode cX11_init 102 = .ok (.newarray .int, 2) := by decide +kernel
theorem dX11_init_104 : decode cX11_init 104 = .ok (.putfield 44, 3) := by decide +kernel
theorem dX11_init_107 : decode cX11_init 107 = .ok (.aload_n 0, 1) := by decide +kernel
theorem dX11_init_108 : decode cX11_init 108 = .ok (.bipush 12, 2) := by decide +kernel
theorem dX11_init_110 : decode cX11_init 110 = .ok (.newarray .int, 2) := by decide +kernel
theorem dX11_init_112 : decode cX11_init 112 = .ok (.putfield 47, 3) := by decide +kernel
theorem dX11_init_115 : decode cX11_init 115 = .ok (.aload_n 0, 1) := by decide +kernel
theorem dX11_init_116 : decode cX11_init 116 = .ok (.sipush 729, 3) := by decide +kernel
theorem dX11_init_119 : decode cX11_init 119 = .ok (.newarray .int, 2) := by decide +kernel
theorem dX11_init_121 : decode cX11_init 121 = .ok (.putfield 50, 3) := by decide +kernel
theorem dX11_init_124 : decode cX11_init 124 = .ok (.aload_n 0, 1) := by decide +kernel
theorem dX11_init_125 : decode cX11_init 125 = .ok (.bipush 96, 2) := by decide +kernel
theorem dX11_init_127 : decode cX11_init 127 = .ok (.newarray .int, 2) := by decide +kernel
theorem dX11_init_129 : decode cX11_init 129 = .ok (.putfield 53, 3) := by decide +kernel
theorem dX11_init_132 : decode cX11_init 132 = .ok (.aload_n 0, 1) := by decide +kernel
theorem dX11_init_133 : decode cX11_init 133 = .ok (.bipush 8, 2) := by decide +kernel
theorem dX11_init_135 : decode cX11_init 135 = .ok (.newarray .int, 2) := by decide +kernel
theorem dX11_init_137 : decode cX11_init 137 = .ok (.putfield 56, 3) := by decide +kernel
theorem dX11_init_140 : decode cX11_init 140 = .ok (.aload_n 0, 1) := by decide +kernel
theorem dX11_init_141 : decode cX11_init 141 = .ok (.bipush 18, 2) := by decide +kernel
theorem dX11_init_143 : decode cX11_init 143 = .ok (.newarray .int, 2) := by decide +kernel
theorem dX11_init_145 : decode cX11_init 145 = .ok (.putfield 59, 3) := by decide +kernel
theorem dX11_init_148 : decode cX11_init 148 = .ok (.aload_n 0, 1) := by decide +kernel
theorem dX11_init_149 : decode cX11_init 149 = .ok (.bipush 12, 2) := by decide +kernel
theorem dX11_init_151 : decode cX11_init 151 = .ok (.newarray .int, 2) := by decide +kernel
theorem dX11_init_153 : decode cX11_init 153 = .ok (.putfield 62, 3) := by decide +kernel
theorem dX11_init_156 : decode cX11_init 156 = .ok (.aload_n 0, 1) := by decide +kernel
theorem dX11_init_157 : decode cX11_init 157 = .ok (.bipush 10, 2) := by decide +kernel
theorem dX11_init_159 : decode cX11_init 159 = .ok (.newarray .int, 2) := by decide +kernel
theorem dX11_init_161 : decode cX11_init 161 = .ok (.putfield 65, 3) := by decide +kernel
theorem dX11_init_164 : decode cX11_init 164 = .ok (.aload_n 0, 1) := by decide +kernel
theorem dX11_init_165 : decode cX11_init 165 = .ok (.bipush 8, 2) := by decide +kernel
theorem dX11_init_167 : decode cX11_init 167 = .ok (.newarray .int, 2) := by decide +kernel
theorem dX11_init_169 : decode cX11_init 169 = .ok (.putfield 68, 3) := by decide +kernel
theorem dX11_init_172 : decode cX11_init 172 = .ok (.aload_n 0, 1) := by decide +kernel
theorem dX11_init_173 : decode cX11_init 173 = .ok (.bipush 8, 2) := by decide +kernel
theorem dX11_init_175 : decode cX11_init 175 = .ok (.newarray .int, 2) := by decide +kernel
theorem dX11_init_177 : decode cX11_init 177 = .ok (.putfield 71, 3) := by decide +kernel
theorem dX11_init_180 : decode cX11_init 180 = .ok (.aload_n 0, 1) := by decide +kernel
theorem dX11_init_181 : decode cX11_init 181 = .ok (.iconst (-1), 1) := by decide +kernel
theorem dX11_init_182 : decode cX11_init 182 = .ok (.putfield 74, 3) := by decide +kernel
theorem dX11_init_185 : decode cX11_init 185 = .ok (.aload_n 0, 1) := by decide +kernel
theorem dX11_init_186 : decode cX11_init 186 = .ok (.sipush 600, 3) := by decide +kernel
theorem dX11_init_189 : decode cX11_init 189 = .ok (.newarray .int, 2) := by decide +kernel
theorem dX11_init_191 : decode cX11_init 191 = .ok (.putfield 77, 3) := by decide +kernel
theorem dX11_init_194 : decode cX11_init 194 = .ok (.aload_n 0, 1) := by decide +kernel
theorem dX11_init_195 : decode cX11_init 195 = .ok (.sipush 600, 3) := by decide +kernel
theorem dX11_init_198 : decode cX11_init 198 = .ok (.newarray .int, 2) := by decide +kernel
theorem dX11_init_200 : decode cX11_init 200 = .ok (.putfield 80, 3) := by decide +kernel
theorem dX11_init_203 : decode cX11_init 203 = .ok (.aload_n 0, 1) := by decide +kernel
theorem dX11_init_204 : decode cX11_init 204 = .ok (.iconst 5, 1) := by decide +kernel
theorem dX11_init_205 : decode cX11_init 205 = .ok (.newarray .int, 2) := by decide +kernel
theorem dX11_init_207 : decode cX11_init 207 = .ok (.putfield 83, 3) := by decide +kernel
theorem dX11_init_210 : decode cX11_init 210 = .ok (.aload_n 0, 1) := by decide +kernel
theorem dX11_init_211 : decode cX11_init 211 = .ok (.iconst 5, 1) := by decide +kernel
theorem dX11_init_212 : decode cX11_init 212 = .ok (.newarray .int, 2) := by decide +kernel
theorem dX11_init_214 : decode cX11_init 214 = .ok (.putfield 86, 3) := by decide +kernel
theorem dX11_init_217 : decode cX11_init 217 = .ok (.aload_n 0, 1) := by decide +kernel
theorem dX11_init_218 : decode cX11_init 218 = .ok (.iconst 5, 1) := by decide +kernel
theorem dX11_init_219 : decode cX11_init 219 = .ok (.newarray .int, 2) := by decide +kernel
theorem dX11_init_221 : decode cX11_init 221 = .ok (.putfield 89, 3) := by decide +kernel
theorem dX11_init_224 : decode cX11_init 224 = .ok (.aload_n 0, 1) := by decide +kernel
theorem dX11_init_225 : decode cX11_init 225 = .ok (.sipush 729, 3) := by decide +kernel
theorem dX11_init_228 : decode cX11_init 228 = .ok (.newarray .int, 2) := by decide +kernel
theorem dX11_init_230 : decode cX11_init 230 = .ok (.putfield 92, 3) := by decide +kernel
theorem dX11_init_233 : decode cX11_init 233 = .ok (.aload_n 0, 1) := by decide +kernel
theorem dX11_init_234 : decode cX11_init 234 = .ok (.bipush 12, 2) := by decide +kernel
theorem dX11_init_236 : decode cX11_init 236 = .ok (.newarray .int, 2) := by decide +kernel
theorem dX11_init_238 : decode cX11_init 238 = .ok (.putfield 95, 3) := by decide +kernel
theorem dX11_init_241 : decode cX11_init 241 = .ok (.aload_n 0, 1) := by decide +kernel
theorem dX11_init_242 : decode cX11_init 242 = .ok (.iconst 3, 1) := by decide +kernel
theorem dX11_init_243 : decode cX11_init 243 = .ok (.newarray .int, 2) := by decide +kernel
theorem dX11_init_245 : decode cX11_init 245 = .ok (.putfield 98, 3) := by decide +kernel
theorem dX11_init_248 : decode cX11_init 248 = .ok (.aload_n 0, 1) := by decide +kernel
theorem dX11_init_249 : decode cX11_init 249 = .ok (.bipush 12, 2) := by decide +kernel
theorem dX11_init_251 : decode cX11_init 251 = .ok (.newarray .int, 2) := by decide +kernel
theorem dX11_init_253 : decode cX11_init 253 = .ok (.putfield 101, 3) := by decide +kernel
theorem dX11_init_256 : decode cX11_init 256 = .ok (.aload_n 0, 1) := by decide +kernel
theorem dX11_init_257 : decode cX11_init 257 = .ok (.bipush 96, 2) := by decide +kernel
theorem dX11_init_259 : decode cX11_init 259 = .ok (.newarray .int, 2) := by decide +kernel
theorem dX11_init_261 : decode cX11_init 261 = .ok (.putfield 104, 3) := by decide +kernel
theorem dX11_init_264 : decode cX11_init 264 = .ok (.aload_n 0, 1) := by decide +kernel
theorem dX11_init_265 : decode cX11_init 265 = .ok (.bipush 18, 2) := by decide +kernel
theorem dX11_init_267 : decode cX11_init 267 = .ok (.newarray .int, 2) := by decide +kernel
theorem dX11_init_269 : decode cX11_init 269 = .ok (.putfield 107, 3) := by decide +kernel
theorem dX11_init_272 : decode cX11_init 272 = .ok (.aload_n 0, 1) := by decide +kernel
theorem dX11_init_273 : decode cX11_init 273 = .ok (.bipush 10, 2) := by decide +kernel
theorem dX11_init_275 : decode cX11_init 275 = .ok (.newarray .int, 2) := by decide +kernel
theorem dX11_init_277 : decode cX11_init 277 = .ok (.putfield 110, 3) := by decide +kernel
theorem dX11_init_280 : decode cX11_init 280 = .ok (.return_, 1) := by decide +kernel
theorem dX11_thrown_0 : decode cX11_thrown 0 = .ok (.aload_n 0, 1) := by decide +kernel
theorem dX11_thrown_1 : decode cX11_thrown 1 = .ok (.getfield 113, 3) := by decide +kernel
theorem dX11_thrown_4 : decode cX11_thrown 4 = .ok (.ireturn, 1) := by decide +kernel
theorem dX11_right_0 : decode cX11_right 0 = .ok (.aload_n 0, 1) := by decide +kernel
theorem dX11_right_1 : decode cX11_right 1 = .ok (.getfield 113, 3) := by decide +kernel
theorem dX11_right_4 : decode cX11_right 4 = .ok (.ifCond .ne 12, 3) := by decide +kernel
theorem dX11_right_7 : decode cX11_right 7 = .ok (.iload_n 1, 1) := by decide +kernel
theorem dX11_right_8 : decode cX11_right 8 = .ok (.ifCond .ne 8, 3) := by decide +kernel
theorem dX11_right_11 : decode cX11_right 11 = .ok (.aload_n 0, 1) := by decide +kernel
theorem dX11_right_12 : decode cX11_right 12 = .ok (.iload_n 2, 1) := by decide +kernel
theorem dX11_right_13 : decode cX11_right 13 = .ok (.putfield 113, 3) := by decide +kernel
theorem dX11_right_16 : decode cX11_right 16 = .ok (.aload_n 0, 1) := by decide +kernel
theorem dX11_right_17 : decode cX11_right 17 = .ok (.getfield 113, 3) := by decide +kernel
theorem dX11_right_20 : decode cX11_right 20 = .ok (.ifCond .ne 7, 3) := by decide +kernel
theorem dX11_right_23 : decode cX11_right 23 = .ok (.iconst 1, 1) := by decide +kernel
theorem dX11_right_24 : decode cX11_right 24 = .ok (.goto 4, 3) := by decide +kernel
theorem dX11_right_27 : decode cX11_right 27 = .ok (.iconst 0, 1) := by decide +kernel
theorem dX11_right_28 : decode cX11_right 28 = .ok (.ireturn, 1) := by decide +kernel
theorem dX11_within_0 : decode cX11_within 0 = .ok (.iload_n 0, 1) := by decide +kernel
theorem dX11_within_1 : decode cX11_within 1 = .ok (.iload_n 1, 1) := by decide +kernel
theorem dX11_within_2 : decode cX11_within 2 = .ok (.if_icmp .lt 12, 3) := by decide +kernel
theorem dX11_within_5 : decode cX11_within 5 = .ok (.iload_n 0, 1) := by decide +kernel
theorem dX11_within_6 : decode cX11_within 6 = .ok (.iload_n 2, 1) := by decide +kernel
theorem dX11_within_7 : decode cX11_within 7 = .ok (.if_icmp .gt 7, 3) := by decide +kernel
theorem dX11_within_10 : decode cX11_within 10 = .ok (.iconst 1, 1) := by decide +kernel
theorem dX11_within_11 : decode cX11_within 11 = .ok (.goto 4, 3) := by decide +kernel
theorem dX11_within_14 : decode cX11_within 14 = .ok (.iconst 0, 1) := by decide +kernel
theorem dX11_within_15 : decode cX11_within 15 = .ok (.ireturn, 1) := by decide +kernel
theorem dX11_size_0 : decode cX11_size 0 = .ok (.iload_n 0, 1) := by decide +kernel
theorem dX11_size_1 : decode cX11_size 1 = .ok (.ifCond .ge 9, 3) := by decide +kernel
theorem dX11_size_4 : decode cX11_size 4 = .ok (.iconst 0, 1) := by decide +kernel
theorem dX11_size_5 : decode cX11_size 5 = .ok (.iload_n 0, 1) := by decide +kernel
theorem dX11_size_6 : decode cX11_size 6 = .ok (.isub, 1) := by decide +kernel
theorem dX11_size_7 : decode cX11_size 7 = .ok (.goto 4, 3) := by decide +kernel
theorem dX11_size_10 : decode cX11_size 10 = .ok (.iload_n 0, 1) := by decide +kernel
theorem dX11_size_11 : decode cX11_size 11 = .ok (.ireturn, 1) := by decide +kernel
theorem dX11_copies_0 : decode cX11_copies 0 = .ok (.iconst 0, 1) := by decide +kernel
theorem dX11_copies_1 : decode cX11_copies 1 = .ok (.istore_n 3, 1) := by decide +kernel
theorem dX11_copies_2 : decode cX11_copies 2 = .ok (.iload_n 3, 1) := by decide +kernel
theorem dX11_copies_3 : decode cX11_copies 3 = .ok (.aload_n 1, 1) := by decide +kernel
theorem dX11_copies_4 : decode cX11_copies 4 = .ok (.arraylength, 1) := by decide +kernel
theorem dX11_copies_5 : decode cX11_copies 5 = .ok (.if_icmp .ge 15, 3) := by decide +kernel
theorem dX11_copies_8 : decode cX11_copies 8 = .ok (.aload_n 2, 1) := by decide +kernel
theorem dX11_copies_9 : decode cX11_copies 9 = .ok (.iload_n 3, 1) := by decide +kernel
theorem dX11_copies_10 : decode cX11_copies 10 = .ok (.aload_n 1, 1) := by decide +kernel
theorem dX11_copies_11 : decode cX11_copies 11 = .ok (.iload_n 3, 1) := by decide +kernel
theorem dX11_copies_12 : decode cX11_copies 12 = .ok (.iaload, 1) := by decide +kernel
theorem dX11_copies_13 : decode cX11_copies 13 = .ok (.iastore, 1) := by decide +kernel
theorem dX11_copies_14 : decode cX11_copies 14 = .ok (.iinc 3 1, 3) := by decide +kernel
theorem dX11_copies_17 : decode cX11_copies 17 = .ok (.goto (-15), 3) := by decide +kernel
theorem dX11_copies_20 : decode cX11_copies 20 = .ok (.return_, 1) := by decide +kernel
theorem dX11_feed_0 : decode cX11_feed 0 = .ok (.aload_n 0, 1) := by decide +kernel
theorem dX11_feed_1 : decode cX11_feed 1 = .ok (.iconst 0, 1) := by decide +kernel
theorem dX11_feed_2 : decode cX11_feed 2 = .ok (.putfield 113, 3) := by decide +kernel
theorem dX11_feed_5 : decode cX11_feed 5 = .ok (.aload_n 0, 1) := by decide +kernel
theorem dX11_feed_6 : decode cX11_feed 6 = .ok (.getfield 116, 3) := by decide +kernel
theorem dX11_feed_9 : decode cX11_feed 9 = .ok (.bipush 20, 2) := by decide +kernel
theorem dX11_feed_11 : decode cX11_feed 11 = .ok (.iadd, 1) := by decide +kernel
theorem dX11_feed_12 : decode cX11_feed 12 = .ok (.sipush 400, 3) := by decide +kernel
theorem dX11_feed_15 : decode cX11_feed 15 = .ok (.if_icmp .le 5, 3) := by decide +kernel
theorem dX11_feed_18 : decode cX11_feed 18 = .ok (.iconst (-1), 1) := by decide +kernel
theorem dX11_feed_19 : decode cX11_feed 19 = .ok (.ireturn, 1) := by decide +kernel
theorem dX11_feed_20 : decode cX11_feed 20 = .ok (.aload_n 0, 1) := by decide +kernel
theorem dX11_feed_21 : decode cX11_feed 21 = .ok (.iload_n 1, 1) := by decide +kernel
theorem dX11_feed_22 : decode cX11_feed 22 = .ok (.invokevirtual 119, 3) := by decide +kernel
theorem dX11_feed_25 : decode cX11_feed 25 = .ok (.aload_n 0, 1) := by decide +kernel
theorem dX11_feed_26 : decode cX11_feed 26 = .ok (.iload_n 2, 1) := by decide +kernel
theorem dX11_feed_27 : decode cX11_feed 27 = .ok (.invokevirtual 119, 3) := by decide +kernel
theorem dX11_feed_30 : decode cX11_feed 30 = .ok (.aload_n 0, 1) := by decide +kernel
theorem dX11_feed_31 : decode cX11_feed 31 = .ok (.iload_n 3, 1) := by decide +kernel
theorem dX11_feed_32 : decode cX11_feed 32 = .ok (.invokevirtual 119, 3) := by decide +kernel
theorem dX11_feed_35 : decode cX11_feed 35 = .ok (.aload_n 0, 1) := by decide +kernel
theorem dX11_feed_36 : decode cX11_feed 36 = .ok (.iload 4, 2) := by decide +kernel
theorem dX11_feed_38 : decode cX11_feed 38 = .ok (.invokevirtual 119, 3) := by decide +kernel
theorem dX11_feed_41 : decode cX11_feed 41 = .ok (.aload_n 0, 1) := by decide +kernel
theorem dX11_feed_42 : decode cX11_feed 42 = .ok (.iload 5, 2) := by decide +kernel
theorem dX11_feed_44 : decode cX11_feed 44 = .ok (.invokevirtual 119, 3) := by decide +kernel
theorem dX11_feed_47 : decode cX11_feed 47 = .ok (.aload_n 0, 1) := by decide +kernel
theorem dX11_feed_48 : decode cX11_feed 48 = .ok (.getfield 116, 3) := by decide +kernel
theorem dX11_feed_51 : decode cX11_feed 51 = .ok (.ireturn, 1) := by decide +kernel
theorem dX11_lays_0 : decode cX11_lays 0 = .ok (.bipush 24, 2) := by decide +kernel
theorem dX11_lays_2 : decode cX11_lays 2 = .ok (.istore_n 2, 1) := by decide +kernel
theorem dX11_lays_3 : decode cX11_lays 3 = .ok (.iload_n 2, 1) := by decide +kernel
theorem dX11_lays_4 : decode cX11_lays 4 = .ok (.ifCond .lt 35, 3) := by decide +kernel
theorem dX11_lays_7 : decode cX11_lays 7 = .ok (.aload_n 0, 1) := by decide +kernel
theorem dX11_lays_8 : decode cX11_lays 8 = .ok (.getfield 25, 3) := by decide +kernel
theorem dX11_lays_11 : decode cX11_lays 11 = .ok (.aload_n 0, 1) := by decide +kernel
theorem dX11_lays_12 : decode cX11_lays 12 = .ok (.getfield 116, 3) := by decide +kernel
theorem dX11_lays_15 : decode cX11_lays 15 = .ok (.iload_n 1, 1) := by decide +kernel
theorem dX11_lays_16 : decode cX11_lays 16 = .ok (.iload_n 2, 1) := by decide +kernel
theorem dX11_lays_17 : decode cX11_lays 17 = .ok (.ishr, 1) := by decide +kernel
theorem dX11_lays_18 : decode cX11_lays 18 = .ok (.sipush 255, 3) := by decide +kernel
theorem dX11_lays_21 : decode cX11_lays 21 = .ok (.iand, 1) := by decide +kernel
theorem dX11_lays_22 : decode cX11_lays 22 = .ok (.iastore, 1) := by decide +kernel
theorem dX11_lays_23 : decode cX11_lays 23 = .ok (.aload_n 0, 1) := by decide +kernel
theorem dX11_lays_24 : decode cX11_lays 24 = .ok (.dup, 1) := by decide +kernel
theorem dX11_lays_25 : decode cX11_lays 25 = .ok (.getfield 116, 3) := by decide +kernel
theorem dX11_lays_28 : decode cX11_lays 28 = .ok (.iconst 1, 1) := by decide +kernel
theorem dX11_lays_29 : decode cX11_lays 29 = .ok (.iadd, 1) := by decide +kernel
theorem dX11_lays_30 : decode cX11_lays 30 = .ok (.putfield 116, 3) := by decide +kernel
theorem dX11_lays_33 : decode cX11_lays 33 = .ok (.iinc 2 (-8), 3) := by decide +kernel
theorem dX11_lays_36 : decode cX11_lays 36 = .ok (.goto (-33), 3) := by decide +kernel
theorem dX11_lays_39 : decode cX11_lays 39 = .ok (.return_, 1) := by decide +kernel
theorem dX11_byteAt_0 : decode cX11_byteAt 0 = .ok (.iload_n 1, 1) := by decide +kernel
theorem dX11_byteAt_1 : decode cX11_byteAt 1 = .ok (.aload_n 0, 1) := by decide +kernel
theorem dX11_byteAt_2 : decode cX11_byteAt 2 = .ok (.getfield 123, 3) := by decide +kernel
theorem dX11_byteAt_5 : decode cX11_byteAt 5 = .ok (.if_icmp .ge 12, 3) := by decide +kernel
theorem dX11_byteAt_8 : decode cX11_byteAt 8 = .ok (.aload_n 0, 1) := by decide +kernel
theorem dX11_byteAt_9 : decode cX11_byteAt 9 = .ok (.getfield 25, 3) := by decide +kernel
theorem dX11_byteAt_12 : decode cX11_byteAt 12 = .ok (.iload_n 1, 1) := by decide +kernel
theorem dX11_byteAt_13 : decode cX11_byteAt 13 = .ok (.iaload, 1) := by decide +kernel
theorem dX11_byteAt_14 : decode cX11_byteAt 14 = .ok (.goto 4, 3) := by decide +kernel
theorem dX11_byteAt_17 : decode cX11_byteAt 17 = .ok (.iconst 0, 1) := by decide +kernel
theorem dX11_byteAt_18 : decode cX11_byteAt 18 = .ok (.ireturn, 1) := by decide +kernel
theorem dX11_isLetter_0 : decode cX11_isLetter 0 = .ok (.iload_n 0, 1) := by decide +kernel
theorem dX11_isLetter_1 : decode cX11_isLetter 1 = .ok (.bipush 97, 2) := by decide +kernel
theorem dX11_isLetter_3 : decode cX11_isLetter 3 = .ok (.if_icmp .lt 13, 3) := by decide +kernel
theorem dX11_isLetter_6 : decode cX11_isLetter 6 = .ok (.iload_n 0, 1) := by decide +kernel
theorem dX11_isLetter_7 : decode cX11_isLetter 7 = .ok (.bipush 122, 2) := by decide +kernel
theorem dX11_isLetter_9 : decode cX11_isLetter 9 = .ok (.if_icmp .gt 7, 3) := by decide +kernel
theorem dX11_isLetter_12 : decode cX11_isLetter 12 = .ok (.iconst 1, 1) := by decide +kernel
theorem dX11_isLetter_13 : decode cX11_isLetter 13 = .ok (.goto 4, 3) := by decide +kernel
theorem dX11_isLetter_16 : decode cX11_isLetter 16 = .ok (.iconst 0, 1) := by decide +kernel
theorem dX11_isLetter_17 : decode cX11_isLetter 17 = .ok (.ireturn, 1) := by decide +kernel
theorem dX11_isDigit_0 : decode cX11_isDigit 0 = .ok (.iload_n 0, 1) := by decide +kernel
theorem dX11_isDigit_1 : decode cX11_isDigit 1 = .ok (.bipush 48, 2) := by decide +kernel
theorem dX11_isDigit_3 : decode cX11_isDigit 3 = .ok (.if_icmp .lt 13, 3) := by decide +kernel
theorem dX11_isDigit_6 : decode cX11_isDigit 6 = .ok (.iload_n 0, 1) := by decide +kernel
theorem dX11_isDigit_7 : decode cX11_isDigit 7 = .ok (.bipush 57, 2) := by decide +kernel
theorem dX11_isDigit_9 : decode cX11_isDigit 9 = .ok (.if_icmp .gt 7, 3) := by decide +kernel
theorem dX11_isDigit_12 : decode cX11_isDigit 12 = .ok (.iconst 1, 1) := by decide +kernel
theorem dX11_isDigit_13 : decode cX11_isDigit 13 = .ok (.goto 4, 3) := by decide +kernel
theorem dX11_isDigit_16 : decode cX11_isDigit 16 = .ok (.iconst 0, 1) := by decide +kernel
theorem dX11_isDigit_17 : decode cX11_isDigit 17 = .ok (.ireturn, 1) := by decide +kernel
theorem dX11_steps_0 : decode cX11_steps 0 = .ok (.aload_n 0, 1) := by decide +kernel
theorem dX11_steps_1 : decode cX11_steps 1 = .ok (.getfield 126, 3) := by decide +kernel
theorem dX11_steps_4 : decode cX11_steps 4 = .ok (.aload_n 0, 1) := by decide +kernel
theorem dX11_steps_5 : decode cX11_steps 5 = .ok (.getfield 123, 3) := by decide +kernel
theorem dX11_steps_8 : decode cX11_steps 8 = .ok (.if_icmp .ge 42, 3) := by decide +kernel
theorem dX11_steps_11 : decode cX11_steps 11 = .ok (.aload_n 0, 1) := by decide +kernel
theorem dX11_steps_12 : decode cX11_steps 12 = .ok (.aload_n 0, 1) := by decide +kernel
theorem dX11_steps_13 : decode cX11_steps 13 = .ok (.getfield 126, 3) := by decide +kernel
theorem dX11_steps_16 : decode cX11_steps 16 = .ok (.invokevirtual 129, 3) := by decide +kernel
theorem dX11_steps_19 : decode cX11_steps 19 = .ok (.bipush 32, 2) := by decide +kernel
theorem dX11_steps_21 : decode cX11_steps 21 = .ok (.if_icmp .eq 16, 3) := by decide +kernel
theorem dX11_steps_24 : decode cX11_steps 24 = .ok (.aload_n 0, 1) := by decide +kernel
theorem dX11_steps_25 : decode cX11_steps 25 = .ok (.aload_n 0, 1) := by decide +kernel
theorem dX11_steps_26 : decode cX11_steps 26 = .ok (.getfield 126, 3) := by decide +kernel
theorem dX11_steps_29 : decode cX11_steps 29 = .ok (.invokevirtual 129, 3) := by decide +kernel
theorem dX11_steps_32 : decode cX11_steps 32 = .ok (.bipush 10, 2) := by decide +kernel
theorem dX11_steps_34 : decode cX11_steps 34 = .ok (.if_icmp .ne 16, 3) := by decide +kernel
theorem dX11_steps_37 : decode cX11_steps 37 = .ok (.aload_n 0, 1) := by decide +kernel
theorem dX11_steps_38 : decode cX11_steps 38 = .ok (.dup, 1) := by decide +kernel
theorem dX11_steps_39 : decode cX11_steps 39 = .ok (.getfield 126, 3) := by decide +kernel
theorem dX11_steps_42 : decode cX11_steps 42 = .ok (.iconst 1, 1) := by decide +kernel
theorem dX11_steps_43 : decode cX11_steps 43 = .ok (.iadd, 1) := by decide +kernel
theorem dX11_steps_44 : decode cX11_steps 44 = .ok (.putfield 126, 3) := by decide +kernel
theorem dX11_steps_47 : decode cX11_steps 47 = .ok (.goto (-47), 3) := by decide +kernel
theorem dX11_steps_50 : decode cX11_steps 50 = .ok (.aload_n 0, 1) := by decide +kernel
theorem dX11_steps_51 : decode cX11_steps 51 = .ok (.aload_n 0, 1) := by decide +kernel
theorem dX11_steps_52 : decode cX11_steps 52 = .ok (.getfield 126, 3) := by decide +kernel
theorem dX11_steps_55 : decode cX11_steps 55 = .ok (.putfield 133, 3) := by decide +kernel
theorem dX11_steps_58 : decode cX11_steps 58 = .ok (.aload_n 0, 1) := by decide +kernel
theorem dX11_steps_59 : decode cX11_steps 59 = .ok (.lconst 0, 1) := by decide +kernel
theorem dX11_steps_60 : decode cX11_steps 60 = .ok (.putfield 136, 3) := by decide +kernel
theorem dX11_steps_63 : decode cX11_steps 63 = .ok (.aload_n 0, 1) := by decide +kernel
theorem dX11_steps_64 : decode cX11_steps 64 = .ok (.iconst 0, 1) := by decide +kernel
theorem dX11_steps_65 : decode cX11_steps 65 = .ok (.putfield 140, 3) := by decide +kernel
theorem dX11_steps_68 : decode cX11_steps 68 = .ok (.aload_n 0, 1) := by decide +kernel
theorem dX11_steps_69 : decode cX11_steps 69 = .ok (.aload_n 0, 1) := by decide +kernel
theorem dX11_steps_70 : decode cX11_steps 70 = .ok (.getfield 126, 3) := by decide +kernel
theorem dX11_steps_73 : decode cX11_steps 73 = .ok (.invokevirtual 129, 3) := by decide +kernel
theorem dX11_steps_76 : decode cX11_steps 76 = .ok (.istore_n 1, 1) := by decide +kernel
theorem dX11_steps_77 : decode cX11_steps 77 = .ok (.aload_n 0, 1) := by decide +kernel
theorem dX11_steps_78 : decode cX11_steps 78 = .ok (.iload_n 1, 1) := by decide +kernel
theorem dX11_steps_79 : decode cX11_steps 79 = .ok (.putfield 143, 3) := by decide +kernel
theorem dX11_steps_82 : decode cX11_steps 82 = .ok (.aload_n 0, 1) := by decide +kernel
theorem dX11_steps_83 : decode cX11_steps 83 = .ok (.getfield 126, 3) := by decide +kernel
theorem dX11_steps_86 : decode cX11_steps 86 = .ok (.aload_n 0, 1) := by decide +kernel
theorem dX11_steps_87 : decode cX11_steps 87 = .ok (.getfield 123, 3) := by decide +kernel
theorem dX11_steps_90 : decode cX11_steps 90 = .ok (.if_icmp .lt 11, 3) := by decide +kernel
theorem dX11_steps_93 : decode cX11_steps 93 = .ok (.aload_n 0, 1) := by decide +kernel
theorem dX11_steps_94 : decode cX11_steps 94 = .ok (.iconst 0, 1) := by decide +kernel
theorem dX11_steps_95 : decode cX11_steps 95 = .ok (.putfield 146, 3) := by decide +kernel
theorem dX11_steps_98 : decode cX11_steps 98 = .ok (.goto 203, 3) := by decide +kernel
theorem dX11_steps_101 : decode cX11_steps 101 = .ok (.iload_n 1, 1) := by decide +kernel
theorem dX11_steps_102 : decode cX11_steps 102 = .ok (.invokestatic 149, 3) := by decide +kernel
theorem dX11_steps_105 : decode cX11_steps 105 = .ok (.ifCond .eq 75, 3) := by decide +kernel
theorem dX11_steps_108 : decode cX11_steps 108 = .ok (.aload_n 0, 1) := by decide +kernel
theorem dX11_steps_109 : decode cX11_steps 109 = .ok (.aload_n 0, 1) := by decide +kernel
theorem dX11_steps_110 : decode cX11_steps 110 = .ok (.getfield 126, 3) := by decide +kernel
theorem dX11_steps_113 : decode cX11_steps 113 = .ok (.invokevirtual 129, 3) := by decide +kernel
theorem dX11_steps_116 : decode cX11_steps 116 = .ok (.invokestatic 149, 3) := by decide +kernel
theorem dX11_steps_119 : decode cX11_steps 119 = .ok (.ifCond .eq 53, 3) := by decide +kernel
theorem dX11_steps_122 : decode cX11_steps 122 = .ok (.aload_n 0, 1) := by decide +kernel
theorem dX11_steps_123 : decode cX11_steps 123 = .ok (.getfield 126, 3) := by decide +kernel
theorem dX11_steps_126 : decode cX11_steps 126 = .ok (.aload_n 0, 1) := by decide +kernel
theorem dX11_steps_127 : decode cX11_steps 127 = .ok (.getfield 133, 3) := by decide +kernel
theorem dX11_steps_130 : decode cX11_steps 130 = .ok (.isub, 1) := by decide +kernel
theorem dX11_steps_131 : decode cX11_steps 131 = .ok (.bipush 8, 2) := by decide +kernel
theorem dX11_steps_133 : decode cX11_steps 133 = .ok (.if_icmp .ge 26, 3) := by decide +kernel
theorem dX11_steps_136 : decode cX11_steps 136 = .ok (.aload_n 0, 1) := by decide +kernel
theorem dX11_steps_137 : decode cX11_steps 137 = .ok (.aload_n 0, 1) := by decide +kernel
theorem dX11_steps_138 : decode cX11_steps 138 = .ok (.getfield 136, 3) := by decide +kernel
theorem dX11_steps_141 : decode cX11_steps 141 = .ok (.iconst 5, 1) := by decide +kernel
theorem dX11_steps_142 : decode cX11_steps 142 = .ok (.lshl, 1) := by decide +kernel
theorem dX11_steps_143 : decode cX11_steps 143 = .ok (.aload_n 0, 1) := by decide +kernel
theorem dX11_steps_144 : decode cX11_steps 144 = .ok (.aload_n 0, 1) := by decide +kernel
theorem dX11_steps_145 : decode cX11_steps 145 = .ok (.getfield 126, 3) := by decide +kernel
theorem dX11_steps_148 : decode cX11_steps 148 = .ok (.invokevirtual 129, 3) := by decide +kernel
theorem dX11_steps_151 : decode cX11_steps 151 = .ok (.bipush 96, 2) := by decide +kernel
theorem dX11_steps_153 : decode cX11_steps 153 = .ok (.isub, 1) := by decide +kernel
theorem dX11_steps_154 : decode cX11_steps 154 = .ok (.i2l, 1) := by decide +kernel
theorem dX11_steps_155 : decode cX11_steps 155 = .ok (.lor, 1) := by decide +kernel
theorem dX11_steps_156 : decode cX11_steps 156 = .ok (.putfield 136, 3) := by decide +kernel
theorem dX11_steps_159 : decode cX11_steps 159 = .ok (.aload_n 0, 1) := by decide +kernel
theorem dX11_steps_160 : decode cX11_steps 160 = .ok (.dup, 1) := by decide +kernel
theorem dX11_steps_161 : decode cX11_steps 161 = .ok (.getfield 126, 3) := by decide +kernel
theorem dX11_steps_164 : decode cX11_steps 164 = .ok (.iconst 1, 1) := by decide +kernel
theorem dX11_steps_165 : decode cX11_steps 165 = .ok (.iadd, 1) := by decide +kernel
theorem dX11_steps_166 : decode cX11_steps 166 = .ok (.putfield 126, 3) := by decide +kernel
theorem dX11_steps_169 : decode cX11_steps 169 = .ok (.goto (-61), 3) := by decide +kernel
theorem dX11_steps_172 : decode cX11_steps 172 = .ok (.aload_n 0, 1) := by decide +kernel
theorem dX11_steps_173 : decode cX11_steps 173 = .ok (.iconst 1, 1) := by decide +kernel
theorem dX11_steps_174 : decode cX11_steps 174 = .ok (.putfield 146, 3) := by decide +kernel
theorem dX11_steps_177 : decode cX11_steps 177 = .ok (.goto 124, 3) := by decide +kernel
theorem dX11_steps_180 : decode cX11_steps 180 = .ok (.iload_n 1, 1) := by decide +kernel
theorem dX11_steps_181 : decode cX11_steps 181 = .ok (.invokestatic 153, 3) := by decide +kernel
theorem dX11_steps_184 : decode cX11_steps 184 = .ok (.ifCond .eq 74, 3) := by decide +kernel
theorem dX11_steps_187 : decode cX11_steps 187 = .ok (.aload_n 0, 1) := by decide +kernel
theorem dX11_steps_188 : decode cX11_steps 188 = .ok (.aload_n 0, 1) := by decide +kernel
theorem dX11_steps_189 : decode cX11_steps 189 = .ok (.getfield 126, 3) := by decide +kernel
theorem dX11_steps_192 : decode cX11_steps 192 = .ok (.invokevirtual 129, 3) := by decide +kernel
theorem dX11_steps_195 : decode cX11_steps 195 = .ok (.invokestatic 153, 3) := by decide +kernel
theorem dX11_steps_198 : decode cX11_steps 198 = .ok (.ifCond .eq 52, 3) := by decide +kernel
theorem dX11_steps_201 : decode cX11_steps 201 = .ok (.aload_n 0, 1) := by decide +kernel
theorem dX11_steps_202 : decode cX11_steps 202 = .ok (.getfield 126, 3) := by decide +kernel
theorem dX11_steps_205 : decode cX11_steps 205 = .ok (.aload_n 0, 1) := by decide +kernel
theorem dX11_steps_206 : decode cX11_steps 206 = .ok (.getfield 133, 3) := by decide +kernel
theorem dX11_steps_209 : decode cX11_steps 209 = .ok (.isub, 1) := by decide +kernel
theorem dX11_steps_210 : decode cX11_steps 210 = .ok (.iconst 3, 1) := by decide +kernel
theorem dX11_steps_211 : decode cX11_steps 211 = .ok (.if_icmp .ge 26, 3) := by decide +kernel
theorem dX11_steps_214 : decode cX11_steps 214 = .ok (.aload_n 0, 1) := by decide +kernel
theorem dX11_steps_215 : decode cX11_steps 215 = .ok (.bipush 10, 2) := by decide +kernel
theorem dX11_steps_217 : decode cX11_steps 217 = .ok (.aload_n 0, 1) := by decide +kernel
theorem dX11_steps_218 : decode cX11_steps 218 = .ok (.getfield 140, 3) := by decide +kernel
theorem dX11_steps_221 : decode cX11_steps 221 = .ok (.imul, 1) := by decide +kernel
theorem dX11_steps_222 : decode cX11_steps 222 = .ok (.aload_n 0, 1) := by decide +kernel
theorem dX11_steps_223 : decode cX11_steps 223 = .ok (.aload_n 0, 1) := by decide +kernel
theorem dX11_steps_224 : decode cX11_steps 224 = .ok (.getfield 126, 3) := by decide +kernel
theorem dX11_steps_227 : decode cX11_steps 227 = .ok (.invokevirtual 129, 3) := by decide +kernel
theorem dX11_steps_230 : decode cX11_steps 230 = .ok (.iadd, 1) := by decide +kernel
theorem dX11_steps_231 : decode cX11_steps 231 = .ok (.bipush 48, 2) := by decide +kernel
theorem dX11_steps_233 : decode cX11_steps 233 = .ok (.isub, 1) := by decide +kernel
theorem dX11_steps_234 : decode cX11_steps 234 = .ok (.putfield 140, 3) := by decide +kernel
theorem dX11_steps_237 : decode cX11_steps 237 = .ok (.aload_n 0, 1) := by decide +kernel
theorem dX11_steps_238 : decode cX11_steps 238 = .ok (.dup, 1) := by decide +kernel
theorem dX11_steps_239 : decode cX11_steps 239 = .ok (.getfield 126, 3) := by decide +kernel
theorem dX11_steps_242 : decode cX11_steps 242 = .ok (.iconst 1, 1) := by decide +kernel
theorem dX11_steps_243 : decode cX11_steps 243 = .ok (.iadd, 1) := by decide +kernel
theorem dX11_steps_244 : decode cX11_steps 244 = .ok (.putfield 126, 3) := by decide +kernel
theorem dX11_steps_247 : decode cX11_steps 247 = .ok (.goto (-60), 3) := by decide +kernel
theorem dX11_steps_250 : decode cX11_steps 250 = .ok (.aload_n 0, 1) := by decide +kernel
theorem dX11_steps_251 : decode cX11_steps 251 = .ok (.iconst 2, 1) := by decide +kernel
theorem dX11_steps_252 : decode cX11_steps 252 = .ok (.putfield 146, 3) := by decide +kernel
theorem dX11_steps_255 : decode cX11_steps 255 = .ok (.goto 46, 3) := by decide +kernel
theorem dX11_steps_258 : decode cX11_steps 258 = .ok (.aload_n 0, 1) := by decide +kernel
theorem dX11_steps_259 : decode cX11_steps 259 = .ok (.dup, 1) := by decide +kernel
theorem dX11_steps_260 : decode cX11_steps 260 = .ok (.getfield 126, 3) := by decide +kernel
theorem dX11_steps_263 : decode cX11_steps 263 = .ok (.iconst 1, 1) := by decide +kernel
theorem dX11_steps_264 : decode cX11_steps 264 = .ok (.iadd, 1) := by decide +kernel
theorem dX11_steps_265 : decode cX11_steps 265 = .ok (.putfield 126, 3) := by decide +kernel
theorem dX11_steps_268 : decode cX11_steps 268 = .ok (.aload_n 0, 1) := by decide +kernel
theorem dX11_steps_269 : decode cX11_steps 269 = .ok (.iload_n 1, 1) := by decide +kernel
theorem dX11_steps_270 : decode cX11_steps 270 = .ok (.bipush 59, 2) := by decide +kernel
theorem dX11_steps_272 : decode cX11_steps 272 = .ok (.if_icmp .eq 21, 3) := by decide +kernel
theorem dX11_steps_275 : decode cX11_steps 275 = .ok (.iload_n 1, 1) := by decide +kernel
theorem dX11_steps_276 : decode cX11_steps 276 = .ok (.bipush 45, 2) := by decide +kernel
theorem dX11_steps_278 : decode cX11_steps 278 = .ok (.if_icmp .eq 15, 3) := by decide +kernel
theorem dX11_steps_281 : decode cX11_steps 281 = .ok (.iload_n 1, 1) := by decide +kernel
theorem dX11_steps_282 : decode cX11_steps 282 = .ok (.bipush 40, 2) := by decide +kernel
theorem dX11_steps_284 : decode cX11_steps 284 = .ok (.if_icmp .eq 9, 3) := by decide +kernel
theorem dX11_steps_287 : decode cX11_steps 287 = .ok (.iload_n 1, 1) := by decide +kernel
theorem dX11_steps_288 : decode cX11_steps 288 = .ok (.bipush 41, 2) := by decide +kernel
theorem dX11_steps_290 : decode cX11_steps 290 = .ok (.if_icmp .ne 7, 3) := by decide +kernel
theorem dX11_steps_293 : decode cX11_steps 293 = .ok (.iconst 3, 1) := by decide +kernel
theorem dX11_steps_294 : decode cX11_steps 294 = .ok (.goto 4, 3) := by decide +kernel
theorem dX11_steps_297 : decode cX11_steps 297 = .ok (.iconst 4, 1) := by decide +kernel
theorem dX11_steps_298 : decode cX11_steps 298 = .ok (.putfield 146, 3) := by decide +kernel
theorem dX11_steps_301 : decode cX11_steps 301 = .ok (.aload_n 0, 1) := by decide +kernel
theorem dX11_steps_302 : decode cX11_steps 302 = .ok (.aload_n 0, 1) := by decide +kernel
theorem dX11_steps_303 : decode cX11_steps 303 = .ok (.getfield 126, 3) := by decide +kernel
theorem dX11_steps_306 : decode cX11_steps 306 = .ok (.aload_n 0, 1) := by decide +kernel
theorem dX11_steps_307 : decode cX11_steps 307 = .ok (.getfield 133, 3) := by decide +kernel
theorem dX11_steps_310 : decode cX11_steps 310 = .ok (.isub, 1) := by decide +kernel
theorem dX11_steps_311 : decode cX11_steps 311 = .ok (.putfield 156, 3) := by decide +kernel
theorem dX11_steps_314 : decode cX11_steps 314 = .ok (.return_, 1) := by decide +kernel
theorem dX11_spelled_0 : decode cX11_spelled 0 = .ok (.iload_n 0, 1) := by decide +kernel
theorem dX11_spelled_1 : decode cX11_spelled 1 = .ok (.i2l, 1) := by decide +kernel
theorem dX11_spelled_2 : decode cX11_spelled 2 = .ok (.ldc2_w 159, 3) := by decide +kernel
theorem dX11_spelled_5 : decode cX11_spelled 5 = .ok (.lsub, 1) := by decide +kernel
theorem dX11_spelled_6 : decode cX11_spelled 6 = .ok (.bipush 10, 2) := by decide +kernel
theorem dX11_spelled_8 : decode cX11_spelled 8 = .ok (.lshl, 1) := by decide +kernel
theorem dX11_spelled_9 : decode cX11_spelled 9 = .ok (.iload_n 1, 1) := by decide +kernel
theorem dX11_spelled_10 : decode cX11_spelled 10 = .ok (.i2l, 1) := by decide +kernel
theorem dX11_spelled_11 : decode cX11_spelled 11 = .ok (.ldc2_w 159, 3) := by decide +kernel
theorem dX11_spelled_14 : decode cX11_spelled 14 = .ok (.lsub, 1) := by decide +kernel
theorem dX11_spelled_15 : decode cX11_spelled 15 = .ok (.iconst 5, 1) := by decide +kernel
theorem dX11_spelled_16 : decode cX11_spelled 16 = .ok (.lshl, 1) := by decide +kernel
theorem dX11_spelled_17 : decode cX11_spelled 17 = .ok (.lor, 1) := by decide +kernel
theorem dX11_spelled_18 : decode cX11_spelled 18 = .ok (.iload_n 2, 1) := by decide +kernel
theorem dX11_spelled_19 : decode cX11_spelled 19 = .ok (.bipush 96, 2) := by decide +kernel
theorem dX11_spelled_21 : decode cX11_spelled 21 = .ok (.isub, 1) := by decide +kernel
theorem dX11_spelled_22 : decode cX11_spelled 22 = .ok (.i2l, 1) := by decide +kernel
theorem dX11_spelled_23 : decode cX11_spelled 23 = .ok (.lor, 1) := by decide +kernel
theorem dX11_spelled_24 : decode cX11_spelled 24 = .ok (.lstore 8, 2) := by decide +kernel
theorem dX11_spelled_26 : decode cX11_spelled 26 = .ok (.iload_n 3, 1) := by decide +kernel
theorem dX11_spelled_27 : decode cX11_spelled 27 = .ok (.ifCond .eq 15, 3) := by decide +kernel
theorem dX11_spelled_30 : decode cX11_spelled 30 = .ok (.lload 8, 2) := by decide +kernel
theorem dX11_spelled_32 : decode cX11_spelled 32 = .ok (.iconst 5, 1) := by decide +kernel
theorem dX11_spelled_33 : decode cX11_spelled 33 = .ok (.lshl, 1) := by decide +kernel
theorem dX11_spelled_34 : decode cX11_spelled 34 = .ok (.iload_n 3, 1) := by decide +kernel
theorem dX11_spelled_35 : decode cX11_spelled 35 = .ok (.bipush 96, 2) := by decide +kernel
theorem dX11_spelled_37 : decode cX11_spelled 37 = .ok (.isub, 1) := by decide +kernel
theorem dX11_spelled_38 : decode cX11_spelled 38 = .ok (.i2l, 1) := by decide +kernel
theorem dX11_spelled_39 : decode cX11_spelled 39 = .ok (.lor, 1) := by decide +kernel
theorem dX11_spelled_40 : decode cX11_spelled 40 = .ok (.lstore 8, 2) := by decide +kernel
theorem dX11_spelled_42 : decode cX11_spelled 42 = .ok (.iload 4, 2) := by decide +kernel
theorem dX11_spelled_44 : decode cX11_spelled 44 = .ok (.ifCond .eq 16, 3) := by decide +kernel
theorem dX11_spelled_47 : decode cX11_spelled 47 = .ok (.lload 8, 2) := by decide +kernel
theorem dX11_spelled_49 : decode cX11_spelled 49 = .ok (.iconst 5, 1) := by decide +kernel
theorem dX11_spelled_50 : decode cX11_spelled 50 = .ok (.lshl, 1) := by decide +kernel
theorem dX11_spelled_51 : decode cX11_spelled 51 = .ok (.iload 4, 2) := by decide +kernel
theorem dX11_spelled_53 : decode cX11_spelled 53 = .ok (.bipush 96, 2) := by decide +kernel
theorem dX11_spelled_55 : decode cX11_spelled 55 = .ok (.isub, 1) := by decide +kernel
theorem dX11_spelled_56 : decode cX11_spelled 56 = .ok (.i2l, 1) := by decide +kernel
theorem dX11_spelled_57 : decode cX11_spelled 57 = .ok (.lor, 1) := by decide +kernel
theorem dX11_spelled_58 : decode cX11_spelled 58 = .ok (.lstore 8, 2) := by decide +kernel
theorem dX11_spelled_60 : decode cX11_spelled 60 = .ok (.iload 5, 2) := by decide +kernel
theorem dX11_spelled_62 : decode cX11_spelled 62 = .ok (.ifCond .eq 16, 3) := by decide +kernel
theorem dX11_spelled_65 : decode cX11_spelled 65 = .ok (.lload 8, 2) := by decide +kernel
theorem dX11_spelled_67 : decode cX11_spelled 67 = .ok (.iconst 5, 1) := by decide +kernel
theorem dX11_spelled_68 : decode cX11_spelled 68 = .ok (.lshl, 1) := by decide +kernel
theorem dX11_spelled_69 : decode cX11_spelled 69 = .ok (.iload 5, 2) := by decide +kernel
theorem dX11_spelled_71 : decode cX11_spelled 71 = .ok (.bipush 96, 2) := by decide +kernel
theorem dX11_spelled_73 : decode cX11_spelled 73 = .ok (.isub, 1) := by decide +kernel
theorem dX11_spelled_74 : decode cX11_spelled 74 = .ok (.i2l, 1) := by decide +kernel
theorem dX11_spelled_75 : decode cX11_spelled 75 = .ok (.lor, 1) := by decide +kernel
theorem dX11_spelled_76 : decode cX11_spelled 76 = .ok (.lstore 8, 2) := by decide +kernel
theorem dX11_spelled_78 : decode cX11_spelled 78 = .ok (.iload 6, 2) := by decide +kernel
theorem dX11_spelled_80 : decode cX11_spelled 80 = .ok (.ifCond .eq 16, 3) := by decide +kernel
theorem dX11_spelled_83 : decode cX11_spelled 83 = .ok (.lload 8, 2) := by decide +kernel
theorem dX11_spelled_85 : decode cX11_spelled 85 = .ok (.iconst 5, 1) := by decide +kernel
theorem dX11_spelled_86 : decode cX11_spelled 86 = .ok (.lshl, 1) := by decide +kernel
theorem dX11_spelled_87 : decode cX11_spelled 87 = .ok (.iload 6, 2) := by decide +kernel
theorem dX11_spelled_89 : decode cX11_spelled 89 = .ok (.bipush 96, 2) := by decide +kernel
theorem dX11_spelled_91 : decode cX11_spelled 91 = .ok (.isub, 1) := by decide +kernel
theorem dX11_spelled_92 : decode cX11_spelled 92 = .ok (.i2l, 1) := by decide +kernel
theorem dX11_spelled_93 : decode cX11_spelled 93 = .ok (.lor, 1) := by decide +kernel
theorem dX11_spelled_94 : decode cX11_spelled 94 = .ok (.lstore 8, 2) := by decide +kernel
theorem dX11_spelled_96 : decode cX11_spelled 96 = .ok (.iload 7, 2) := by decide +kernel
theorem dX11_spelled_98 : decode cX11_spelled 98 = .ok (.ifCond .eq 16, 3) := by decide +kernel
theorem dX11_spelled_101 : decode cX11_spelled 101 = .ok (.lload 8, 2) := by decide +kernel
theorem dX11_spelled_103 : decode cX11_spelled 103 = .ok (.iconst 5, 1) := by decide +kernel
theorem dX11_spelled_104 : decode cX11_spelled 104 = .ok (.lshl, 1) := by decide +kernel
theorem dX11_spelled_105 : decode cX11_spelled 105 = .ok (.iload 7, 2) := by decide +kernel
theorem dX11_spelled_107 : decode cX11_spelled 107 = .ok (.bipush 96, 2) := by decide +kernel
theorem dX11_spelled_109 : decode cX11_spelled 109 = .ok (.isub, 1) := by decide +kernel
theorem dX11_spelled_110 : decode cX11_spelled 110 = .ok (.i2l, 1) := by decide +kernel
theorem dX11_spelled_111 : decode cX11_spelled 111 = .ok (.lor, 1) := by decide +kernel
theorem dX11_spelled_112 : decode cX11_spelled 112 = .ok (.lstore 8, 2) := by decide +kernel
theorem dX11_spelled_114 : decode cX11_spelled 114 = .ok (.lload 8, 2) := by decide +kernel
theorem dX11_spelled_116 : decode cX11_spelled 116 = .ok (.lreturn, 1) := by decide +kernel
theorem dX11_letters_0 : decode cX11_letters 0 = .ok (.iload_n 0, 1) := by decide +kernel
theorem dX11_letters_1 : decode cX11_letters 1 = .ok (.tableswitch 388 0 17 #[87, 103, 119, 135, 155, 171, 190, 206, 222, 239, 255, 271, 289, 305, 321, 336, 354, 371], 87) := by decide +kernel
theorem dX11_letters_88 : decode cX11_letters 88 = .ok (.bipush 101, 2) := by decide +kernel
theorem dX11_letters_90 : decode cX11_letters 90 = .ok (.bipush 118, 2) := by decide +kernel
theorem dX11_letters_92 : decode cX11_letters 92 = .ok (.bipush 101, 2) := by decide +kernel
theorem dX11_letters_94 : decode cX11_letters 94 = .ok (.bipush 110, 2) := by decide +kernel
theorem dX11_letters_96 : decode cX11_letters 96 = .ok (.iconst 0, 1) := by decide +kernel
theorem dX11_letters_97 : decode cX11_letters 97 = .ok (.iconst 0, 1) := by decide +kernel
theorem dX11_letters_98 : decode cX11_letters 98 = .ok (.iconst 0, 1) := by decide +kernel
theorem dX11_letters_99 : decode cX11_letters 99 = .ok (.iconst 0, 1) := by decide +kernel
theorem dX11_letters_100 : decode cX11_letters 100 = .ok (.invokestatic 161, 3) := by decide +kernel
theorem dX11_letters_103 : decode cX11_letters 103 = .ok (.lreturn, 1) := by decide +kernel
theorem dX11_letters_104 : decode cX11_letters 104 = .ok (.bipush 98, 2) := by decide +kernel
theorem dX11_letters_106 : decode cX11_letters 106 = .ok (.bipush 111, 2) := by decide +kernel
theorem dX11_letters_108 : decode cX11_letters 108 = .ok (.bipush 119, 2) := by decide +kernel
theorem dX11_letters_110 : decode cX11_letters 110 = .ok (.bipush 108, 2) := by decide +kernel
theorem dX11_letters_112 : decode cX11_letters 112 = .ok (.iconst 0, 1) := by decide +kernel
theorem dX11_letters_113 : decode cX11_letters 113 = .ok (.iconst 0, 1) := by decide +kernel
theorem dX11_letters_114 : decode cX11_letters 114 = .ok (.iconst 0, 1) := by decide +kernel
theorem dX11_letters_115 : decode cX11_letters 115 = .ok (.iconst 0, 1) := by decide +kernel
theorem dX11_letters_116 : decode cX11_letters 116 = .ok (.invokestatic 161, 3) := by decide +kernel
theorem dX11_letters_119 : decode cX11_letters 119 = .ok (.lreturn, 1) := by decide +kernel
theorem dX11_letters_120 : decode cX11_letters 120 = .ok (.bipush 107, 2) := by decide +kernel
theorem dX11_letters_122 : decode cX11_letters 122 = .ok (.bipush 105, 2) := by decide +kernel
theorem dX11_letters_124 : decode cX11_letters 124 = .ok (.bipush 99, 2) := by decide +kernel
theorem dX11_letters_126 : decode cX11_letters 126 = .ok (.bipush 107, 2) := by decide +kernel
theorem dX11_letters_128 : decode cX11_letters 128 = .ok (.iconst 0, 1) := by decide +kernel
theorem dX11_letters_129 : decode cX11_letters 129 = .ok (.iconst 0, 1) := by decide +kernel
theorem dX11_letters_130 : decode cX11_letters 130 = .ok (.iconst 0, 1) := by decide +kernel
theorem dX11_letters_131 : decode cX11_letters 131 = .ok (.iconst 0, 1) := by decide +kernel
theorem dX11_letters_132 : decode cX11_letters 132 = .ok (.invokestatic 161, 3) := by decide +kernel
theorem dX11_letters_135 : decode cX11_letters 135 = .ok (.lreturn, 1) := by decide +kernel
theorem dX11_letters_136 : decode cX11_letters 136 = .ok (.bipush 112, 2) := by decide +kernel
theorem dX11_letters_138 : decode cX11_letters 138 = .ok (.bipush 101, 2) := by decide +kernel
theorem dX11_letters_140 : decode cX11_letters 140 = .ok (.bipush 110, 2) := by decide +kernel
theorem dX11_letters_142 : decode cX11_letters 142 = .ok (.bipush 100, 2) := by decide +kernel
theorem dX11_letters_144 : decode cX11_letters 144 = .ok (.bipush 117, 2) := by decide +kernel
theorem dX11_letters_146 : decode cX11_letters 146 = .ok (.bipush 108, 2) := by decide +kernel
theorem dX11_letters_148 : decode cX11_letters 148 = .ok (.bipush 117, 2) := by decide +kernel
theorem dX11_letters_150 : decode cX11_letters 150 = .ok (.bipush 109, 2) := by decide +kernel
theorem dX11_letters_152 : decode cX11_letters 152 = .ok (.invokestatic 161, 3) := by decide +kernel
theorem dX11_letters_155 : decode cX11_letters 155 = .ok (.lreturn, 1) := by decide +kernel
theorem dX11_letters_156 : decode cX11_letters 156 = .ok (.bipush 99, 2) := by decide +kernel
theorem dX11_letters_158 : decode cX11_letters 158 = .ok (.bipush 97, 2) := by decide +kernel
theorem dX11_letters_160 : decode cX11_letters 160 = .ok (.bipush 114, 2) := by decide +kernel
theorem dX11_letters_162 : decode cX11_letters 162 = .ok (.bipush 116, 2) := by decide +kernel
theorem dX11_letters_164 : decode cX11_letters 164 = .ok (.iconst 0, 1) := by decide +kernel
theorem dX11_letters_165 : decode cX11_letters 165 = .ok (.iconst 0, 1) := by decide +kernel
theorem dX11_letters_166 : decode cX11_letters 166 = .ok (.iconst 0, 1) := by decide +kernel
theorem dX11_letters_167 : decode cX11_letters 167 = .ok (.iconst 0, 1) := by decide +kernel
theorem dX11_letters_168 : decode cX11_letters 168 = .ok (.invokestatic 161, 3) := by decide +kernel
theorem dX11_letters_171 : decode cX11_letters 171 = .ok (.lreturn, 1) := by decide +kernel
theorem dX11_letters_172 : decode cX11_letters 172 = .ok (.bipush 112, 2) := by decide +kernel
theorem dX11_letters_174 : decode cX11_letters 174 = .ok (.bipush 101, 2) := by decide +kernel
theorem dX11_letters_176 : decode cX11_letters 176 = .ok (.bipush 110, 2) := by decide +kernel
theorem dX11_letters_178 : decode cX11_letters 178 = .ok (.bipush 110, 2) := by decide +kernel
theorem dX11_letters_180 : decode cX11_letters 180 = .ok (.bipush 105, 2) := by decide +kernel
theorem dX11_letters_182 : decode cX11_letters 182 = .ok (.bipush 101, 2) := by decide +kernel
theorem dX11_letters_184 : decode cX11_letters 184 = .ok (.bipush 115, 2) := by decide +kernel
theorem dX11_letters_186 : decode cX11_letters 186 = .ok (.iconst 0, 1) := by decide +kernel
theorem dX11_letters_187 : decode cX11_letters 187 = .ok (.invokestatic 161, 3) := by decide +kernel
theorem dX11_letters_190 : decode cX11_letters 190 = .ok (.lreturn, 1) := by decide +kernel
theorem dX11_letters_191 : decode cX11_letters 191 = .ok (.bipush 100, 2) := by decide +kernel
theorem dX11_letters_193 : decode cX11_letters 193 = .ok (.bipush 114, 2) := by decide +kernel
theorem dX11_letters_195 : decode cX11_letters 195 = .ok (.bipush 97, 2) := by decide +kernel
theorem dX11_letters_197 : decode cX11_letters 197 = .ok (.bipush 119, 2) := by decide +kernel
theorem dX11_letters_199 : decode cX11_letters 199 = .ok (.iconst 0, 1) := by decide +kernel
theorem dX11_letters_200 : decode cX11_letters 200 = .ok (.iconst 0, 1) := by decide +kernel
theorem dX11_letters_201 : decode cX11_letters 201 = .ok (.iconst 0, 1) := by decide +kernel
theorem dX11_letters_202 : decode cX11_letters 202 = .ok (.iconst 0, 1) := by decide +kernel
theorem dX11_letters_203 : decode cX11_letters 203 = .ok (.invokestatic 161, 3) := by decide +kernel
theorem dX11_letters_206 : decode cX11_letters 206 = .ok (.lreturn, 1) := by decide +kernel
theorem dX11_letters_207 : decode cX11_letters 207 = .ok (.bipush 108, 2) := by decide +kernel
theorem dX11_letters_209 : decode cX11_letters 209 = .ok (.bipush 105, 2) := by decide +kernel
theorem dX11_letters_211 : decode cX11_letters 211 = .ok (.bipush 102, 2) := by decide +kernel
theorem dX11_letters_213 : decode cX11_letters 213 = .ok (.bipush 116, 2) := by decide +kernel
theorem dX11_letters_215 : decode cX11_letters 215 = .ok (.iconst 0, 1) := by decide +kernel
theorem dX11_letters_216 : decode cX11_letters 216 = .ok (.iconst 0, 1) := by decide +kernel
theorem dX11_letters_217 : decode cX11_letters 217 = .ok (.iconst 0, 1) := by decide +kernel
theorem dX11_letters_218 : decode cX11_letters 218 = .ok (.iconst 0, 1) := by decide +kernel
theorem dX11_letters_219 : decode cX11_letters 219 = .ok (.invokestatic 161, 3) := by decide +kernel
theorem dX11_letters_222 : decode cX11_letters 222 = .ok (.lreturn, 1) := by decide +kernel
theorem dX11_letters_223 : decode cX11_letters 223 = .ok (.bipush 112, 2) := by decide +kernel
theorem dX11_letters_225 : decode cX11_letters 225 = .ok (.bipush 101, 2) := by decide +kernel
theorem dX11_letters_227 : decode cX11_letters 227 = .ok (.bipush 110, 2) := by decide +kernel
theorem dX11_letters_229 : decode cX11_letters 229 = .ok (.bipush 110, 2) := by decide +kernel
theorem dX11_letters_231 : decode cX11_letters 231 = .ok (.bipush 121, 2) := by decide +kernel
theorem dX11_letters_233 : decode cX11_letters 233 = .ok (.iconst 0, 1) := by decide +kernel
theorem dX11_letters_234 : decode cX11_letters 234 = .ok (.iconst 0, 1) := by decide +kernel
theorem dX11_letters_235 : decode cX11_letters 235 = .ok (.iconst 0, 1) := by decide +kernel
theorem dX11_letters_236 : decode cX11_letters 236 = .ok (.invokestatic 161, 3) := by decide +kernel
theorem dX11_letters_239 : decode cX11_letters 239 = .ok (.lreturn, 1) := by decide +kernel
theorem dX11_letters_240 : decode cX11_letters 240 = .ok (.bipush 115, 2) := by decide +kernel
theorem dX11_letters_242 : decode cX11_letters 242 = .ok (.bipush 105, 2) := by decide +kernel
theorem dX11_letters_244 : decode cX11_letters 244 = .ok (.bipush 122, 2) := by decide +kernel
theorem dX11_letters_246 : decode cX11_letters 246 = .ok (.bipush 101, 2) := by decide +kernel
theorem dX11_letters_248 : decode cX11_letters 248 = .ok (.iconst 0, 1) := by decide +kernel
theorem dX11_letters_249 : decode cX11_letters 249 = .ok (.iconst 0, 1) := by decide +kernel
theorem dX11_letters_250 : decode cX11_letters 250 = .ok (.iconst 0, 1) := by decide +kernel
theorem dX11_letters_251 : decode cX11_letters 251 = .ok (.iconst 0, 1) := by decide +kernel
theorem dX11_letters_252 : decode cX11_letters 252 = .ok (.invokestatic 161, 3) := by decide +kernel
theorem dX11_letters_255 : decode cX11_letters 255 = .ok (.lreturn, 1) := by decide +kernel
theorem dX11_letters_256 : decode cX11_letters 256 = .ok (.bipush 116, 2) := by decide +kernel
theorem dX11_letters_258 : decode cX11_letters 258 = .ok (.bipush 117, 2) := by decide +kernel
theorem dX11_letters_260 : decode cX11_letters 260 = .ok (.bipush 114, 2) := by decide +kernel
theorem dX11_letters_262 : decode cX11_letters 262 = .ok (.bipush 110, 2) := by decide +kernel
theorem dX11_letters_264 : decode cX11_letters 264 = .ok (.iconst 0, 1) := by decide +kernel
theorem dX11_letters_265 : decode cX11_letters 265 = .ok (.iconst 0, 1) := by decide +kernel
theorem dX11_letters_266 : decode cX11_letters 266 = .ok (.iconst 0, 1) := by decide +kernel
theorem dX11_letters_267 : decode cX11_letters 267 = .ok (.iconst 0, 1) := by decide +kernel
theorem dX11_letters_268 : decode cX11_letters 268 = .ok (.invokestatic 161, 3) := by decide +kernel
theorem dX11_letters_271 : decode cX11_letters 271 = .ok (.lreturn, 1) := by decide +kernel
theorem dX11_letters_272 : decode cX11_letters 272 = .ok (.bipush 114, 2) := by decide +kernel
theorem dX11_letters_274 : decode cX11_letters 274 = .ok (.bipush 101, 2) := by decide +kernel
theorem dX11_letters_276 : decode cX11_letters 276 = .ok (.bipush 112, 2) := by decide +kernel
theorem dX11_letters_278 : decode cX11_letters 278 = .ok (.bipush 101, 2) := by decide +kernel
theorem dX11_letters_280 : decode cX11_letters 280 = .ok (.bipush 97, 2) := by decide +kernel
theorem dX11_letters_282 : decode cX11_letters 282 = .ok (.bipush 116, 2) := by decide +kernel
theorem dX11_letters_284 : decode cX11_letters 284 = .ok (.iconst 0, 1) := by decide +kernel
theorem dX11_letters_285 : decode cX11_letters 285 = .ok (.iconst 0, 1) := by decide +kernel
theorem dX11_letters_286 : decode cX11_letters 286 = .ok (.invokestatic 161, 3) := by decide +kernel
theorem dX11_letters_289 : decode cX11_letters 289 = .ok (.lreturn, 1) := by decide +kernel
theorem dX11_letters_290 : decode cX11_letters 290 = .ok (.bipush 119, 2) := by decide +kernel
theorem dX11_letters_292 : decode cX11_letters 292 = .ok (.bipush 104, 2) := by decide +kernel
theorem dX11_letters_294 : decode cX11_letters 294 = .ok (.bipush 101, 2) := by decide +kernel
theorem dX11_letters_296 : decode cX11_letters 296 = .ok (.bipush 110, 2) := by decide +kernel
theorem dX11_letters_298 : decode cX11_letters 298 = .ok (.iconst 0, 1) := by decide +kernel
theorem dX11_letters_299 : decode cX11_letters 299 = .ok (.iconst 0, 1) := by decide +kernel
theorem dX11_letters_300 : decode cX11_letters 300 = .ok (.iconst 0, 1) := by decide +kernel
theorem dX11_letters_301 : decode cX11_letters 301 = .ok (.iconst 0, 1) := by decide +kernel
theorem dX11_letters_302 : decode cX11_letters 302 = .ok (.invokestatic 161, 3) := by decide +kernel
theorem dX11_letters_305 : decode cX11_letters 305 = .ok (.lreturn, 1) := by decide +kernel
theorem dX11_letters_306 : decode cX11_letters 306 = .ok (.bipush 101, 2) := by decide +kernel
theorem dX11_letters_308 : decode cX11_letters 308 = .ok (.bipush 108, 2) := by decide +kernel
theorem dX11_letters_310 : decode cX11_letters 310 = .ok (.bipush 115, 2) := by decide +kernel
theorem dX11_letters_312 : decode cX11_letters 312 = .ok (.bipush 101, 2) := by decide +kernel
theorem dX11_letters_314 : decode cX11_letters 314 = .ok (.iconst 0, 1) := by decide +kernel
theorem dX11_letters_315 : decode cX11_letters 315 = .ok (.iconst 0, 1) := by decide +kernel
theorem dX11_letters_316 : decode cX11_letters 316 = .ok (.iconst 0, 1) := by decide +kernel
theorem dX11_letters_317 : decode cX11_letters 317 = .ok (.iconst 0, 1) := by decide +kernel
theorem dX11_letters_318 : decode cX11_letters 318 = .ok (.invokestatic 161, 3) := by decide +kernel
theorem dX11_letters_321 : decode cX11_letters 321 = .ok (.lreturn, 1) := by decide +kernel
theorem dX11_letters_322 : decode cX11_letters 322 = .ok (.bipush 110, 2) := by decide +kernel
theorem dX11_letters_324 : decode cX11_letters 324 = .ok (.bipush 111, 2) := by decide +kernel
theorem dX11_letters_326 : decode cX11_letters 326 = .ok (.bipush 116, 2) := by decide +kernel
theorem dX11_letters_328 : decode cX11_letters 328 = .ok (.iconst 0, 1) := by decide +kernel
theorem dX11_letters_329 : decode cX11_letters 329 = .ok (.iconst 0, 1) := by decide +kernel
theorem dX11_letters_330 : decode cX11_letters 330 = .ok (.iconst 0, 1) := by decide +kernel
theorem dX11_letters_331 : decode cX11_letters 331 = .ok (.iconst 0, 1) := by decide +kernel
theorem dX11_letters_332 : decode cX11_letters 332 = .ok (.iconst 0, 1) := by decide +kernel
theorem dX11_letters_333 : decode cX11_letters 333 = .ok (.invokestatic 161, 3) := by decide +kernel
theorem dX11_letters_336 : decode cX11_letters 336 = .ok (.lreturn, 1) := by decide +kernel
theorem dX11_letters_337 : decode cX11_letters 337 = .ok (.bipush 109, 2) := by decide +kernel
theorem dX11_letters_339 : decode cX11_letters 339 = .ok (.bipush 97, 2) := by decide +kernel
theorem dX11_letters_341 : decode cX11_letters 341 = .ok (.bipush 114, 2) := by decide +kernel
theorem dX11_letters_343 : decode cX11_letters 343 = .ok (.bipush 107, 2) := by decide +kernel
theorem dX11_letters_345 : decode cX11_letters 345 = .ok (.bipush 101, 2) := by decide +kernel
theorem dX11_letters_347 : decode cX11_letters 347 = .ok (.bipush 100, 2) := by decide +kernel
theorem dX11_letters_349 : decode cX11_letters 349 = .ok (.iconst 0, 1) := by decide +kernel
theorem dX11_letters_350 : decode cX11_letters 350 = .ok (.iconst 0, 1) := by decide +kernel
theorem dX11_letters_351 : decode cX11_letters 351 = .ok (.invokestatic 161, 3) := by decide +kernel
theorem dX11_letters_354 : decode cX11_letters 354 = .ok (.lreturn, 1) := by decide +kernel
theorem dX11_letters_355 : decode cX11_letters 355 = .ok (.bipush 114, 2) := by decide +kernel
theorem dX11_letters_357 : decode cX11_letters 357 = .ok (.bipush 105, 2) := by decide +kernel
theorem dX11_letters_359 : decode cX11_letters 359 = .ok (.bipush 103, 2) := by decide +kernel
theorem dX11_letters_361 : decode cX11_letters 361 = .ok (.bipush 104, 2) := by decide +kernel
theorem dX11_letters_363 : decode cX11_letters 363 = .ok (.bipush 116, 2) := by decide +kernel
theorem dX11_letters_365 : decode cX11_letters 365 = .ok (.iconst 0, 1) := by decide +kernel
theorem dX11_letters_366 : decode cX11_letters 366 = .ok (.iconst 0, 1) := by decide +kernel
theorem dX11_letters_367 : decode cX11_letters 367 = .ok (.iconst 0, 1) := by decide +kernel
theorem dX11_letters_368 : decode cX11_letters 368 = .ok (.invokestatic 161, 3) := by decide +kernel
theorem dX11_letters_371 : decode cX11_letters 371 = .ok (.lreturn, 1) := by decide +kernel
theorem dX11_letters_372 : decode cX11_letters 372 = .ok (.bipush 97, 2) := by decide +kernel
theorem dX11_letters_374 : decode cX11_letters 374 = .ok (.bipush 98, 2) := by decide +kernel
theorem dX11_letters_376 : decode cX11_letters 376 = .ok (.bipush 111, 2) := by decide +kernel
theorem dX11_letters_378 : decode cX11_letters 378 = .ok (.bipush 118, 2) := by decide +kernel
theorem dX11_letters_380 : decode cX11_letters 380 = .ok (.bipush 101, 2) := by decide +kernel
theorem dX11_letters_382 : decode cX11_letters 382 = .ok (.iconst 0, 1) := by decide +kernel
theorem dX11_letters_383 : decode cX11_letters 383 = .ok (.iconst 0, 1) := by decide +kernel
theorem dX11_letters_384 : decode cX11_letters 384 = .ok (.iconst 0, 1) := by decide +kernel
theorem dX11_letters_385 : decode cX11_letters 385 = .ok (.invokestatic 161, 3) := by decide +kernel
theorem dX11_letters_388 : decode cX11_letters 388 = .ok (.lreturn, 1) := by decide +kernel
theorem dX11_letters_389 : decode cX11_letters 389 = .ok (.bipush 108, 2) := by decide +kernel
theorem dX11_letters_391 : decode cX11_letters 391 = .ok (.bipush 111, 2) := by decide +kernel
theorem dX11_letters_393 : decode cX11_letters 393 = .ok (.bipush 117, 2) := by decide +kernel
theorem dX11_letters_395 : decode cX11_letters 395 = .ok (.bipush 100, 2) := by decide +kernel
theorem dX11_letters_397 : decode cX11_letters 397 = .ok (.iconst 0, 1) := by decide +kernel
theorem dX11_letters_398 : decode cX11_letters 398 = .ok (.iconst 0, 1) := by decide +kernel
theorem dX11_letters_399 : decode cX11_letters 399 = .ok (.iconst 0, 1) := by decide +kernel
theorem dX11_letters_400 : decode cX11_letters 400 = .ok (.iconst 0, 1) := by decide +kernel
theorem dX11_letters_401 : decode cX11_letters 401 = .ok (.invokestatic 161, 3) := by decide +kernel
theorem dX11_letters_404 : decode cX11_letters 404 = .ok (.lreturn, 1) := by decide +kernel
theorem dX11_is_0 : decode cX11_is 0 = .ok (.aload_n 0, 1) := by decide +kernel
theorem dX11_is_1 : decode cX11_is 1 = .ok (.getfield 146, 3) := by decide +kernel
theorem dX11_is_4 : decode cX11_is 4 = .ok (.iconst 1, 1) := by decide +kernel
theorem dX11_is_5 : decode cX11_is 5 = .ok (.if_icmp .ne 28, 3) := by decide +kernel
theorem dX11_is_8 : decode cX11_is 8 = .ok (.aload_n 0, 1) := by decide +kernel
theorem dX11_is_9 : decode cX11_is 9 = .ok (.getfield 156, 3) := by decide +kernel
theorem dX11_is_12 : decode cX11_is 12 = .ok (.bipush 9, 2) := by decide +kernel
theorem dX11_is_14 : decode cX11_is 14 = .ok (.if_icmp .ge 19, 3) := by decide +kernel
theorem dX11_is_17 : decode cX11_is 17 = .ok (.aload_n 0, 1) := by decide +kernel
theorem dX11_is_18 : decode cX11_is 18 = .ok (.getfield 136, 3) := by decide +kernel
theorem dX11_is_21 : decode cX11_is 21 = .ok (.iload_n 1, 1) := by decide +kernel
theorem dX11_is_22 : decode cX11_is 22 = .ok (.invokestatic 165, 3) := by decide +kernel
theorem dX11_is_25 : decode cX11_is 25 = .ok (.lcmp, 1) := by decide +kernel
theorem dX11_is_26 : decode cX11_is 26 = .ok (.ifCond .ne 7, 3) := by decide +kernel
theorem dX11_is_29 : decode cX11_is 29 = .ok (.iconst 1, 1) := by decide +kernel
theorem dX11_is_30 : decode cX11_is 30 = .ok (.goto 4, 3) := by decide +kernel
theorem dX11_is_33 : decode cX11_is 33 = .ok (.iconst 0, 1) := by decide +kernel
theorem dX11_is_34 : decode cX11_is 34 = .ok (.ireturn, 1) := by decide +kernel
theorem dX11_wrong_0 : decode cX11_wrong 0 = .ok (.aload_n 0, 1) := by decide +kernel
theorem dX11_wrong_1 : decode cX11_wrong 1 = .ok (.getfield 169, 3) := by decide +kernel
theorem dX11_wrong_4 : decode cX11_wrong 4 = .ok (.ifCond .eq 4, 3) := by decide +kernel
theorem dX11_wrong_7 : decode cX11_wrong 7 = .ok (.return_, 1) := by decide +kernel
theorem dX11_wrong_8 : decode cX11_wrong 8 = .ok (.aload_n 0, 1) := by decide +kernel
theorem dX11_wrong_9 : decode cX11_wrong 9 = .ok (.iload_n 1, 1) := by decide +kernel
theorem dX11_wrong_10 : decode cX11_wrong 10 = .ok (.putfield 169, 3) := by decide +kernel
theorem dX11_wrong_13 : decode cX11_wrong 13 = .ok (.aload_n 0, 1) := by decide +kernel
theorem dX11_wrong_14 : decode cX11_wrong 14 = .ok (.aload_n 0, 1) := by decide +kernel
theorem dX11_wrong_15 : decode cX11_wrong 15 = .ok (.getfield 133, 3) := by decide +kernel
theorem dX11_wrong_18 : decode cX11_wrong 18 = .ok (.putfield 28, 3) := by decide +kernel
theorem dX11_wrong_21 : decode cX11_wrong 21 = .ok (.return_, 1) := by decide +kernel
theorem dX11_isGood_0 : decode cX11_isGood 0 = .ok (.aload_n 0, 1) := by decide +kernel
theorem dX11_isGood_1 : decode cX11_isGood 1 = .ok (.getfield 169, 3) := by decide +kernel
theorem dX11_isGood_4 : decode cX11_isGood 4 = .ok (.ifCond .ne 7, 3) := by decide +kernel
theorem dX11_isGood_7 : decode cX11_isGood 7 = .ok (.iconst 1, 1) := by decide +kernel
theorem dX11_isGood_8 : decode cX11_isGood 8 = .ok (.goto 4, 3) := by decide +kernel
theorem dX11_isGood_11 : decode cX11_isGood 11 = .ok (.iconst 0, 1) := by decide +kernel
theorem dX11_isGood_12 : decode cX11_isGood 12 = .ok (.ireturn, 1) := by decide +kernel
theorem dX11_need_0 : decode cX11_need 0 = .ok (.aload_n 0, 1) := by decide +kernel
theorem dX11_need_1 : decode cX11_need 1 = .ok (.invokevirtual 172, 3) := by decide +kernel
theorem dX11_need_4 : decode cX11_need 4 = .ok (.ifCond .ne 4, 3) := by decide +kernel
theorem dX11_need_7 : decode cX11_need 7 = .ok (.return_, 1) := by decide +kernel
theorem dX11_need_8 : decode cX11_need 8 = .ok (.iload_n 1, 1) := by decide +kernel
theorem dX11_need_9 : decode cX11_need 9 = .ok (.ifCond .eq 10, 3) := by decide +kernel
theorem dX11_need_12 : decode cX11_need 12 = .ok (.aload_n 0, 1) := by decide +kernel
theorem dX11_need_13 : decode cX11_need 13 = .ok (.invokevirtual 176, 3) := by decide +kernel
theorem dX11_need_16 : decode cX11_need 16 = .ok (.goto 8, 3) := by decide +kernel
theorem dX11_need_19 : decode cX11_need 19 = .ok (.aload_n 0, 1) := by decide +kernel
theorem dX11_need_20 : decode cX11_need 20 = .ok (.iconst 1, 1) := by decide +kernel
theorem dX11_need_21 : decode cX11_need 21 = .ok (.invokevirtual 179, 3) := by decide +kernel
theorem dX11_need_24 : decode cX11_need 24 = .ok (.return_, 1) := by decide +kernel
theorem dX11_number_0 : decode cX11_number 0 = .ok (.aload_n 0, 1) := by decide +kernel
theorem dX11_number_1 : decode cX11_number 1 = .ok (.invokevirtual 172, 3) := by decide +kernel
theorem dX11_number_4 : decode cX11_number 4 = .ok (.ifCond .ne 5, 3) := by decide +kernel
theorem dX11_number_7 : decode cX11_number 7 = .ok (.iconst 0, 1) := by decide +kernel
theorem dX11_number_8 : decode cX11_number 8 = .ok (.ireturn, 1) := by decide +kernel
theorem dX11_number_9 : decode cX11_number 9 = .ok (.aload_n 0, 1) := by decide +kernel
theorem dX11_number_10 : decode cX11_number 10 = .ok (.getfield 146, 3) := by decide +kernel
theorem dX11_number_13 : decode cX11_number 13 = .ok (.iconst 2, 1) := by decide +kernel
theorem dX11_number_14 : decode cX11_number 14 = .ok (.if_icmp .eq 11, 3) := by decide +kernel
theorem dX11_number_17 : decode cX11_number 17 = .ok (.aload_n 0, 1) := by decide +kernel
theorem dX11_number_18 : decode cX11_number 18 = .ok (.iconst 1, 1) := by decide +kernel
theorem dX11_number_19 : decode cX11_number 19 = .ok (.invokevirtual 179, 3) := by decide +kernel
theorem dX11_number_22 : decode cX11_number 22 = .ok (.goto 32, 3) := by decide +kernel
theorem dX11_number_25 : decode cX11_number 25 = .ok (.aload_n 0, 1) := by decide +kernel
theorem dX11_number_26 : decode cX11_number 26 = .ok (.getfield 156, 3) := by decide +kernel
theorem dX11_number_29 : decode cX11_number 29 = .ok (.iconst 3, 1) := by decide +kernel
theorem dX11_number_30 : decode cX11_number 30 = .ok (.if_icmp .gt 19, 3) := by decide +kernel
theorem dX11_number_33 : decode cX11_number 33 = .ok (.aload_n 0, 1) := by decide +kernel
theorem dX11_number_34 : decode cX11_number 34 = .ok (.getfield 140, 3) := by decide +kernel
theorem dX11_number_37 : decode cX11_number 37 = .ok (.iload_n 1, 1) := by decide +kernel
theorem dX11_number_38 : decode cX11_number 38 = .ok (.if_icmp .lt 11, 3) := by decide +kernel
theorem dX11_number_41 : decode cX11_number 41 = .ok (.aload_n 0, 1) := by decide +kernel
theorem dX11_number_42 : decode cX11_number 42 = .ok (.getfield 140, 3) := by decide +kernel
theorem dX11_number_45 : decode cX11_number 45 = .ok (.iload_n 2, 1) := by decide +kernel
theorem dX11_number_46 : decode cX11_number 46 = .ok (.if_icmp .le 8, 3) := by decide +kernel
theorem dX11_number_49 : decode cX11_number 49 = .ok (.aload_n 0, 1) := by decide +kernel
theorem dX11_number_50 : decode cX11_number 50 = .ok (.iconst 2, 1) := by decide +kernel
theorem dX11_number_51 : decode cX11_number 51 = .ok (.invokevirtual 179, 3) := by decide +kernel
theorem dX11_number_54 : decode cX11_number 54 = .ok (.aload_n 0, 1) := by decide +kernel
theorem dX11_number_55 : decode cX11_number 55 = .ok (.getfield 140, 3) := by decide +kernel
theorem dX11_number_58 : decode cX11_number 58 = .ok (.istore_n 3, 1) := by decide +kernel
theorem dX11_number_59 : decode cX11_number 59 = .ok (.aload_n 0, 1) := by decide +kernel
theorem dX11_number_60 : decode cX11_number 60 = .ok (.invokevirtual 172, 3) := by decide +kernel
theorem dX11_number_63 : decode cX11_number 63 = .ok (.ifCond .eq 7, 3) := by decide +kernel
theorem dX11_number_66 : decode cX11_number 66 = .ok (.aload_n 0, 1) := by decide +kernel
theorem dX11_number_67 : decode cX11_number 67 = .ok (.invokevirtual 176, 3) := by decide +kernel
theorem dX11_number_70 : decode cX11_number 70 = .ok (.iload_n 3, 1) := by decide +kernel
theorem dX11_number_71 : decode cX11_number 71 = .ok (.ireturn, 1) := by decide +kernel
theorem dX11_signed_0 : decode cX11_signed 0 = .ok (.aload_n 0, 1) := by decide +kernel
theorem dX11_signed_1 : decode cX11_signed 1 = .ok (.invokevirtual 172, 3) := by decide +kernel
theorem dX11_signed_4 : decode cX11_signed 4 = .ok (.ifCond .eq 24, 3) := by decide +kernel
theorem dX11_signed_7 : decode cX11_signed 7 = .ok (.aload_n 0, 1) := by decide +kernel
theorem dX11_signed_8 : decode cX11_signed 8 = .ok (.getfield 146, 3) := by decide +kernel
theorem dX11_signed_11 : decode cX11_signed 11 = .ok (.iconst 3, 1) := by decide +kernel
theorem dX11_signed_12 : decode cX11_signed 12 = .ok (.if_icmp .ne 16, 3) := by decide +kernel
theorem dX11_signed_15 : decode cX11_signed 15 = .ok (.aload_n 0, 1) := by decide +kernel
theorem dX11_signed_16 : decode cX11_signed 16 = .ok (.getfield 143, 3) := by decide +kernel
theorem dX11_signed_19 : decode cX11_signed 19 = .ok (.bipush 45, 2) := by decide +kernel
theorem dX11_signed_21 : decode cX11_signed 21 = .ok (.if_icmp .ne 7, 3) := by decide +kernel
theorem dX11_signed_24 : decode cX11_signed 24 = .ok (.iconst 1, 1) := by decide +kernel
theorem dX11_signed_25 : decode cX11_signed 25 = .ok (.goto 4, 3) := by decide +kernel
theorem dX11_signed_28 : decode cX11_signed 28 = .ok (.iconst 0, 1) := by decide +kernel
theorem dX11_signed_29 : decode cX11_signed 29 = .ok (.istore_n 2, 1) := by decide +kernel
theorem dX11_signed_30 : decode cX11_signed 30 = .ok (.iload_n 2, 1) := by decide +kernel
theorem dX11_signed_31 : decode cX11_signed 31 = .ok (.ifCond .eq 7, 3) := by decide +kernel
theorem dX11_signed_34 : decode cX11_signed 34 = .ok (.aload_n 0, 1) := by decide +kernel
theorem dX11_signed_35 : decode cX11_signed 35 = .ok (.invokevirtual 176, 3) := by decide +kernel
theorem dX11_signed_38 : decode cX11_signed 38 = .ok (.aload_n 0, 1) := by decide +kernel
theorem dX11_signed_39 : decode cX11_signed 39 = .ok (.iconst 0, 1) := by decide +kernel
theorem dX11_signed_40 : decode cX11_signed 40 = .ok (.iload_n 1, 1) := by decide +kernel
theorem dX11_signed_41 : decode cX11_signed 41 = .ok (.invokevirtual 182, 3) := by decide +kernel
theorem dX11_signed_44 : decode cX11_signed 44 = .ok (.istore_n 3, 1) := by decide +kernel
theorem dX11_signed_45 : decode cX11_signed 45 = .ok (.iload_n 2, 1) := by decide +kernel
theorem dX11_signed_46 : decode cX11_signed 46 = .ok (.ifCond .eq 9, 3) := by decide +kernel
theorem dX11_signed_49 : decode cX11_signed 49 = .ok (.iconst 0, 1) := by decide +kernel
theorem dX11_signed_50 : decode cX11_signed 50 = .ok (.iload_n 3, 1) := by decide +kernel
theorem dX11_signed_51 : decode cX11_signed 51 = .ok (.isub, 1) := by decide +kernel
theorem dX11_signed_52 : decode cX11_signed 52 = .ok (.goto 4, 3) := by decide +kernel
theorem dX11_signed_55 : decode cX11_signed 55 = .ok (.iload_n 3, 1) := by decide +kernel
theorem dX11_signed_56 : decode cX11_signed 56 = .ok (.ireturn, 1) := by decide +kernel
theorem dX11_readsPendulum_0 : decode cX11_readsPendulum 0 = .ok (.aload_n 0, 1) := by decide +kernel
theorem dX11_readsPendulum_1 : decode cX11_readsPendulum 1 = .ok (.getfield 186, 3) := by decide +kernel
theorem dX11_readsPendulum_4 : decode cX11_readsPendulum 4 = .ok (.iconst 4, 1) := by decide +kernel
theorem dX11_readsPendulum_5 : decode cX11_readsPendulum 5 = .ok (.if_icmp .ne 8, 3) := by decide +kernel
theorem dX11_readsPendulum_8 : decode cX11_readsPendulum 8 = .ok (.aload_n 0, 1) := by decide +kernel
theorem dX11_readsPendulum_9 : decode cX11_readsPendulum 9 = .ok (.iconst 2, 1) := by decide +kernel
theorem dX11_readsPendulum_10 : decode cX11_readsPendulum 10 = .ok (.invokevirtual 179, 3) := by decide +kernel
theorem dX11_readsPendulum_13 : decode cX11_readsPendulum 13 = .ok (.aload_n 0, 1) := by decide +kernel
theorem dX11_readsPendulum_14 : decode cX11_readsPendulum 14 = .ok (.invokevirtual 172, 3) := by decide +kernel
theorem dX11_readsPendulum_17 : decode cX11_readsPendulum 17 = .ok (.ifCond .ne 4, 3) := by decide +kernel
theorem dX11_readsPendulum_20 : decode cX11_readsPendulum 20 = .ok (.return_, 1) := by decide +kernel
theorem dX11_readsPendulum_21 : decode cX11_readsPendulum 21 = .ok (.aload_n 0, 1) := by decide +kernel
theorem dX11_readsPendulum_22 : decode cX11_readsPendulum 22 = .ok (.invokevirtual 176, 3) := by decide +kernel
theorem dX11_readsPendulum_25 : decode cX11_readsPendulum 25 = .ok (.iconst (-1), 1) := by decide +kernel
theorem dX11_readsPendulum_26 : decode cX11_readsPendulum 26 = .ok (.istore_n 1, 1) := by decide +kernel
theorem dX11_readsPendulum_27 : decode cX11_readsPendulum 27 = .ok (.iconst 0, 1) := by decide +kernel
theorem dX11_readsPendulum_28 : decode cX11_readsPendulum 28 = .ok (.istore_n 2, 1) := by decide +kernel
theorem dX11_readsPendulum_29 : decode cX11_readsPendulum 29 = .ok (.iload_n 2, 1) := by decide +kernel
theorem dX11_readsPendulum_30 : decode cX11_readsPendulum 30 = .ok (.iconst 3, 1) := by decide +kernel
theorem dX11_readsPendulum_31 : decode cX11_readsPendulum 31 = .ok (.if_icmp .ge 21, 3) := by decide +kernel
theorem dX11_readsPendulum_34 : decode cX11_readsPendulum 34 = .ok (.aload_n 0, 1) := by decide +kernel
theorem dX11_readsPendulum_35 : decode cX11_readsPendulum 35 = .ok (.iconst 0, 1) := by decide +kernel
theorem dX11_readsPendulum_36 : decode cX11_readsPendulum 36 = .ok (.iload_n 2, 1) := by decide +kernel
theorem dX11_readsPendulum_37 : decode cX11_readsPendulum 37 = .ok (.iadd, 1) := by decide +kernel
theorem dX11_readsPendulum_38 : decode cX11_readsPendulum 38 = .ok (.invokevirtual 189, 3) := by decide +kernel
theorem dX11_readsPendulum_41 : decode cX11_readsPendulum 41 = .ok (.ifCond .eq 5, 3) := by decide +kernel
theorem dX11_readsPendulum_44 : decode cX11_readsPendulum 44 = .ok (.iload_n 2, 1) := by decide +kernel
theorem dX11_readsPendulum_45 : decode cX11_readsPendulum 45 = .ok (.istore_n 1, 1) := by decide +kernel
theorem dX11_readsPendulum_46 : decode cX11_readsPendulum 46 = .ok (.iinc 2 1, 3) := by decide +kernel
theorem dX11_readsPendulum_49 : decode cX11_readsPendulum 49 = .ok (.goto (-20), 3) := by decide +kernel
theorem dX11_readsPendulum_52 : decode cX11_readsPendulum 52 = .ok (.aload_n 0, 1) := by decide +kernel
theorem dX11_readsPendulum_53 : decode cX11_readsPendulum 53 = .ok (.iload_n 1, 1) := by decide +kernel
theorem dX11_readsPendulum_54 : decode cX11_readsPendulum 54 = .ok (.iconst (-1), 1) := by decide +kernel
theorem dX11_readsPendulum_55 : decode cX11_readsPendulum 55 = .ok (.if_icmp .eq 7, 3) := by decide +kernel
theorem dX11_readsPendulum_58 : decode cX11_readsPendulum 58 = .ok (.iconst 1, 1) := by decide +kernel
theorem dX11_readsPendulum_59 : decode cX11_readsPendulum 59 = .ok (.goto 4, 3) := by decide +kernel
theorem dX11_readsPendulum_62 : decode cX11_readsPendulum 62 = .ok (.iconst 0, 1) := by decide +kernel
theorem dX11_readsPendulum_63 : decode cX11_readsPendulum 63 = .ok (.invokevirtual 192, 3) := by decide +kernel
theorem dX11_readsPendulum_66 : decode cX11_readsPendulum 66 = .ok (.aload_n 0, 1) := by decide +kernel
theorem dX11_readsPendulum_67 : decode cX11_readsPendulum 67 = .ok (.getfield 35, 3) := by decide +kernel
theorem dX11_readsPendulum_70 : decode cX11_readsPendulum 70 = .ok (.aload_n 0, 1) := by decide +kernel
theorem dX11_readsPendulum_71 : decode cX11_readsPendulum 71 = .ok (.getfield 186, 3) := by decide +kernel
theorem dX11_readsPendulum_74 : decode cX11_readsPendulum 74 = .ok (.iload_n 1, 1) := by decide +kernel
theorem dX11_readsPendulum_75 : decode cX11_readsPendulum 75 = .ok (.iastore, 1) := by decide +kernel
theorem dX11_readsPendulum_76 : decode cX11_readsPendulum 76 = .ok (.aload_n 0, 1) := by decide +kernel
theorem dX11_readsPendulum_77 : decode cX11_readsPendulum 77 = .ok (.getfield 38, 3) := by decide +kernel
theorem dX11_readsPendulum_80 : decode cX11_readsPendulum 80 = .ok (.aload_n 0, 1) := by decide +kernel
theorem dX11_readsPendulum_81 : decode cX11_readsPendulum 81 = .ok (.getfield 186, 3) := by decide +kernel
theorem dX11_readsPendulum_84 : decode cX11_readsPendulum 84 = .ok (.aload_n 0, 1) := by decide +kernel
theorem dX11_readsPendulum_85 : decode cX11_readsPendulum 85 = .ok (.iconst 2, 1) := by decide +kernel
theorem dX11_readsPendulum_86 : decode cX11_readsPendulum 86 = .ok (.bipush 40, 2) := by decide +kernel
theorem dX11_readsPendulum_88 : decode cX11_readsPendulum 88 = .ok (.invokevirtual 182, 3) := by decide +kernel
theorem dX11_readsPendulum_91 : decode cX11_readsPendulum 91 = .ok (.iastore, 1) := by decide +kernel
theorem dX11_readsPendulum_92 : decode cX11_readsPendulum 92 = .ok (.aload_n 0, 1) := by decide +kernel
theorem dX11_readsPendulum_93 : decode cX11_readsPendulum 93 = .ok (.getfield 44, 3) := by decide +kernel
theorem dX11_readsPendulum_96 : decode cX11_readsPendulum 96 = .ok (.bipush 8, 2) := by decide +kernel
theorem dX11_readsPendulum_98 : decode cX11_readsPendulum 98 = .ok (.aload_n 0, 1) := by decide +kernel
theorem dX11_readsPendulum_99 : decode cX11_readsPendulum 99 = .ok (.getfield 186, 3) := by decide +kernel
theorem dX11_readsPendulum_102 : decode cX11_readsPendulum 102 = .ok (.iadd, 1) := by decide +kernel
theorem dX11_readsPendulum_103 : decode cX11_readsPendulum 103 = .ok (.aload_n 0, 1) := by decide +kernel
theorem dX11_readsPendulum_104 : decode cX11_readsPendulum 104 = .ok (.iconst 0, 1) := by decide +kernel
theorem dX11_readsPendulum_105 : decode cX11_readsPendulum 105 = .ok (.bipush 90, 2) := by decide +kernel
theorem dX11_readsPendulum_107 : decode cX11_readsPendulum 107 = .ok (.invokevirtual 182, 3) := by decide +kernel
theorem dX11_readsPendulum_110 : decode cX11_readsPendulum 110 = .ok (.iastore, 1) := by decide +kernel
theorem dX11_readsPendulum_111 : decode cX11_readsPendulum 111 = .ok (.aload_n 0, 1) := by decide +kernel
theorem dX11_readsPendulum_112 : decode cX11_readsPendulum 112 = .ok (.getfield 44, 3) := by decide +kernel
theorem dX11_readsPendulum_115 : decode cX11_readsPendulum 115 = .ok (.iconst 4, 1) := by decide +kernel
theorem dX11_readsPendulum_116 : decode cX11_readsPendulum 116 = .ok (.aload_n 0, 1) := by decide +kernel
theorem dX11_readsPendulum_117 : decode cX11_readsPendulum 117 = .ok (.getfield 186, 3) := by decide +kernel
theorem dX11_readsPendulum_120 : decode cX11_readsPendulum 120 = .ok (.iadd, 1) := by decide +kernel
theorem dX11_readsPendulum_121 : decode cX11_readsPendulum 121 = .ok (.aload_n 0, 1) := by decide +kernel
theorem dX11_readsPendulum_122 : decode cX11_readsPendulum 122 = .ok (.iconst 0, 1) := by decide +kernel
theorem dX11_readsPendulum_123 : decode cX11_readsPendulum 123 = .ok (.bipush 99, 2) := by decide +kernel
theorem dX11_readsPendulum_125 : decode cX11_readsPendulum 125 = .ok (.invokevirtual 182, 3) := by decide +kernel
theorem dX11_readsPendulum_128 : decode cX11_readsPendulum 128 = .ok (.iastore, 1) := by decide +kernel
theorem dX11_readsPendulum_129 : decode cX11_readsPendulum 129 = .ok (.aload_n 0, 1) := by decide +kernel
theorem dX11_readsPendulum_130 : decode cX11_readsPendulum 130 = .ok (.getfield 41, 3) := by decide +kernel
theorem dX11_readsPendulum_133 : decode cX11_readsPendulum 133 = .ok (.aload_n 0, 1) := by decide +kernel
theorem dX11_readsPendulum_134 : decode cX11_readsPendulum 134 = .ok (.getfield 186, 3) := by decide +kernel
theorem dX11_readsPendulum_137 : decode cX11_readsPendulum 137 = .ok (.aload_n 0, 1) := by decide +kernel
theorem dX11_readsPendulum_138 : decode cX11_readsPendulum 138 = .ok (.iconst 0, 1) := by decide +kernel
theorem dX11_readsPendulum_139 : decode cX11_readsPendulum 139 = .ok (.bipush 99, 2) := by decide +kernel
theorem dX11_readsPendulum_141 : decode cX11_readsPendulum 141 = .ok (.invokevirtual 182, 3) := by decide +kernel
theorem dX11_readsPendulum_144 : decode cX11_readsPendulum 144 = .ok (.iastore, 1) := by decide +kernel
theorem dX11_readsPendulum_145 : decode cX11_readsPendulum 145 = .ok (.aload_n 0, 1) := by decide +kernel
theorem dX11_readsPendulum_146 : decode cX11_readsPendulum 146 = .ok (.invokevirtual 172, 3) := by decide +kernel
theorem dX11_readsPendulum_149 : decode cX11_readsPendulum 149 = .ok (.ifCond .eq 13, 3) := by decide +kernel
theorem dX11_readsPendulum_152 : decode cX11_readsPendulum 152 = .ok (.aload_n 0, 1) := by decide +kernel
theorem dX11_readsPendulum_153 : decode cX11_readsPendulum 153 = .ok (.dup, 1) := by decide +kernel
theorem dX11_readsPendulum_154 : decode cX11_readsPendulum 154 = .ok (.getfield 186, 3) := by decide +kernel
theorem dX11_readsPendulum_157 : decode cX11_readsPendulum 157 = .ok (.iconst 1, 1) := by decide +kernel
theorem dX11_readsPendulum_158 : decode cX11_readsPendulum 158 = .ok (.iadd, 1) := by decide +kernel
theorem dX11_readsPendulum_159 : decode cX11_readsPendulum 159 = .ok (.putfield 186, 3) := by decide +kernel
theorem dX11_readsPendulum_162 : decode cX11_readsPendulum 162 = .ok (.return_, 1) := by decide +kernel
theorem dX11_line_0 : decode cX11_line 0 = .ok (.aload_n 0, 1) := by decide +kernel
theorem dX11_line_1 : decode cX11_line 1 = .ok (.iconst 3, 1) := by decide +kernel
theorem dX11_line_2 : decode cX11_line 2 = .ok (.invokevirtual 189, 3) := by decide +kernel
theorem dX11_line_5 : decode cX11_line 5 = .ok (.ifCond .eq 10, 3) := by decide +kernel
theorem dX11_line_8 : decode cX11_line 8 = .ok (.aload_n 0, 1) := by decide +kernel
theorem dX11_line_9 : decode cX11_line 9 = .ok (.invokevirtual 196, 3) := by decide +kernel
theorem dX11_line_12 : decode cX11_line 12 = .ok (.goto 184, 3) := by decide +kernel
theorem dX11_line_15 : decode cX11_line 15 = .ok (.aload_n 0, 1) := by decide +kernel
theorem dX11_line_16 : decode cX11_line 16 = .ok (.iconst 4, 1) := by decide +kernel
theorem dX11_line_17 : decode cX11_line 17 = .ok (.invokevirtual 189, 3) := by decide +kernel
theorem dX11_line_20 : decode cX11_line 20 = .ok (.ifCond .eq 105, 3) := by decide +kernel
theorem dX11_line_23 : decode cX11_line 23 = .ok (.aload_n 0, 1) := by decide +kernel
theorem dX11_line_24 : decode cX11_line 24 = .ok (.getfield 199, 3) := by decide +kernel
theorem dX11_line_27 : decode cX11_line 27 = .ok (.iconst 4, 1) := by decide +kernel
theorem dX11_line_28 : decode cX11_line 28 = .ok (.if_icmp .ne 8, 3) := by decide +kernel
theorem dX11_line_31 : decode cX11_line 31 = .ok (.aload_n 0, 1) := by decide +kernel
theorem dX11_line_32 : decode cX11_line 32 = .ok (.iconst 2, 1) := by decide +kernel
theorem dX11_line_33 : decode cX11_line 33 = .ok (.invokevirtual 179, 3) := by decide +kernel
theorem dX11_line_36 : decode cX11_line 36 = .ok (.aload_n 0, 1) := by decide +kernel
theorem dX11_line_37 : decode cX11_line 37 = .ok (.invokevirtual 172, 3) := by decide +kernel
theorem dX11_line_40 : decode cX11_line 40 = .ok (.ifCond .ne 4, 3) := by decide +kernel
theorem dX11_line_43 : decode cX11_line 43 = .ok (.return_, 1) := by decide +kernel
theorem dX11_line_44 : decode cX11_line 44 = .ok (.aload_n 0, 1) := by decide +kernel
theorem dX11_line_45 : decode cX11_line 45 = .ok (.invokevirtual 176, 3) := by decide +kernel
theorem dX11_line_48 : decode cX11_line 48 = .ok (.aload_n 0, 1) := by decide +kernel
theorem dX11_line_49 : decode cX11_line 49 = .ok (.getfield 47, 3) := by decide +kernel
theorem dX11_line_52 : decode cX11_line 52 = .ok (.iconst 3, 1) := by decide +kernel
theorem dX11_line_53 : decode cX11_line 53 = .ok (.aload_n 0, 1) := by decide +kernel
theorem dX11_line_54 : decode cX11_line 54 = .ok (.getfield 199, 3) := by decide +kernel
theorem dX11_line_57 : decode cX11_line 57 = .ok (.imul, 1) := by decide +kernel
theorem dX11_line_58 : decode cX11_line 58 = .ok (.aload_n 0, 1) := by decide +kernel
theorem dX11_line_59 : decode cX11_line 59 = .ok (.iconst 0, 1) := by decide +kernel
theorem dX11_line_60 : decode cX11_line 60 = .ok (.sipush 999, 3) := by decide +kernel
theorem dX11_line_63 : decode cX11_line 63 = .ok (.invokevirtual 182, 3) := by decide +kernel
theorem dX11_line_66 : decode cX11_line 66 = .ok (.iastore, 1) := by decide +kernel
theorem dX11_line_67 : decode cX11_line 67 = .ok (.aload_n 0, 1) := by decide +kernel
theorem dX11_line_68 : decode cX11_line 68 = .ok (.getfield 47, 3) := by decide +kernel
theorem dX11_line_71 : decode cX11_line 71 = .ok (.iconst 3, 1) := by decide +kernel
theorem dX11_line_72 : decode cX11_line 72 = .ok (.aload_n 0, 1) := by decide +kernel
theorem dX11_line_73 : decode cX11_line 73 = .ok (.getfield 199, 3) := by decide +kernel
theorem dX11_line_76 : decode cX11_line 76 = .ok (.imul, 1) := by decide +kernel
theorem dX11_line_77 : decode cX11_line 77 = .ok (.iconst 1, 1) := by decide +kernel
theorem dX11_line_78 : decode cX11_line 78 = .ok (.iadd, 1) := by decide +kernel
theorem dX11_line_79 : decode cX11_line 79 = .ok (.aload_n 0, 1) := by decide +kernel
theorem dX11_line_80 : decode cX11_line 80 = .ok (.bipush 20, 2) := by decide +kernel
theorem dX11_line_82 : decode cX11_line 82 = .ok (.invokevirtual 202, 3) := by decide +kernel
theorem dX11_line_85 : decode cX11_line 85 = .ok (.iastore, 1) := by decide +kernel
theorem dX11_line_86 : decode cX11_line 86 = .ok (.aload_n 0, 1) := by decide +kernel
theorem dX11_line_87 : decode cX11_line 87 = .ok (.getfield 47, 3) := by decide +kernel
theorem dX11_line_90 : decode cX11_line 90 = .ok (.iconst 3, 1) := by decide +kernel
theorem dX11_line_91 : decode cX11_line 91 = .ok (.aload_n 0, 1) := by decide +kernel
theorem dX11_line_92 : decode cX11_line 92 = .ok (.getfield 199, 3) := by decide +kernel
theorem dX11_line_95 : decode cX11_line 95 = .ok (.imul, 1) := by decide +kernel
theorem dX11_line_96 : decode cX11_line 96 = .ok (.iconst 2, 1) := by decide +kernel
theorem dX11_line_97 : decode cX11_line 97 = .ok (.iadd, 1) := by decide +kernel
theorem dX11_line_98 : decode cX11_line 98 = .ok (.aload_n 0, 1) := by decide +kernel
theorem dX11_line_99 : decode cX11_line 99 = .ok (.bipush 20, 2) := by decide +kernel
theorem dX11_line_101 : decode cX11_line 101 = .ok (.invokevirtual 202, 3) := by decide +kernel
theorem dX11_line_104 : decode cX11_line 104 = .ok (.iastore, 1) := by decide +kernel
theorem dX11_line_105 : decode cX11_line 105 = .ok (.aload_n 0, 1) := by decide +kernel
theorem dX11_line_106 : decode cX11_line 106 = .ok (.invokevirtual 172, 3) := by decide +kernel
theorem dX11_line_109 : decode cX11_line 109 = .ok (.ifCond .eq 87, 3) := by decide +kernel
theorem dX11_line_112 : decode cX11_line 112 = .ok (.aload_n 0, 1) := by decide +kernel
theorem dX11_line_113 : decode cX11_line 113 = .ok (.dup, 1) := by decide +kernel
theorem dX11_line_114 : decode cX11_line 114 = .ok (.getfield 199, 3) := by decide +kernel
theorem dX11_line_117 : decode cX11_line 117 = .ok (.iconst 1, 1) := by decide +kernel
theorem dX11_line_118 : decode cX11_line 118 = .ok (.iadd, 1) := by decide +kernel
theorem dX11_line_119 : decode cX11_line 119 = .ok (.putfield 199, 3) := by decide +kernel
theorem dX11_line_122 : decode cX11_line 122 = .ok (.goto 74, 3) := by decide +kernel
theorem dX11_line_125 : decode cX11_line 125 = .ok (.aload_n 0, 1) := by decide +kernel
theorem dX11_line_126 : decode cX11_line 126 = .ok (.iconst 5, 1) := by decide +kernel
theorem dX11_line_127 : decode cX11_line 127 = .ok (.invokevirtual 189, 3) := by decide +kernel
theorem dX11_line_130 : decode cX11_line 130 = .ok (.ifCond .eq 61, 3) := by decide +kernel
theorem dX11_line_133 : decode cX11_line 133 = .ok (.aload_n 0, 1) := by decide +kernel
theorem dX11_line_134 : decode cX11_line 134 = .ok (.getfield 205, 3) := by decide +kernel
theorem dX11_line_137 : decode cX11_line 137 = .ok (.ifCond .eq 8, 3) := by decide +kernel
theorem dX11_line_140 : decode cX11_line 140 = .ok (.aload_n 0, 1) := by decide +kernel
theorem dX11_line_141 : decode cX11_line 141 = .ok (.iconst 3, 1) := by decide +kernel
theorem dX11_line_142 : decode cX11_line 142 = .ok (.invokevirtual 179, 3) := by decide +kernel
theorem dX11_line_145 : decode cX11_line 145 = .ok (.aload_n 0, 1) := by decide +kernel
theorem dX11_line_146 : decode cX11_line 146 = .ok (.invokevirtual 172, 3) := by decide +kernel
theorem dX11_line_149 : decode cX11_line 149 = .ok (.ifCond .ne 4, 3) := by decide +kernel
theorem dX11_line_152 : decode cX11_line 152 = .ok (.return_, 1) := by decide +kernel
theorem dX11_line_153 : decode cX11_line 153 = .ok (.aload_n 0, 1) := by decide +kernel
theorem dX11_line_154 : decode cX11_line 154 = .ok (.iconst 1, 1) := by decide +kernel
theorem dX11_line_155 : decode cX11_line 155 = .ok (.putfield 205, 3) := by decide +kernel
theorem dX11_line_158 : decode cX11_line 158 = .ok (.aload_n 0, 1) := by decide +kernel
theorem dX11_line_159 : decode cX11_line 159 = .ok (.invokevirtual 176, 3) := by decide +kernel
theorem dX11_line_162 : decode cX11_line 162 = .ok (.iconst 0, 1) := by decide +kernel
theorem dX11_line_163 : decode cX11_line 163 = .ok (.istore_n 1, 1) := by decide +kernel
theorem dX11_line_164 : decode cX11_line 164 = .ok (.iload_n 1, 1) := by decide +kernel
theorem dX11_line_165 : decode cX11_line 165 = .ok (.iconst 4, 1) := by decide +kernel
theorem dX11_line_166 : decode cX11_line 166 = .ok (.if_icmp .ge 22, 3) := by decide +kernel
theorem dX11_line_169 : decode cX11_line 169 = .ok (.aload_n 0, 1) := by decide +kernel
theorem dX11_line_170 : decode cX11_line 170 = .ok (.getfield 44, 3) := by decide +kernel
theorem dX11_line_173 : decode cX11_line 173 = .ok (.iload_n 1, 1) := by decide +kernel
theorem dX11_line_174 : decode cX11_line 174 = .ok (.aload_n 0, 1) := by decide +kernel
theorem dX11_line_175 : decode cX11_line 175 = .ok (.iconst 0, 1) := by decide +kernel
theorem dX11_line_176 : decode cX11_line 176 = .ok (.bipush 9, 2) := by decide +kernel
theorem dX11_line_178 : decode cX11_line 178 = .ok (.invokevirtual 182, 3) := by decide +kernel
theorem dX11_line_181 : decode cX11_line 181 = .ok (.iastore, 1) := by decide +kernel
theorem dX11_line_182 : decode cX11_line 182 = .ok (.iinc 1 1, 3) := by decide +kernel
theorem dX11_line_185 : decode cX11_line 185 = .ok (.goto (-21), 3) := by decide +kernel
theorem dX11_line_188 : decode cX11_line 188 = .ok (.goto 8, 3) := by decide +kernel
theorem dX11_line_191 : decode cX11_line 191 = .ok (.aload_n 0, 1) := by decide +kernel
theorem dX11_line_192 : decode cX11_line 192 = .ok (.iconst 1, 1) := by decide +kernel
theorem dX11_line_193 : decode cX11_line 193 = .ok (.invokevirtual 179, 3) := by decide +kernel
theorem dX11_line_196 : decode cX11_line 196 = .ok (.aload_n 0, 1) := by decide +kernel
theorem dX11_line_197 : decode cX11_line 197 = .ok (.aload_n 0, 1) := by decide +kernel
theorem dX11_line_198 : decode cX11_line 198 = .ok (.getfield 146, 3) := by decide +kernel
theorem dX11_line_201 : decode cX11_line 201 = .ok (.iconst 3, 1) := by decide +kernel
theorem dX11_line_202 : decode cX11_line 202 = .ok (.if_icmp .ne 16, 3) := by decide +kernel
theorem dX11_line_205 : decode cX11_line 205 = .ok (.aload_n 0, 1) := by decide +kernel
theorem dX11_line_206 : decode cX11_line 206 = .ok (.getfield 143, 3) := by decide +kernel
theorem dX11_line_209 : decode cX11_line 209 = .ok (.bipush 59, 2) := by decide +kernel
theorem dX11_line_211 : decode cX11_line 211 = .ok (.if_icmp .ne 7, 3) := by decide +kernel
theorem dX11_line_214 : decode cX11_line 214 = .ok (.iconst 1, 1) := by decide +kernel
theorem dX11_line_215 : decode cX11_line 215 = .ok (.goto 4, 3) := by decide +kernel
theorem dX11_line_218 : decode cX11_line 218 = .ok (.iconst 0, 1) := by decide +kernel
theorem dX11_line_219 : decode cX11_line 219 = .ok (.invokevirtual 192, 3) := by decide +kernel
theorem dX11_line_222 : decode cX11_line 222 = .ok (.return_, 1) := by decide +kernel
theorem dX11_swings_0 : decode cX11_swings 0 = .ok (.aload_n 0, 1) := by decide +kernel
theorem dX11_swings_1 : decode cX11_swings 1 = .ok (.iconst 0, 1) := by decide +kernel
theorem dX11_swings_2 : decode cX11_swings 2 = .ok (.putfield 113, 3) := by decide +kernel
theorem dX11_swings_5 : decode cX11_swings 5 = .ok (.aload_n 0, 1) := by decide +kernel
theorem dX11_swings_6 : decode cX11_swings 6 = .ok (.iload_n 1, 1) := by decide +kernel
theorem dX11_swings_7 : decode cX11_swings 7 = .ok (.ifCond .lt 15, 3) := by decide +kernel
theorem dX11_swings_10 : decode cX11_swings 10 = .ok (.iload_n 1, 1) := by decide +kernel
theorem dX11_swings_11 : decode cX11_swings 11 = .ok (.aload_n 0, 1) := by decide +kernel
theorem dX11_swings_12 : decode cX11_swings 12 = .ok (.getfield 116, 3) := by decide +kernel
theorem dX11_swings_15 : decode cX11_swings 15 = .ok (.if_icmp .gt 7, 3) := by decide +kernel
theorem dX11_swings_18 : decode cX11_swings 18 = .ok (.iconst 1, 1) := by decide +kernel
theorem dX11_swings_19 : decode cX11_swings 19 = .ok (.goto 4, 3) := by decide +kernel
theorem dX11_swings_22 : decode cX11_swings 22 = .ok (.iconst 0, 1) := by decide +kernel
theorem dX11_swings_23 : decode cX11_swings 23 = .ok (.iconst 1, 1) := by decide +kernel
theorem dX11_swings_24 : decode cX11_swings 24 = .ok (.invokevirtual 209, 3) := by decide +kernel
theorem dX11_swings_27 : decode cX11_swings 27 = .ok (.ifCond .ne 5, 3) := by decide +kernel
theorem dX11_swings_30 : decode cX11_swings 30 = .ok (.iconst 0, 1) := by decide +kernel
theorem dX11_swings_31 : decode cX11_swings 31 = .ok (.ireturn, 1) := by decide +kernel
theorem dX11_swings_32 : decode cX11_swings 32 = .ok (.aload_n 0, 1) := by decide +kernel
theorem dX11_swings_33 : decode cX11_swings 33 = .ok (.iconst 0, 1) := by decide +kernel
theorem dX11_swings_34 : decode cX11_swings 34 = .ok (.putfield 116, 3) := by decide +kernel
theorem dX11_swings_37 : decode cX11_swings 37 = .ok (.aload_n 0, 1) := by decide +kernel
theorem dX11_swings_38 : decode cX11_swings 38 = .ok (.iconst (-1), 1) := by decide +kernel
theorem dX11_swings_39 : decode cX11_swings 39 = .ok (.putfield 28, 3) := by decide +kernel
theorem dX11_swings_42 : decode cX11_swings 42 = .ok (.aload_n 0, 1) := by decide +kernel
theorem dX11_swings_43 : decode cX11_swings 43 = .ok (.iconst 0, 1) := by decide +kernel
theorem dX11_swings_44 : decode cX11_swings 44 = .ok (.putfield 169, 3) := by decide +kernel
theorem dX11_swings_47 : decode cX11_swings 47 = .ok (.aload_n 0, 1) := by decide +kernel
theorem dX11_swings_48 : decode cX11_swings 48 = .ok (.iload_n 1, 1) := by decide +kernel
theorem dX11_swings_49 : decode cX11_swings 49 = .ok (.putfield 123, 3) := by decide +kernel
theorem dX11_swings_52 : decode cX11_swings 52 = .ok (.aload_n 0, 1) := by decide +kernel
theorem dX11_swings_53 : decode cX11_swings 53 = .ok (.iconst 0, 1) := by decide +kernel
theorem dX11_swings_54 : decode cX11_swings 54 = .ok (.putfield 126, 3) := by decide +kernel
theorem dX11_swings_57 : decode cX11_swings 57 = .ok (.aload_n 0, 1) := by decide +kernel
theorem dX11_swings_58 : decode cX11_swings 58 = .ok (.iconst 0, 1) := by decide +kernel
theorem dX11_swings_59 : decode cX11_swings 59 = .ok (.putfield 186, 3) := by decide +kernel
theorem dX11_swings_62 : decode cX11_swings 62 = .ok (.aload_n 0, 1) := by decide +kernel
theorem dX11_swings_63 : decode cX11_swings 63 = .ok (.iconst 0, 1) := by decide +kernel
theorem dX11_swings_64 : decode cX11_swings 64 = .ok (.putfield 199, 3) := by decide +kernel
theorem dX11_swings_67 : decode cX11_swings 67 = .ok (.aload_n 0, 1) := by decide +kernel
theorem dX11_swings_68 : decode cX11_swings 68 = .ok (.iconst 0, 1) := by decide +kernel
theorem dX11_swings_69 : decode cX11_swings 69 = .ok (.putfield 205, 3) := by decide +kernel
theorem dX11_swings_72 : decode cX11_swings 72 = .ok (.iconst 0, 1) := by decide +kernel
theorem dX11_swings_73 : decode cX11_swings 73 = .ok (.istore_n 2, 1) := by decide +kernel
theorem dX11_swings_74 : decode cX11_swings 74 = .ok (.iload_n 2, 1) := by decide +kernel
theorem dX11_swings_75 : decode cX11_swings 75 = .ok (.bipush 12, 2) := by decide +kernel
theorem dX11_swings_77 : decode cX11_swings 77 = .ok (.if_icmp .ge 16, 3) := by decide +kernel
theorem dX11_swings_80 : decode cX11_swings 80 = .ok (.aload_n 0, 1) := by decide +kernel
theorem dX11_swings_81 : decode cX11_swings 81 = .ok (.getfield 44, 3) := by decide +kernel
theorem dX11_swings_84 : decode cX11_swings 84 = .ok (.iload_n 2, 1) := by decide +kernel
theorem dX11_swings_85 : decode cX11_swings 85 = .ok (.iconst 0, 1) := by decide +kernel
theorem dX11_swings_86 : decode cX11_swings 86 = .ok (.iastore, 1) := by decide +kernel
theorem dX11_swings_87 : decode cX11_swings 87 = .ok (.iinc 2 1, 3) := by decide +kernel
theorem dX11_swings_90 : decode cX11_swings 90 = .ok (.goto (-16), 3) := by decide +kernel
theorem dX11_swings_93 : decode cX11_swings 93 = .ok (.iconst 0, 1) := by decide +kernel
theorem dX11_swings_94 : decode cX11_swings 94 = .ok (.istore_n 2, 1) := by decide +kernel
theorem dX11_swings_95 : decode cX11_swings 95 = .ok (.iload_n 2, 1) := by decide +kernel
theorem dX11_swings_96 : decode cX11_swings 96 = .ok (.iconst 4, 1) := by decide +kernel
theorem dX11_swings_97 : decode cX11_swings 97 = .ok (.if_icmp .ge 30, 3) := by decide +kernel
theorem dX11_swings_100 : decode cX11_swings 100 = .ok (.aload_n 0, 1) := by decide +kernel
theorem dX11_swings_101 : decode cX11_swings 101 = .ok (.getfield 35, 3) := by decide +kernel
theorem dX11_swings_104 : decode cX11_swings 104 = .ok (.iload_n 2, 1) := by decide +kernel
theorem dX11_swings_105 : decode cX11_swings 105 = .ok (.iconst 0, 1) := by decide +kernel
theorem dX11_swings_106 : decode cX11_swings 106 = .ok (.iastore, 1) := by decide +kernel
theorem dX11_swings_107 : decode cX11_swings 107 = .ok (.aload_n 0, 1) := by decide +kernel
theorem dX11_swings_108 : decode cX11_swings 108 = .ok (.getfield 38, 3) := by decide +kernel
theorem dX11_swings_111 : decode cX11_swings 111 = .ok (.iload_n 2, 1) := by decide +kernel
theorem dX11_swings_112 : decode cX11_swings 112 = .ok (.iconst 2, 1) := by decide +kernel
theorem dX11_swings_113 : decode cX11_swings 113 = .ok (.iastore, 1) := by decide +kernel
theorem dX11_swings_114 : decode cX11_swings 114 = .ok (.aload_n 0, 1) := by decide +kernel
theorem dX11_swings_115 : decode cX11_swings 115 = .ok (.getfield 41, 3) := by decide +kernel
theorem dX11_swings_118 : decode cX11_swings 118 = .ok (.iload_n 2, 1) := by decide +kernel
theorem dX11_swings_119 : decode cX11_swings 119 = .ok (.iconst 0, 1) := by decide +kernel
theorem dX11_swings_120 : decode cX11_swings 120 = .ok (.iastore, 1) := by decide +kernel
theorem dX11_swings_121 : decode cX11_swings 121 = .ok (.iinc 2 1, 3) := by decide +kernel
theorem dX11_swings_124 : decode cX11_swings 124 = .ok (.goto (-29), 3) := by decide +kernel
theorem dX11_swings_127 : decode cX11_swings 127 = .ok (.aload_n 0, 1) := by decide +kernel
theorem dX11_swings_128 : decode cX11_swings 128 = .ok (.invokevirtual 176, 3) := by decide +kernel
theorem dX11_swings_131 : decode cX11_swings 131 = .ok (.aload_n 0, 1) := by decide +kernel
theorem dX11_swings_132 : decode cX11_swings 132 = .ok (.invokevirtual 172, 3) := by decide +kernel
theorem dX11_swings_135 : decode cX11_swings 135 = .ok (.ifCond .eq 17, 3) := by decide +kernel
theorem dX11_swings_138 : decode cX11_swings 138 = .ok (.aload_n 0, 1) := by decide +kernel
theorem dX11_swings_139 : decode cX11_swings 139 = .ok (.getfield 146, 3) := by decide +kernel
theorem dX11_swings_142 : decode cX11_swings 142 = .ok (.ifCond .eq 10, 3) := by decide +kernel
theorem dX11_swings_145 : decode cX11_swings 145 = .ok (.aload_n 0, 1) := by decide +kernel
theorem dX11_swings_146 : decode cX11_swings 146 = .ok (.invokevirtual 213, 3) := by decide +kernel
theorem dX11_swings_149 : decode cX11_swings 149 = .ok (.goto (-18), 3) := by decide +kernel
theorem dX11_swings_152 : decode cX11_swings 152 = .ok (.aload_n 0, 1) := by decide +kernel
theorem dX11_swings_153 : decode cX11_swings 153 = .ok (.invokevirtual 172, 3) := by decide +kernel
theorem dX11_swings_156 : decode cX11_swings 156 = .ok (.ifCond .ne 18, 3) := by decide +kernel
theorem dX11_swings_159 : decode cX11_swings 159 = .ok (.aload_n 0, 1) := by decide +kernel
theorem dX11_swings_160 : decode cX11_swings 160 = .ok (.getfield 32, 3) := by decide +kernel
theorem dX11_swings_163 : decode cX11_swings 163 = .ok (.iconst 0, 1) := by decide +kernel
theorem dX11_swings_164 : decode cX11_swings 164 = .ok (.dup2, 1) := by decide +kernel
theorem dX11_swings_165 : decode cX11_swings 165 = .ok (.iaload, 1) := by decide +kernel
theorem dX11_swings_166 : decode cX11_swings 166 = .ok (.iconst 1, 1) := by decide +kernel
theorem dX11_swings_167 : decode cX11_swings 167 = .ok (.iadd, 1) := by decide +kernel
theorem dX11_swings_168 : decode cX11_swings 168 = .ok (.iastore, 1) := by decide +kernel
theorem dX11_swings_169 : decode cX11_swings 169 = .ok (.aload_n 0, 1) := by decide +kernel
theorem dX11_swings_170 : decode cX11_swings 170 = .ok (.getfield 169, 3) := by decide +kernel
theorem dX11_swings_173 : decode cX11_swings 173 = .ok (.ireturn, 1) := by decide +kernel
theorem dX11_swings_174 : decode cX11_swings 174 = .ok (.aload_n 0, 1) := by decide +kernel
theorem dX11_swings_175 : decode cX11_swings 175 = .ok (.aload_n 0, 1) := by decide +kernel
theorem dX11_swings_176 : decode cX11_swings 176 = .ok (.getfield 186, 3) := by decide +kernel
theorem dX11_swings_179 : decode cX11_swings 179 = .ok (.putfield 216, 3) := by decide +kernel
theorem dX11_swings_182 : decode cX11_swings 182 = .ok (.aload_n 0, 1) := by decide +kernel
theorem dX11_swings_183 : decode cX11_swings 183 = .ok (.aload_n 0, 1) := by decide +kernel
theorem dX11_swings_184 : decode cX11_swings 184 = .ok (.getfield 199, 3) := by decide +kernel
theorem dX11_swings_187 : decode cX11_swings 187 = .ok (.putfield 219, 3) := by decide +kernel
theorem dX11_swings_190 : decode cX11_swings 190 = .ok (.aload_n 0, 1) := by decide +kernel
theorem dX11_swings_191 : decode cX11_swings 191 = .ok (.aload_n 0, 1) := by decide +kernel
theorem dX11_swings_192 : decode cX11_swings 192 = .ok (.getfield 35, 3) := by decide +kernel
theorem dX11_swings_195 : decode cX11_swings 195 = .ok (.aload_n 0, 1) := by decide +kernel
theorem dX11_swings_196 : decode cX11_swings 196 = .ok (.getfield 7, 3) := by decide +kernel
theorem dX11_swings_199 : decode cX11_swings 199 = .ok (.invokevirtual 222, 3) := by decide +kernel
theorem dX11_swings_202 : decode cX11_swings 202 = .ok (.aload_n 0, 1) := by decide +kernel
theorem dX11_swings_203 : decode cX11_swings 203 = .ok (.aload_n 0, 1) := by decide +kernel
theorem dX11_swings_204 : decode cX11_swings 204 = .ok (.getfield 38, 3) := by decide +kernel
theorem dX11_swings_207 : decode cX11_swings 207 = .ok (.aload_n 0, 1) := by decide +kernel
theorem dX11_swings_208 : decode cX11_swings 208 = .ok (.getfield 13, 3) := by decide +kernel
theorem dX11_swings_211 : decode cX11_swings 211 = .ok (.invokevirtual 222, 3) := by decide +kernel
theorem dX11_swings_214 : decode cX11_swings 214 = .ok (.aload_n 0, 1) := by decide +kernel
theorem dX11_swings_215 : decode cX11_swings 215 = .ok (.aload_n 0, 1) := by decide +kernel
theorem dX11_swings_216 : decode cX11_swings 216 = .ok (.getfield 41, 3) := by decide +kernel
theorem dX11_swings_219 : decode cX11_swings 219 = .ok (.aload_n 0, 1) := by decide +kernel
theorem dX11_swings_220 : decode cX11_swings 220 = .ok (.getfield 16, 3) := by decide +kernel
theorem dX11_swings_223 : decode cX11_swings 223 = .ok (.invokevirtual 222, 3) := by decide +kernel
theorem dX11_swings_226 : decode cX11_swings 226 = .ok (.aload_n 0, 1) := by decide +kernel
theorem dX11_swings_227 : decode cX11_swings 227 = .ok (.aload_n 0, 1) := by decide +kernel
theorem dX11_swings_228 : decode cX11_swings 228 = .ok (.getfield 44, 3) := by decide +kernel
theorem dX11_swings_231 : decode cX11_swings 231 = .ok (.aload_n 0, 1) := by decide +kernel
theorem dX11_swings_232 : decode cX11_swings 232 = .ok (.getfield 19, 3) := by decide +kernel
theorem dX11_swings_235 : decode cX11_swings 235 = .ok (.invokevirtual 222, 3) := by decide +kernel
theorem dX11_swings_238 : decode cX11_swings 238 = .ok (.aload_n 0, 1) := by decide +kernel
theorem dX11_swings_239 : decode cX11_swings 239 = .ok (.aload_n 0, 1) := by decide +kernel
theorem dX11_swings_240 : decode cX11_swings 240 = .ok (.getfield 47, 3) := by decide +kernel
theorem dX11_swings_243 : decode cX11_swings 243 = .ok (.aload_n 0, 1) := by decide +kernel
theorem dX11_swings_244 : decode cX11_swings 244 = .ok (.getfield 22, 3) := by decide +kernel
theorem dX11_swings_247 : decode cX11_swings 247 = .ok (.invokevirtual 222, 3) := by decide +kernel
theorem dX11_swings_250 : decode cX11_swings 250 = .ok (.aload_n 0, 1) := by decide +kernel
theorem dX11_swings_251 : decode cX11_swings 251 = .ok (.iconst 0, 1) := by decide +kernel
theorem dX11_swings_252 : decode cX11_swings 252 = .ok (.putfield 226, 3) := by decide +kernel
theorem dX11_swings_255 : decode cX11_swings 255 = .ok (.aload_n 0, 1) := by decide +kernel
theorem dX11_swings_256 : decode cX11_swings 256 = .ok (.iconst 0, 1) := by decide +kernel
theorem dX11_swings_257 : decode cX11_swings 257 = .ok (.putfield 229, 3) := by decide +kernel
theorem dX11_swings_260 : decode cX11_swings 260 = .ok (.aload_n 0, 1) := by decide +kernel
theorem dX11_swings_261 : decode cX11_swings 261 = .ok (.iconst 0, 1) := by decide +kernel
theorem dX11_swings_262 : decode cX11_swings 262 = .ok (.putfield 232, 3) := by decide +kernel
theorem dX11_swings_265 : decode cX11_swings 265 = .ok (.aload_n 0, 1) := by decide +kernel
theorem dX11_swings_266 : decode cX11_swings 266 = .ok (.iconst (-1), 1) := by decide +kernel
theorem dX11_swings_267 : decode cX11_swings 267 = .ok (.putfield 74, 3) := by decide +kernel
theorem dX11_swings_270 : decode cX11_swings 270 = .ok (.aload_n 0, 1) := by decide +kernel
theorem dX11_swings_271 : decode cX11_swings 271 = .ok (.getfield 77, 3) := by decide +kernel
theorem dX11_swings_274 : decode cX11_swings 274 = .ok (.iconst 0, 1) := by decide +kernel
theorem dX11_swings_275 : decode cX11_swings 275 = .ok (.iconst 0, 1) := by decide +kernel
theorem dX11_swings_276 : decode cX11_swings 276 = .ok (.iastore, 1) := by decide +kernel
theorem dX11_swings_277 : decode cX11_swings 277 = .ok (.aload_n 0, 1) := by decide +kernel
theorem dX11_swings_278 : decode cX11_swings 278 = .ok (.iconst 0, 1) := by decide +kernel
theorem dX11_swings_279 : decode cX11_swings 279 = .ok (.putfield 235, 3) := by decide +kernel
theorem dX11_swings_282 : decode cX11_swings 282 = .ok (.iconst 0, 1) := by decide +kernel
theorem dX11_swings_283 : decode cX11_swings 283 = .ok (.ireturn, 1) := by decide +kernel
theorem dX11_fault_0 : decode cX11_fault 0 = .ok (.aload_n 0, 1) := by decide +kernel
theorem dX11_fault_1 : decode cX11_fault 1 = .ok (.iconst 0, 1) := by decide +kernel
theorem dX11_fault_2 : decode cX11_fault 2 = .ok (.putfield 113, 3) := by decide +kernel
theorem dX11_fault_5 : decode cX11_fault 5 = .ok (.aload_n 0, 1) := by decide +kernel
theorem dX11_fault_6 : decode cX11_fault 6 = .ok (.getfield 28, 3) := by decide +kernel
theorem dX11_fault_9 : decode cX11_fault 9 = .ok (.ireturn, 1) := by decide +kernel
theorem dX11_count_0 : decode cX11_count 0 = .ok (.aload_n 0, 1) := by decide +kernel
theorem dX11_count_1 : decode cX11_count 1 = .ok (.iconst 0, 1) := by decide +kernel
theorem dX11_count_2 : decode cX11_count 2 = .ok (.putfield 113, 3) := by decide +kernel
theorem dX11_count_5 : decode cX11_count 5 = .ok (.aload_n 0, 1) := by decide +kernel
theorem dX11_count_6 : decode cX11_count 6 = .ok (.iload_n 1, 1) := by decide +kernel
theorem dX11_count_7 : decode cX11_count 7 = .ok (.iconst 0, 1) := by decide +kernel
theorem dX11_count_8 : decode cX11_count 8 = .ok (.bipush 10, 2) := by decide +kernel
theorem dX11_count_10 : decode cX11_count 10 = .ok (.invokestatic 238, 3) := by decide +kernel
theorem dX11_count_13 : decode cX11_count 13 = .ok (.iconst 1, 1) := by decide +kernel
theorem dX11_count_14 : decode cX11_count 14 = .ok (.invokevirtual 209, 3) := by decide +kernel
theorem dX11_count_17 : decode cX11_count 17 = .ok (.ifCond .ne 5, 3) := by decide +kernel
theorem dX11_count_20 : decode cX11_count 20 = .ok (.iconst 0, 1) := by decide +kernel
theorem dX11_count_21 : decode cX11_count 21 = .ok (.ireturn, 1) := by decide +kernel
theorem dX11_count_22 : decode cX11_count 22 = .ok (.iload_n 1, 1) := by decide +kernel
theorem dX11_count_23 : decode cX11_count 23 = .ok (.tableswitch 67 0 5 #[37, 42, 47, 52, 57, 62], 37) := by decide +kernel
theorem dX11_count_60 : decode cX11_count 60 = .ok (.aload_n 0, 1) := by decide +kernel
theorem dX11_count_61 : decode cX11_count 61 = .ok (.getfield 216, 3) := by decide +kernel
theorem dX11_count_64 : decode cX11_count 64 = .ok (.ireturn, 1) := by decide +kernel
theorem dX11_count_65 : decode cX11_count 65 = .ok (.aload_n 0, 1) := by decide +kernel
theorem dX11_count_66 : decode cX11_count 66 = .ok (.getfield 219, 3) := by decide +kernel
theorem dX11_count_69 : decode cX11_count 69 = .ok (.ireturn, 1) := by decide +kernel
theorem dX11_count_70 : decode cX11_count 70 = .ok (.aload_n 0, 1) := by decide +kernel
theorem dX11_count_71 : decode cX11_count 71 = .ok (.getfield 226, 3) := by decide +kernel
theorem dX11_count_74 : decode cX11_count 74 = .ok (.ireturn, 1) := by decide +kernel
theorem dX11_count_75 : decode cX11_count 75 = .ok (.aload_n 0, 1) := by decide +kernel
theorem dX11_count_76 : decode cX11_count 76 = .ok (.getfield 229, 3) := by decide +kernel
theorem dX11_count_79 : decode cX11_count 79 = .ok (.ireturn, 1) := by decide +kernel
theorem dX11_count_80 : decode cX11_count 80 = .ok (.aload_n 0, 1) := by decide +kernel
theorem dX11_count_81 : decode cX11_count 81 = .ok (.getfield 232, 3) := by decide +kernel
theorem dX11_count_84 : decode cX11_count 84 = .ok (.ireturn, 1) := by decide +kernel
theorem dX11_count_85 : decode cX11_count 85 = .ok (.aload_n 0, 1) := by decide +kernel
theorem dX11_count_86 : decode cX11_count 86 = .ok (.getfield 116, 3) := by decide +kernel
theorem dX11_count_89 : decode cX11_count 89 = .ok (.ireturn, 1) := by decide +kernel
theorem dX11_count_90 : decode cX11_count 90 = .ok (.aload_n 0, 1) := by decide +kernel
theorem dX11_count_91 : decode cX11_count 91 = .ok (.getfield 32, 3) := by decide +kernel
theorem dX11_count_94 : decode cX11_count 94 = .ok (.iload_n 1, 1) := by decide +kernel
theorem dX11_count_95 : decode cX11_count 95 = .ok (.bipush 6, 2) := by decide +kernel
theorem dX11_count_97 : decode cX11_count 97 = .ok (.isub, 1) := by decide +kernel
theorem dX11_count_98 : decode cX11_count 98 = .ok (.iaload, 1) := by decide +kernel
theorem dX11_count_99 : decode cX11_count 99 = .ok (.ireturn, 1) := by decide +kernel
theorem dX11_isPendulum_0 : decode cX11_isPendulum 0 = .ok (.aload_n 0, 1) := by decide +kernel
theorem dX11_isPendulum_1 : decode cX11_isPendulum 1 = .ok (.iload_n 1, 1) := by decide +kernel
theorem dX11_isPendulum_2 : decode cX11_isPendulum 2 = .ok (.iconst 0, 1) := by decide +kernel
theorem dX11_isPendulum_3 : decode cX11_isPendulum 3 = .ok (.iconst 3, 1) := by decide +kernel
theorem dX11_isPendulum_4 : decode cX11_isPendulum 4 = .ok (.invokestatic 238, 3) := by decide +kernel
theorem dX11_isPendulum_7 : decode cX11_isPendulum 7 = .ok (.iconst 1, 1) := by decide +kernel
theorem dX11_isPendulum_8 : decode cX11_isPendulum 8 = .ok (.invokevirtual 209, 3) := by decide +kernel
theorem dX11_isPendulum_11 : decode cX11_isPendulum 11 = .ok (.ireturn, 1) := by decide +kernel
theorem dX11_isTick_0 : decode cX11_isTick 0 = .ok (.aload_n 0, 1) := by decide +kernel
theorem dX11_isTick_1 : decode cX11_isTick 1 = .ok (.iload_n 1, 1) := by decide +kernel
theorem dX11_isTick_2 : decode cX11_isTick 2 = .ok (.iconst 0, 1) := by decide +kernel
theorem dX11_isTick_3 : decode cX11_isTick 3 = .ok (.sipush 9999, 3) := by decide +kernel
theorem dX11_isTick_6 : decode cX11_isTick 6 = .ok (.invokestatic 238, 3) := by decide +kernel
theorem dX11_isTick_9 : decode cX11_isTick 9 = .ok (.iload_n 2, 1) := by decide +kernel
theorem dX11_isTick_10 : decode cX11_isTick 10 = .ok (.invokevirtual 209, 3) := by decide +kernel
theorem dX11_isTick_13 : decode cX11_isTick 13 = .ok (.ireturn, 1) := by decide +kernel
theorem dX11_period_0 : decode cX11_period 0 = .ok (.aload_n 0, 1) := by decide +kernel
theorem dX11_period_1 : decode cX11_period 1 = .ok (.getfield 13, 3) := by decide +kernel
theorem dX11_period_4 : decode cX11_period 4 = .ok (.iload_n 3, 1) := by decide +kernel
theorem dX11_period_5 : decode cX11_period 5 = .ok (.iaload, 1) := by decide +kernel
theorem dX11_period_6 : decode cX11_period 6 = .ok (.aload_n 1, 1) := by decide +kernel
theorem dX11_period_7 : decode cX11_period 7 = .ok (.iload_n 2, 1) := by decide +kernel
theorem dX11_period_8 : decode cX11_period 8 = .ok (.iload_n 3, 1) := by decide +kernel
theorem dX11_period_9 : decode cX11_period 9 = .ok (.iadd, 1) := by decide +kernel
theorem dX11_period_10 : decode cX11_period 10 = .ok (.iaload, 1) := by decide +kernel
theorem dX11_period_11 : decode cX11_period 11 = .ok (.iadd, 1) := by decide +kernel
theorem dX11_period_12 : decode cX11_period 12 = .ok (.ireturn, 1) := by decide +kernel
theorem dX11_pendulum_0 : decode cX11_pendulum 0 = .ok (.aload_n 0, 1) := by decide +kernel
theorem dX11_pendulum_1 : decode cX11_pendulum 1 = .ok (.iconst 0, 1) := by decide +kernel
theorem dX11_pendulum_2 : decode cX11_pendulum 2 = .ok (.putfield 113, 3) := by decide +kernel
theorem dX11_pendulum_5 : decode cX11_pendulum 5 = .ok (.aload_n 0, 1) := by decide +kernel
theorem dX11_pendulum_6 : decode cX11_pendulum 6 = .ok (.iload_n 1, 1) := by decide +kernel
theorem dX11_pendulum_7 : decode cX11_pendulum 7 = .ok (.invokevirtual 242, 3) := by decide +kernel
theorem dX11_pendulum_10 : decode cX11_pendulum 10 = .ok (.ifCond .eq 18, 3) := by decide +kernel
theorem dX11_pendulum_13 : decode cX11_pendulum 13 = .ok (.aload_n 0, 1) := by decide +kernel
theorem dX11_pendulum_14 : decode cX11_pendulum 14 = .ok (.iload_n 2, 1) := by decide +kernel
theorem dX11_pendulum_15 : decode cX11_pendulum 15 = .ok (.iconst 0, 1) := by decide +kernel
theorem dX11_pendulum_16 : decode cX11_pendulum 16 = .ok (.bipush 6, 2) := by decide +kernel
theorem dX11_pendulum_18 : decode cX11_pendulum 18 = .ok (.invokestatic 238, 3) := by decide +kernel
theorem dX11_pendulum_21 : decode cX11_pendulum 21 = .ok (.iconst 1, 1) := by decide +kernel
theorem dX11_pendulum_22 : decode cX11_pendulum 22 = .ok (.invokevirtual 209, 3) := by decide +kernel
theorem dX11_pendulum_25 : decode cX11_pendulum 25 = .ok (.ifCond .ne 5, 3) := by decide +kernel
theorem dX11_pendulum_28 : decode cX11_pendulum 28 = .ok (.iconst 0, 1) := by decide +kernel
theorem dX11_pendulum_29 : decode cX11_pendulum 29 = .ok (.ireturn, 1) := by decide +kernel
theorem dX11_pendulum_30 : decode cX11_pendulum 30 = .ok (.iload_n 2, 1) := by decide +kernel
theorem dX11_pendulum_31 : decode cX11_pendulum 31 = .ok (.tableswitch 84 0 5 #[37, 44, 51, 61, 70, 77], 37) := by decide +kernel
theorem dX11_pendulum_68 : decode cX11_pendulum 68 = .ok (.aload_n 0, 1) := by decide +kernel
theorem dX11_pendulum_69 : decode cX11_pendulum 69 = .ok (.getfield 7, 3) := by decide +kernel
theorem dX11_pendulum_72 : decode cX11_pendulum 72 = .ok (.iload_n 1, 1) := by decide +kernel
theorem dX11_pendulum_73 : decode cX11_pendulum 73 = .ok (.iaload, 1) := by decide +kernel
theorem dX11_pendulum_74 : decode cX11_pendulum 74 = .ok (.ireturn, 1) := by decide +kernel
theorem dX11_pendulum_75 : decode cX11_pendulum 75 = .ok (.aload_n 0, 1) := by decide +kernel
theorem dX11_pendulum_76 : decode cX11_pendulum 76 = .ok (.getfield 13, 3) := by decide +kernel
theorem dX11_pendulum_79 : decode cX11_pendulum 79 = .ok (.iload_n 1, 1) := by decide +kernel
theorem dX11_pendulum_80 : decode cX11_pendulum 80 = .ok (.iaload, 1) := by decide +kernel
theorem dX11_pendulum_81 : decode cX11_pendulum 81 = .ok (.ireturn, 1) := by decide +kernel
theorem dX11_pendulum_82 : decode cX11_pendulum 82 = .ok (.aload_n 0, 1) := by decide +kernel
theorem dX11_pendulum_83 : decode cX11_pendulum 83 = .ok (.getfield 19, 3) := by decide +kernel
theorem dX11_pendulum_86 : decode cX11_pendulum 86 = .ok (.bipush 8, 2) := by decide +kernel
theorem dX11_pendulum_88 : decode cX11_pendulum 88 = .ok (.iload_n 1, 1) := by decide +kernel
theorem dX11_pendulum_89 : decode cX11_pendulum 89 = .ok (.iadd, 1) := by decide +kernel
theorem dX11_pendulum_90 : decode cX11_pendulum 90 = .ok (.iaload, 1) := by decide +kernel
theorem dX11_pendulum_91 : decode cX11_pendulum 91 = .ok (.ireturn, 1) := by decide +kernel
theorem dX11_pendulum_92 : decode cX11_pendulum 92 = .ok (.aload_n 0, 1) := by decide +kernel
theorem dX11_pendulum_93 : decode cX11_pendulum 93 = .ok (.getfield 19, 3) := by decide +kernel
theorem dX11_pendulum_96 : decode cX11_pendulum 96 = .ok (.iconst 4, 1) := by decide +kernel
theorem dX11_pendulum_97 : decode cX11_pendulum 97 = .ok (.iload_n 1, 1) := by decide +kernel
theorem dX11_pendulum_98 : decode cX11_pendulum 98 = .ok (.iadd, 1) := by decide +kernel
theorem dX11_pendulum_99 : decode cX11_pendulum 99 = .ok (.iaload, 1) := by decide +kernel
theorem dX11_pendulum_100 : decode cX11_pendulum 100 = .ok (.ireturn, 1) := by decide +kernel
theorem dX11_pendulum_101 : decode cX11_pendulum 101 = .ok (.aload_n 0, 1) := by decide +kernel
theorem dX11_pendulum_102 : decode cX11_pendulum 102 = .ok (.getfield 16, 3) := by decide +kernel
theorem dX11_pendulum_105 : decode cX11_pendulum 105 = .ok (.iload_n 1, 1) := by decide +kernel
theorem dX11_pendulum_106 : decode cX11_pendulum 106 = .ok (.iaload, 1) := by decide +kernel
theorem dX11_pendulum_107 : decode cX11_pendulum 107 = .ok (.ireturn, 1) := by decide +kernel
theorem dX11_pendulum_108 : decode cX11_pendulum 108 = .ok (.aload_n 0, 1) := by decide +kernel
theorem dX11_pendulum_109 : decode cX11_pendulum 109 = .ok (.getfield 19, 3) := by decide +kernel
theorem dX11_pendulum_112 : decode cX11_pendulum 112 = .ok (.iload_n 1, 1) := by decide +kernel
theorem dX11_pendulum_113 : decode cX11_pendulum 113 = .ok (.iaload, 1) := by decide +kernel
theorem dX11_pendulum_114 : decode cX11_pendulum 114 = .ok (.ireturn, 1) := by decide +kernel
theorem dX11_pendulum_115 : decode cX11_pendulum 115 = .ok (.aload_n 0, 1) := by decide +kernel
theorem dX11_pendulum_116 : decode cX11_pendulum 116 = .ok (.aload_n 0, 1) := by decide +kernel
theorem dX11_pendulum_117 : decode cX11_pendulum 117 = .ok (.getfield 19, 3) := by decide +kernel
theorem dX11_pendulum_120 : decode cX11_pendulum 120 = .ok (.iconst 0, 1) := by decide +kernel
theorem dX11_pendulum_121 : decode cX11_pendulum 121 = .ok (.iload_n 1, 1) := by decide +kernel
theorem dX11_pendulum_122 : decode cX11_pendulum 122 = .ok (.invokevirtual 245, 3) := by decide +kernel
theorem dX11_pendulum_125 : decode cX11_pendulum 125 = .ok (.ireturn, 1) := by decide +kernel
theorem dX11_refuses_0 : decode cX11_refuses 0 = .ok (.aload_n 0, 1) := by decide +kernel
theorem dX11_refuses_1 : decode cX11_refuses 1 = .ok (.getfield 32, 3) := by decide +kernel
theorem dX11_refuses_4 : decode cX11_refuses 4 = .ok (.iload_n 1, 1) := by decide +kernel
theorem dX11_refuses_5 : decode cX11_refuses 5 = .ok (.dup2, 1) := by decide +kernel
theorem dX11_refuses_6 : decode cX11_refuses 6 = .ok (.iaload, 1) := by decide +kernel
theorem dX11_refuses_7 : decode cX11_refuses 7 = .ok (.iconst 1, 1) := by decide +kernel
theorem dX11_refuses_8 : decode cX11_refuses 8 = .ok (.iadd, 1) := by decide +kernel
theorem dX11_refuses_9 : decode cX11_refuses 9 = .ok (.iastore, 1) := by decide +kernel
theorem dX11_refuses_10 : decode cX11_refuses 10 = .ok (.iconst (-1), 1) := by decide +kernel
theorem dX11_refuses_11 : decode cX11_refuses 11 = .ok (.ireturn, 1) := by decide +kernel
theorem dX11_set_0 : decode cX11_set 0 = .ok (.aload_n 0, 1) := by decide +kernel
theorem dX11_set_1 : decode cX11_set 1 = .ok (.iconst 0, 1) := by decide +kernel
theorem dX11_set_2 : decode cX11_set 2 = .ok (.putfield 113, 3) := by decide +kernel
theorem dX11_set_5 : decode cX11_set 5 = .ok (.aload_n 0, 1) := by decide +kernel
theorem dX11_set_6 : decode cX11_set 6 = .ok (.iload_n 1, 1) := by decide +kernel
theorem dX11_set_7 : decode cX11_set 7 = .ok (.invokevirtual 242, 3) := by decide +kernel
theorem dX11_set_10 : decode cX11_set 10 = .ok (.ifCond .eq 17, 3) := by decide +kernel
theorem dX11_set_13 : decode cX11_set 13 = .ok (.aload_n 0, 1) := by decide +kernel
theorem dX11_set_14 : decode cX11_set 14 = .ok (.iload_n 2, 1) := by decide +kernel
theorem dX11_set_15 : decode cX11_set 15 = .ok (.iconst 0, 1) := by decide +kernel
theorem dX11_set_16 : decode cX11_set 16 = .ok (.iconst 2, 1) := by decide +kernel
theorem dX11_set_17 : decode cX11_set 17 = .ok (.invokestatic 238, 3) := by decide +kernel
theorem dX11_set_20 : decode cX11_set 20 = .ok (.iconst 1, 1) := by decide +kernel
theorem dX11_set_21 : decode cX11_set 21 = .ok (.invokevirtual 209, 3) := by decide +kernel
theorem dX11_set_24 : decode cX11_set 24 = .ok (.ifCond .ne 5, 3) := by decide +kernel
theorem dX11_set_27 : decode cX11_set 27 = .ok (.iconst 0, 1) := by decide +kernel
theorem dX11_set_28 : decode cX11_set 28 = .ok (.ireturn, 1) := by decide +kernel
theorem dX11_set_29 : decode cX11_set 29 = .ok (.iload_n 3, 1) := by decide +kernel
theorem dX11_set_30 : decode cX11_set 30 = .ok (.iconst 0, 1) := by decide +kernel
theorem dX11_set_31 : decode cX11_set 31 = .ok (.iload_n 2, 1) := by decide +kernel
theorem dX11_set_32 : decode cX11_set 32 = .ok (.ifCond .ne 8, 3) := by decide +kernel
theorem dX11_set_35 : decode cX11_set 35 = .ok (.bipush 9, 2) := by decide +kernel
theorem dX11_set_37 : decode cX11_set 37 = .ok (.goto 15, 3) := by decide +kernel
theorem dX11_set_40 : decode cX11_set 40 = .ok (.iload_n 2, 1) := by decide +kernel
theorem dX11_set_41 : decode cX11_set 41 = .ok (.iconst 1, 1) := by decide +kernel
theorem dX11_set_42 : decode cX11_set 42 = .ok (.if_icmp .ne 8, 3) := by decide +kernel
theorem dX11_set_45 : decode cX11_set 45 = .ok (.bipush 99, 2) := by decide +kernel
theorem dX11_set_47 : decode cX11_set 47 = .ok (.goto 5, 3) := by decide +kernel
theorem dX11_set_50 : decode cX11_set 50 = .ok (.bipush 90, 2) := by decide +kernel
theorem dX11_set_52 : decode cX11_set 52 = .ok (.invokestatic 238, 3) := by decide +kernel
theorem dX11_set_55 : decode cX11_set 55 = .ok (.ifCond .ne 9, 3) := by decide +kernel
theorem dX11_set_58 : decode cX11_set 58 = .ok (.aload_n 0, 1) := by decide +kernel
theorem dX11_set_59 : decode cX11_set 59 = .ok (.iconst 1, 1) := by decide +kernel
theorem dX11_set_60 : decode cX11_set 60 = .ok (.invokevirtual 249, 3) := by decide +kernel
theorem dX11_set_63 : decode cX11_set 63 = .ok (.ireturn, 1) := by decide +kernel
theorem dX11_set_64 : decode cX11_set 64 = .ok (.aload_n 0, 1) := by decide +kernel
theorem dX11_set_65 : decode cX11_set 65 = .ok (.getfield 19, 3) := by decide +kernel
theorem dX11_set_68 : decode cX11_set 68 = .ok (.iconst 4, 1) := by decide +kernel
theorem dX11_set_69 : decode cX11_set 69 = .ok (.iload_n 2, 1) := by decide +kernel
theorem dX11_set_70 : decode cX11_set 70 = .ok (.imul, 1) := by decide +kernel
theorem dX11_set_71 : decode cX11_set 71 = .ok (.iload_n 1, 1) := by decide +kernel
theorem dX11_set_72 : decode cX11_set 72 = .ok (.iadd, 1) := by decide +kernel
theorem dX11_set_73 : decode cX11_set 73 = .ok (.iaload, 1) := by decide +kernel
theorem dX11_set_74 : decode cX11_set 74 = .ok (.istore 4, 2) := by decide +kernel
theorem dX11_set_76 : decode cX11_set 76 = .ok (.aload_n 0, 1) := by decide +kernel
theorem dX11_set_77 : decode cX11_set 77 = .ok (.getfield 19, 3) := by decide +kernel
theorem dX11_set_80 : decode cX11_set 80 = .ok (.iconst 4, 1) := by decide +kernel
theorem dX11_set_81 : decode cX11_set 81 = .ok (.iload_n 2, 1) := by decide +kernel
theorem dX11_set_82 : decode cX11_set 82 = .ok (.imul, 1) := by decide +kernel
theorem dX11_set_83 : decode cX11_set 83 = .ok (.iload_n 1, 1) := by decide +kernel
theorem dX11_set_84 : decode cX11_set 84 = .ok (.iadd, 1) := by decide +kernel
theorem dX11_set_85 : decode cX11_set 85 = .ok (.iload_n 3, 1) := by decide +kernel
theorem dX11_set_86 : decode cX11_set 86 = .ok (.iastore, 1) := by decide +kernel
theorem dX11_set_87 : decode cX11_set 87 = .ok (.iload 4, 2) := by decide +kernel
theorem dX11_set_89 : decode cX11_set 89 = .ok (.ireturn, 1) := by decide +kernel
theorem dX11_at_0 : decode cX11_at 0 = .ok (.aload_n 0, 1) := by decide +kernel
theorem dX11_at_1 : decode cX11_at 1 = .ok (.aload_n 1, 1) := by decide +kernel
theorem dX11_at_2 : decode cX11_at 2 = .ok (.iload_n 2, 1) := by decide +kernel
theorem dX11_at_3 : decode cX11_at 3 = .ok (.iload_n 3, 1) := by decide +kernel
theorem dX11_at_4 : decode cX11_at 4 = .ok (.invokevirtual 245, 3) := by decide +kernel
theorem dX11_at_7 : decode cX11_at 7 = .ok (.istore 5, 2) := by decide +kernel
theorem dX11_at_9 : decode cX11_at 9 = .ok (.iload 4, 2) := by decide +kernel
theorem dX11_at_11 : decode cX11_at 11 = .ok (.aload_n 1, 1) := by decide +kernel
theorem dX11_at_12 : decode cX11_at 12 = .ok (.iload_n 2, 1) := by decide +kernel
theorem dX11_at_13 : decode cX11_at 13 = .ok (.iconst 4, 1) := by decide +kernel
theorem dX11_at_14 : decode cX11_at 14 = .ok (.iadd, 1) := by decide +kernel
theorem dX11_at_15 : decode cX11_at 15 = .ok (.iload_n 3, 1) := by decide +kernel
theorem dX11_at_16 : decode cX11_at 16 = .ok (.iadd, 1) := by decide +kernel
theorem dX11_at_17 : decode cX11_at 17 = .ok (.iaload, 1) := by decide +kernel
theorem dX11_at_18 : decode cX11_at 18 = .ok (.iadd, 1) := by decide +kernel
theorem dX11_at_19 : decode cX11_at 19 = .ok (.iload 5, 2) := by decide +kernel
theorem dX11_at_21 : decode cX11_at 21 = .ok (.irem, 1) := by decide +kernel
theorem dX11_at_22 : decode cX11_at 22 = .ok (.istore 6, 2) := by decide +kernel
theorem dX11_at_24 : decode cX11_at 24 = .ok (.aload_n 1, 1) := by decide +kernel
theorem dX11_at_25 : decode cX11_at 25 = .ok (.iload_n 2, 1) := by decide +kernel
theorem dX11_at_26 : decode cX11_at 26 = .ok (.bipush 8, 2) := by decide +kernel
theorem dX11_at_28 : decode cX11_at 28 = .ok (.iadd, 1) := by decide +kernel
theorem dX11_at_29 : decode cX11_at 29 = .ok (.iload_n 3, 1) := by decide +kernel
theorem dX11_at_30 : decode cX11_at 30 = .ok (.iadd, 1) := by decide +kernel
theorem dX11_at_31 : decode cX11_at 31 = .ok (.iaload, 1) := by decide +kernel
theorem dX11_at_32 : decode cX11_at 32 = .ok (.istore 7, 2) := by decide +kernel
theorem dX11_at_34 : decode cX11_at 34 = .ok (.iload 4, 2) := by decide +kernel
theorem dX11_at_36 : decode cX11_at 36 = .ok (.iload 5, 2) := by decide +kernel
theorem dX11_at_38 : decode cX11_at 38 = .ok (.idiv, 1) := by decide +kernel
theorem dX11_at_39 : decode cX11_at 39 = .ok (.istore 8, 2) := by decide +kernel
theorem dX11_at_41 : decode cX11_at 41 = .ok (.iload 8, 2) := by decide +kernel
theorem dX11_at_43 : decode cX11_at 43 = .ok (.ifCond .le 40, 3) := by decide +kernel
theorem dX11_at_46 : decode cX11_at 46 = .ok (.iload 7, 2) := by decide +kernel
theorem dX11_at_48 : decode cX11_at 48 = .ok (.ifCond .le 35, 3) := by decide +kernel
theorem dX11_at_51 : decode cX11_at 51 = .ok (.aload_n 0, 1) := by decide +kernel
theorem dX11_at_52 : decode cX11_at 52 = .ok (.getfield 16, 3) := by decide +kernel
theorem dX11_at_55 : decode cX11_at 55 = .ok (.iload_n 3, 1) := by decide +kernel
theorem dX11_at_56 : decode cX11_at 56 = .ok (.iaload, 1) := by decide +kernel
theorem dX11_at_57 : decode cX11_at 57 = .ok (.ifCond .le 26, 3) := by decide +kernel
theorem dX11_at_60 : decode cX11_at 60 = .ok (.iload 7, 2) := by decide +kernel
theorem dX11_at_62 : decode cX11_at 62 = .ok (.bipush 100, 2) := by decide +kernel
theorem dX11_at_64 : decode cX11_at 64 = .ok (.aload_n 0, 1) := by decide +kernel
theorem dX11_at_65 : decode cX11_at 65 = .ok (.getfield 16, 3) := by decide +kernel
theorem dX11_at_68 : decode cX11_at 68 = .ok (.iload_n 3, 1) := by decide +kernel
theorem dX11_at_69 : decode cX11_at 69 = .ok (.iaload, 1) := by decide +kernel
theorem dX11_at_70 : decode cX11_at 70 = .ok (.isub, 1) := by decide +kernel
theorem dX11_at_71 : decode cX11_at 71 = .ok (.imul, 1) := by decide +kernel
theorem dX11_at_72 : decode cX11_at 72 = .ok (.bipush 100, 2) := by decide +kernel
theorem dX11_at_74 : decode cX11_at 74 = .ok (.idiv, 1) := by decide +kernel
theorem dX11_at_75 : decode cX11_at 75 = .ok (.istore 7, 2) := by decide +kernel
theorem dX11_at_77 : decode cX11_at 77 = .ok (.iinc 8 (-1), 3) := by decide +kernel
theorem dX11_at_80 : decode cX11_at 80 = .ok (.goto (-39), 3) := by decide +kernel
theorem dX11_at_83 : decode cX11_at 83 = .ok (.aload_n 0, 1) := by decide +kernel
theorem dX11_at_84 : decode cX11_at 84 = .ok (.getfield 7, 3) := by decide +kernel
theorem dX11_at_87 : decode cX11_at 87 = .ok (.iload_n 3, 1) := by decide +kernel
theorem dX11_at_88 : decode cX11_at 88 = .ok (.iaload, 1) := by decide +kernel
theorem dX11_at_89 : decode cX11_at 89 = .ok (.ifCond .ne 68, 3) := by decide +kernel
theorem dX11_at_92 : decode cX11_at 92 = .ok (.iconst 4, 1) := by decide +kernel
theorem dX11_at_93 : decode cX11_at 93 = .ok (.iload 6, 2) := by decide +kernel
theorem dX11_at_95 : decode cX11_at 95 = .ok (.imul, 1) := by decide +kernel
theorem dX11_at_96 : decode cX11_at 96 = .ok (.iload 5, 2) := by decide +kernel
theorem dX11_at_98 : decode cX11_at 98 = .ok (.if_icmp .gt 14, 3) := by decide +kernel
theorem dX11_at_101 : decode cX11_at 101 = .ok (.iconst 4, 1) := by decide +kernel
theorem dX11_at_102 : decode cX11_at 102 = .ok (.iload 6, 2) := by decide +kernel
theorem dX11_at_104 : decode cX11_at 104 = .ok (.imul, 1) := by decide +kernel
theorem dX11_at_105 : decode cX11_at 105 = .ok (.iload 7, 2) := by decide +kernel
theorem dX11_at_107 : decode cX11_at 107 = .ok (.imul, 1) := by decide +kernel
theorem dX11_at_108 : decode cX11_at 108 = .ok (.iload 5, 2) := by decide +kernel
theorem dX11_at_110 : decode cX11_at 110 = .ok (.idiv, 1) := by decide +kernel
theorem dX11_at_111 : decode cX11_at 111 = .ok (.ireturn, 1) := by decide +kernel
theorem dX11_at_112 : decode cX11_at 112 = .ok (.iconst 4, 1) := by decide +kernel
theorem dX11_at_113 : decode cX11_at 113 = .ok (.iload 6, 2) := by decide +kernel
theorem dX11_at_115 : decode cX11_at 115 = .ok (.imul, 1) := by decide +kernel
theorem dX11_at_116 : decode cX11_at 116 = .ok (.iconst 3, 1) := by decide +kernel
theorem dX11_at_117 : decode cX11_at 117 = .ok (.iload 5, 2) := by decide +kernel
theorem dX11_at_119 : decode cX11_at 119 = .ok (.imul, 1) := by decide +kernel
theorem dX11_at_120 : decode cX11_at 120 = .ok (.if_icmp .gt 21, 3) := by decide +kernel
theorem dX11_at_123 : decode cX11_at 123 = .ok (.iconst 2, 1) := by decide +kernel
theorem dX11_at_124 : decode cX11_at 124 = .ok (.iload 5, 2) := by decide +kernel
theorem dX11_at_126 : decode cX11_at 126 = .ok (.imul, 1) := by decide +kernel
theorem dX11_at_127 : decode cX11_at 127 = .ok (.iconst 4, 1) := by decide +kernel
theorem dX11_at_128 : decode cX11_at 128 = .ok (.iload 6, 2) := by decide +kernel
theorem dX11_at_130 : decode cX11_at 130 = .ok (.imul, 1) := by decide +kernel
theorem dX11_at_131 : decode cX11_at 131 = .ok (.isub, 1) := by decide +kernel
theorem dX11_at_132 : decode cX11_at 132 = .ok (.iload 7, 2) := by decide +kernel
theorem dX11_at_134 : decode cX11_at 134 = .ok (.imul, 1) := by decide +kernel
theorem dX11_at_135 : decode cX11_at 135 = .ok (.iload 5, 2) := by decide +kernel
theorem dX11_at_137 : decode cX11_at 137 = .ok (.idiv, 1) := by decide +kernel
theorem dX11_at_138 : decode cX11_at 138 = .ok (.goto 18, 3) := by decide +kernel
theorem dX11_at_141 : decode cX11_at 141 = .ok (.iconst 4, 1) := by decide +kernel
theorem dX11_at_142 : decode cX11_at 142 = .ok (.iload 6, 2) := by decide +kernel
theorem dX11_at_144 : decode cX11_at 144 = .ok (.imul, 1) := by decide +kernel
theorem dX11_at_145 : decode cX11_at 145 = .ok (.iconst 4, 1) := by decide +kernel
theorem dX11_at_146 : decode cX11_at 146 = .ok (.iload 5, 2) := by decide +kernel
theorem dX11_at_148 : decode cX11_at 148 = .ok (.imul, 1) := by decide +kernel
theorem dX11_at_149 : decode cX11_at 149 = .ok (.isub, 1) := by decide +kernel
theorem dX11_at_150 : decode cX11_at 150 = .ok (.iload 7, 2) := by decide +kernel
theorem dX11_at_152 : decode cX11_at 152 = .ok (.imul, 1) := by decide +kernel
theorem dX11_at_153 : decode cX11_at 153 = .ok (.iload 5, 2) := by decide +kernel
theorem dX11_at_155 : decode cX11_at 155 = .ok (.idiv, 1) := by decide +kernel
theorem dX11_at_156 : decode cX11_at 156 = .ok (.ireturn, 1) := by decide +kernel
theorem dX11_at_157 : decode cX11_at 157 = .ok (.iconst 2, 1) := by decide +kernel
theorem dX11_at_158 : decode cX11_at 158 = .ok (.iload 6, 2) := by decide +kernel
theorem dX11_at_160 : decode cX11_at 160 = .ok (.imul, 1) := by decide +kernel
theorem dX11_at_161 : decode cX11_at 161 = .ok (.istore 8, 2) := by decide +kernel
theorem dX11_at_163 : decode cX11_at 163 = .ok (.aload_n 0, 1) := by decide +kernel
theorem dX11_at_164 : decode cX11_at 164 = .ok (.getfield 7, 3) := by decide +kernel
theorem dX11_at_167 : decode cX11_at 167 = .ok (.iload_n 3, 1) := by decide +kernel
theorem dX11_at_168 : decode cX11_at 168 = .ok (.iaload, 1) := by decide +kernel
theorem dX11_at_169 : decode cX11_at 169 = .ok (.iconst 1, 1) := by decide +kernel
theorem dX11_at_170 : decode cX11_at 170 = .ok (.if_icmp .eq 20, 3) := by decide +kernel
theorem dX11_at_173 : decode cX11_at 173 = .ok (.iload 8, 2) := by decide +kernel
theorem dX11_at_175 : decode cX11_at 175 = .ok (.iload 5, 2) := by decide +kernel
theorem dX11_at_177 : decode cX11_at 177 = .ok (.if_icmp .ge 8, 3) := by decide +kernel
theorem dX11_at_180 : decode cX11_at 180 = .ok (.iload 7, 2) := by decide +kernel
theorem dX11_at_182 : decode cX11_at 182 = .ok (.goto 7, 3) := by decide +kernel
theorem dX11_at_185 : decode cX11_at 185 = .ok (.iconst 0, 1) := by decide +kernel
theorem dX11_at_186 : decode cX11_at 186 = .ok (.iload 7, 2) := by decide +kernel
theorem dX11_at_188 : decode cX11_at 188 = .ok (.isub, 1) := by decide +kernel
theorem dX11_at_189 : decode cX11_at 189 = .ok (.ireturn, 1) := by decide +kernel
theorem dX11_at_190 : decode cX11_at 190 = .ok (.iload 8, 2) := by decide +kernel
theorem dX11_at_192 : decode cX11_at 192 = .ok (.iload 5, 2) := by decide +kernel
theorem dX11_at_194 : decode cX11_at 194 = .ok (.if_icmp .gt 23, 3) := by decide +kernel
theorem dX11_at_197 : decode cX11_at 197 = .ok (.iconst 4, 1) := by decide +kernel
theorem dX11_at_198 : decode cX11_at 198 = .ok (.iload 8, 2) := by decide +kernel
theorem dX11_at_200 : decode cX11_at 200 = .ok (.imul, 1) := by decide +kernel
theorem dX11_at_201 : decode cX11_at 201 = .ok (.iload 5, 2) := by decide +kernel
theorem dX11_at_203 : decode cX11_at 203 = .ok (.iload 8, 2) := by decide +kernel
theorem dX11_at_205 : decode cX11_at 205 = .ok (.isub, 1) := by decide +kernel
theorem dX11_at_206 : decode cX11_at 206 = .ok (.imul, 1) := by decide +kernel
theorem dX11_at_207 : decode cX11_at 207 = .ok (.iload 7, 2) := by decide +kernel
theorem dX11_at_209 : decode cX11_at 209 = .ok (.imul, 1) := by decide +kernel
theorem dX11_at_210 : decode cX11_at 210 = .ok (.iload 5, 2) := by decide +kernel
theorem dX11_at_212 : decode cX11_at 212 = .ok (.iload 5, 2) := by decide +kernel
theorem dX11_at_214 : decode cX11_at 214 = .ok (.imul, 1) := by decide +kernel
theorem dX11_at_215 : decode cX11_at 215 = .ok (.idiv, 1) := by decide +kernel
theorem dX11_at_216 : decode cX11_at 216 = .ok (.ireturn, 1) := by decide +kernel
theorem dX11_at_217 : decode cX11_at 217 = .ok (.iconst 0, 1) := by decide +kernel
theorem dX11_at_218 : decode cX11_at 218 = .ok (.iconst 4, 1) := by decide +kernel
theorem dX11_at_219 : decode cX11_at 219 = .ok (.iload 8, 2) := by decide +kernel
theorem dX11_at_221 : decode cX11_at 221 = .ok (.iload 5, 2) := by decide +kernel
theorem dX11_at_223 : decode cX11_at 223 = .ok (.isub, 1) := by decide +kernel
theorem dX11_at_224 : decode cX11_at 224 = .ok (.imul, 1) := by decide +kernel
theorem dX11_at_225 : decode cX11_at 225 = .ok (.iconst 2, 1) := by decide +kernel
theorem dX11_at_226 : decode cX11_at 226 = .ok (.iload 5, 2) := by decide +kernel
theorem dX11_at_228 : decode cX11_at 228 = .ok (.imul, 1) := by decide +kernel
theorem dX11_at_229 : decode cX11_at 229 = .ok (.iload 8, 2) := by decide +kernel
theorem dX11_at_231 : decode cX11_at 231 = .ok (.isub, 1) := by decide +kernel
theorem dX11_at_232 : decode cX11_at 232 = .ok (.imul, 1) := by decide +kernel
theorem dX11_at_233 : decode cX11_at 233 = .ok (.iload 7, 2) := by decide +kernel
theorem dX11_at_235 : decode cX11_at 235 = .ok (.imul, 1) := by decide +kernel
theorem dX11_at_236 : decode cX11_at 236 = .ok (.iload 5, 2) := by decide +kernel
theorem dX11_at_238 : decode cX11_at 238 = .ok (.iload 5, 2) := by decide +kernel
theorem dX11_at_240 : decode cX11_at 240 = .ok (.imul, 1) := by decide +kernel
theorem dX11_at_241 : decode cX11_at 241 = .ok (.idiv, 1) := by decide +kernel
theorem dX11_at_242 : decode cX11_at 242 = .ok (.isub, 1) := by decide +kernel
theorem dX11_at_243 : decode cX11_at 243 = .ok (.ireturn, 1) := by decide +kernel
theorem dX11_penOf_0 : decode cX11_penOf 0 = .ok (.aload_n 0, 1) := by decide +kernel
theorem dX11_penOf_1 : decode cX11_penOf 1 = .ok (.aload_n 1, 1) := by decide +kernel
theorem dX11_penOf_2 : decode cX11_penOf 2 = .ok (.iload_n 2, 1) := by decide +kernel
theorem dX11_penOf_3 : decode cX11_penOf 3 = .ok (.iconst 2, 1) := by decide +kernel
theorem dX11_penOf_4 : decode cX11_penOf 4 = .ok (.iload 4, 2) := by decide +kernel
theorem dX11_penOf_6 : decode cX11_penOf 6 = .ok (.imul, 1) := by decide +kernel
theorem dX11_penOf_7 : decode cX11_penOf 7 = .ok (.iload_n 3, 1) := by decide +kernel
theorem dX11_penOf_8 : decode cX11_penOf 8 = .ok (.invokevirtual 252, 3) := by decide +kernel
theorem dX11_penOf_11 : decode cX11_penOf 11 = .ok (.aload_n 0, 1) := by decide +kernel
theorem dX11_penOf_12 : decode cX11_penOf 12 = .ok (.aload_n 1, 1) := by decide +kernel
theorem dX11_penOf_13 : decode cX11_penOf 13 = .ok (.iload_n 2, 1) := by decide +kernel
theorem dX11_penOf_14 : decode cX11_penOf 14 = .ok (.iconst 2, 1) := by decide +kernel
theorem dX11_penOf_15 : decode cX11_penOf 15 = .ok (.iload 4, 2) := by decide +kernel
theorem dX11_penOf_17 : decode cX11_penOf 17 = .ok (.imul, 1) := by decide +kernel
theorem dX11_penOf_18 : decode cX11_penOf 18 = .ok (.iconst 1, 1) := by decide +kernel
theorem dX11_penOf_19 : decode cX11_penOf 19 = .ok (.iadd, 1) := by decide +kernel
theorem dX11_penOf_20 : decode cX11_penOf 20 = .ok (.iload_n 3, 1) := by decide +kernel
theorem dX11_penOf_21 : decode cX11_penOf 21 = .ok (.invokevirtual 252, 3) := by decide +kernel
theorem dX11_penOf_24 : decode cX11_penOf 24 = .ok (.iadd, 1) := by decide +kernel
theorem dX11_penOf_25 : decode cX11_penOf 25 = .ok (.ireturn, 1) := by decide +kernel
theorem dX11_penNow_0 : decode cX11_penNow 0 = .ok (.aload_n 0, 1) := by decide +kernel
theorem dX11_penNow_1 : decode cX11_penNow 1 = .ok (.aload_n 0, 1) := by decide +kernel
theorem dX11_penNow_2 : decode cX11_penNow 2 = .ok (.getfield 19, 3) := by decide +kernel
theorem dX11_penNow_5 : decode cX11_penNow 5 = .ok (.iconst 0, 1) := by decide +kernel
theorem dX11_penNow_6 : decode cX11_penNow 6 = .ok (.iload_n 1, 1) := by decide +kernel
theorem dX11_penNow_7 : decode cX11_penNow 7 = .ok (.iload_n 2, 1) := by decide +kernel
theorem dX11_penNow_8 : decode cX11_penNow 8 = .ok (.invokevirtual 256, 3) := by decide +kernel
theorem dX11_penNow_11 : decode cX11_penNow 11 = .ok (.istore_n 3, 1) := by decide +kernel
theorem dX11_penNow_12 : decode cX11_penNow 12 = .ok (.iconst 0, 1) := by decide +kernel
theorem dX11_penNow_13 : decode cX11_penNow 13 = .ok (.istore 4, 2) := by decide +kernel
theorem dX11_penNow_15 : decode cX11_penNow 15 = .ok (.iload 4, 2) := by decide +kernel
