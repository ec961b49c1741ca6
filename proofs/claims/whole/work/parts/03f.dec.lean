/-! decode rows -/
theorem dX7_put_13 : decode cX7_put 13 = .ok (.ldc 146, 2) := by decide +kernel
theorem dX7_put_15 : decode cX7_put 15 = .ok (.invokestatic 75, 3) := by decide +kernel
theorem dX7_put_18 : decode cX7_put 18 = .ok (.ifCond .ne 6, 3) := by decide +kernel
theorem dX7_put_21 : decode cX7_put 21 = .ok (.bipush (-2), 2) := by decide +kernel
theorem dX7_put_23 : decode cX7_put 23 = .ok (.ireturn, 1) := by decide +kernel
theorem dX7_put_24 : decode cX7_put 24 = .ok (.aload_n 0, 1) := by decide +kernel
theorem dX7_put_25 : decode cX7_put 25 = .ok (.getfield 28, 3) := by decide +kernel
theorem dX7_put_28 : decode cX7_put 28 = .ok (.iload_n 1, 1) := by decide +kernel
theorem dX7_put_29 : decode cX7_put 29 = .ok (.iaload, 1) := by decide +kernel
theorem dX7_put_30 : decode cX7_put 30 = .ok (.istore_n 3, 1) := by decide +kernel
theorem dX7_put_31 : decode cX7_put 31 = .ok (.aload_n 0, 1) := by decide +kernel
theorem dX7_put_32 : decode cX7_put 32 = .ok (.getfield 28, 3) := by decide +kernel
theorem dX7_put_35 : decode cX7_put 35 = .ok (.iload_n 1, 1) := by decide +kernel
theorem dX7_put_36 : decode cX7_put 36 = .ok (.iload_n 2, 1) := by decide +kernel
theorem dX7_put_37 : decode cX7_put 37 = .ok (.iastore, 1) := by decide +kernel
theorem dX7_put_38 : decode cX7_put 38 = .ok (.iload_n 3, 1) := by decide +kernel
theorem dX7_put_39 : decode cX7_put 39 = .ok (.ireturn, 1) := by decide +kernel
theorem dX7_register_0 : decode cX7_register 0 = .ok (.iload_n 1, 1) := by decide +kernel
theorem dX7_register_1 : decode cX7_register 1 = .ok (.iconst 0, 1) := by decide +kernel
theorem dX7_register_2 : decode cX7_register 2 = .ok (.iconst 3, 1) := by decide +kernel
theorem dX7_register_3 : decode cX7_register 3 = .ok (.invokestatic 75, 3) := by decide +kernel
theorem dX7_register_6 : decode cX7_register 6 = .ok (.ifCond .eq 12, 3) := by decide +kernel
theorem dX7_register_9 : decode cX7_register 9 = .ok (.aload_n 0, 1) := by decide +kernel
theorem dX7_register_10 : decode cX7_register 10 = .ok (.getfield 28, 3) := by decide +kernel
theorem dX7_register_13 : decode cX7_register 13 = .ok (.iload_n 1, 1) := by decide +kernel
theorem dX7_register_14 : decode cX7_register 14 = .ok (.iaload, 1) := by decide +kernel
theorem dX7_register_15 : decode cX7_register 15 = .ok (.goto 4, 3) := by decide +kernel
theorem dX7_register_18 : decode cX7_register 18 = .ok (.iconst (-1), 1) := by decide +kernel
theorem dX7_register_19 : decode cX7_register 19 = .ok (.ireturn, 1) := by decide +kernel
theorem dX7_act_0 : decode cX7_act 0 = .ok (.aload_n 0, 1) := by decide +kernel
theorem dX7_act_1 : decode cX7_act 1 = .ok (.getfield 22, 3) := by decide +kernel
theorem dX7_act_4 : decode cX7_act 4 = .ok (.iload_n 1, 1) := by decide +kernel
theorem dX7_act_5 : decode cX7_act 5 = .ok (.iaload, 1) := by decide +kernel
theorem dX7_act_6 : decode cX7_act 6 = .ok (.istore_n 2, 1) := by decide +kernel
theorem dX7_act_7 : decode cX7_act 7 = .ok (.aload_n 0, 1) := by decide +kernel
theorem dX7_act_8 : decode cX7_act 8 = .ok (.getfield 25, 3) := by decide +kernel
theorem dX7_act_11 : decode cX7_act 11 = .ok (.iload_n 1, 1) := by decide +kernel
theorem dX7_act_12 : decode cX7_act 12 = .ok (.iaload, 1) := by decide +kernel
theorem dX7_act_13 : decode cX7_act 13 = .ok (.istore_n 3, 1) := by decide +kernel
theorem dX7_act_14 : decode cX7_act 14 = .ok (.aload_n 0, 1) := by decide +kernel
theorem dX7_act_15 : decode cX7_act 15 = .ok (.getfield 19, 3) := by decide +kernel
theorem dX7_act_18 : decode cX7_act 18 = .ok (.iload_n 1, 1) := by decide +kernel
theorem dX7_act_19 : decode cX7_act 19 = .ok (.iaload, 1) := by decide +kernel
theorem dX7_act_20 : decode cX7_act 20 = .ok (.tableswitch 274 1 9 #[52, 62, 77, 98, 120, 156, 223, 258, 266], 52) := by decide +kernel
theorem dX7_act_72 : decode cX7_act 72 = .ok (.aload_n 0, 1) := by decide +kernel
theorem dX7_act_73 : decode cX7_act 73 = .ok (.getfield 58, 3) := by decide +kernel
theorem dX7_act_76 : decode cX7_act 76 = .ok (.iload_n 2, 1) := by decide +kernel
theorem dX7_act_77 : decode cX7_act 77 = .ok (.iload_n 3, 1) := by decide +kernel
theorem dX7_act_78 : decode cX7_act 78 = .ok (.iastore, 1) := by decide +kernel
theorem dX7_act_79 : decode cX7_act 79 = .ok (.goto 215, 3) := by decide +kernel
theorem dX7_act_82 : decode cX7_act 82 = .ok (.aload_n 0, 1) := by decide +kernel
theorem dX7_act_83 : decode cX7_act 83 = .ok (.getfield 58, 3) := by decide +kernel
theorem dX7_act_86 : decode cX7_act 86 = .ok (.iload_n 2, 1) := by decide +kernel
theorem dX7_act_87 : decode cX7_act 87 = .ok (.aload_n 0, 1) := by decide +kernel
theorem dX7_act_88 : decode cX7_act 88 = .ok (.getfield 58, 3) := by decide +kernel
theorem dX7_act_91 : decode cX7_act 91 = .ok (.iload_n 3, 1) := by decide +kernel
theorem dX7_act_92 : decode cX7_act 92 = .ok (.iaload, 1) := by decide +kernel
theorem dX7_act_93 : decode cX7_act 93 = .ok (.iastore, 1) := by decide +kernel
theorem dX7_act_94 : decode cX7_act 94 = .ok (.goto 200, 3) := by decide +kernel
theorem dX7_act_97 : decode cX7_act 97 = .ok (.aload_n 0, 1) := by decide +kernel
theorem dX7_act_98 : decode cX7_act 98 = .ok (.getfield 58, 3) := by decide +kernel
theorem dX7_act_101 : decode cX7_act 101 = .ok (.iload_n 2, 1) := by decide +kernel
theorem dX7_act_102 : decode cX7_act 102 = .ok (.aload_n 0, 1) := by decide +kernel
theorem dX7_act_103 : decode cX7_act 103 = .ok (.getfield 58, 3) := by decide +kernel
theorem dX7_act_106 : decode cX7_act 106 = .ok (.iload_n 2, 1) := by decide +kernel
theorem dX7_act_107 : decode cX7_act 107 = .ok (.iaload, 1) := by decide +kernel
theorem dX7_act_108 : decode cX7_act 108 = .ok (.iload_n 3, 1) := by decide +kernel
theorem dX7_act_109 : decode cX7_act 109 = .ok (.iadd, 1) := by decide +kernel
theorem dX7_act_110 : decode cX7_act 110 = .ok (.sipush 256, 3) := by decide +kernel
theorem dX7_act_113 : decode cX7_act 113 = .ok (.irem, 1) := by decide +kernel
theorem dX7_act_114 : decode cX7_act 114 = .ok (.iastore, 1) := by decide +kernel
theorem dX7_act_115 : decode cX7_act 115 = .ok (.goto 179, 3) := by decide +kernel
theorem dX7_act_118 : decode cX7_act 118 = .ok (.aload_n 0, 1) := by decide +kernel
theorem dX7_act_119 : decode cX7_act 119 = .ok (.getfield 58, 3) := by decide +kernel
theorem dX7_act_122 : decode cX7_act 122 = .ok (.iload_n 2, 1) := by decide +kernel
theorem dX7_act_123 : decode cX7_act 123 = .ok (.aload_n 0, 1) := by decide +kernel
theorem dX7_act_124 : decode cX7_act 124 = .ok (.getfield 58, 3) := by decide +kernel
theorem dX7_act_127 : decode cX7_act 127 = .ok (.iload_n 2, 1) := by decide +kernel
theorem dX7_act_128 : decode cX7_act 128 = .ok (.iaload, 1) := by decide +kernel
theorem dX7_act_129 : decode cX7_act 129 = .ok (.aload_n 0, 1) := by decide +kernel
theorem dX7_act_130 : decode cX7_act 130 = .ok (.getfield 58, 3) := by decide +kernel
theorem dX7_act_133 : decode cX7_act 133 = .ok (.iload_n 3, 1) := by decide +kernel
theorem dX7_act_134 : decode cX7_act 134 = .ok (.iaload, 1) := by decide +kernel
theorem dX7_act_135 : decode cX7_act 135 = .ok (.ixor, 1) := by decide +kernel
theorem dX7_act_136 : decode cX7_act 136 = .ok (.iastore, 1) := by decide +kernel
theorem dX7_act_137 : decode cX7_act 137 = .ok (.goto 157, 3) := by decide +kernel
theorem dX7_act_140 : decode cX7_act 140 = .ok (.aload_n 0, 1) := by decide +kernel
theorem dX7_act_141 : decode cX7_act 141 = .ok (.getfield 28, 3) := by decide +kernel
theorem dX7_act_144 : decode cX7_act 144 = .ok (.iload_n 3, 1) := by decide +kernel
theorem dX7_act_145 : decode cX7_act 145 = .ok (.aload_n 0, 1) := by decide +kernel
theorem dX7_act_146 : decode cX7_act 146 = .ok (.getfield 28, 3) := by decide +kernel
theorem dX7_act_149 : decode cX7_act 149 = .ok (.iload_n 3, 1) := by decide +kernel
theorem dX7_act_150 : decode cX7_act 150 = .ok (.iaload, 1) := by decide +kernel
theorem dX7_act_151 : decode cX7_act 151 = .ok (.iconst 1, 1) := by decide +kernel
theorem dX7_act_152 : decode cX7_act 152 = .ok (.iadd, 1) := by decide +kernel
theorem dX7_act_153 : decode cX7_act 153 = .ok (.ldc 147, 2) := by decide +kernel
theorem dX7_act_155 : decode cX7_act 155 = .ok (.irem, 1) := by decide +kernel
theorem dX7_act_156 : decode cX7_act 156 = .ok (.iastore, 1) := by decide +kernel
theorem dX7_act_157 : decode cX7_act 157 = .ok (.aload_n 0, 1) := by decide +kernel
theorem dX7_act_158 : decode cX7_act 158 = .ok (.getfield 58, 3) := by decide +kernel
theorem dX7_act_161 : decode cX7_act 161 = .ok (.iload_n 2, 1) := by decide +kernel
theorem dX7_act_162 : decode cX7_act 162 = .ok (.aload_n 0, 1) := by decide +kernel
theorem dX7_act_163 : decode cX7_act 163 = .ok (.getfield 28, 3) := by decide +kernel
theorem dX7_act_166 : decode cX7_act 166 = .ok (.iload_n 3, 1) := by decide +kernel
theorem dX7_act_167 : decode cX7_act 167 = .ok (.iaload, 1) := by decide +kernel
theorem dX7_act_168 : decode cX7_act 168 = .ok (.sipush 256, 3) := by decide +kernel
theorem dX7_act_171 : decode cX7_act 171 = .ok (.irem, 1) := by decide +kernel
theorem dX7_act_172 : decode cX7_act 172 = .ok (.iastore, 1) := by decide +kernel
theorem dX7_act_173 : decode cX7_act 173 = .ok (.goto 121, 3) := by decide +kernel
theorem dX7_act_176 : decode cX7_act 176 = .ok (.aload_n 0, 1) := by decide +kernel
theorem dX7_act_177 : decode cX7_act 177 = .ok (.getfield 58, 3) := by decide +kernel
theorem dX7_act_180 : decode cX7_act 180 = .ok (.iload_n 2, 1) := by decide +kernel
theorem dX7_act_181 : decode cX7_act 181 = .ok (.iaload, 1) := by decide +kernel
theorem dX7_act_182 : decode cX7_act 182 = .ok (.aload_n 0, 1) := by decide +kernel
theorem dX7_act_183 : decode cX7_act 183 = .ok (.getfield 28, 3) := by decide +kernel
theorem dX7_act_186 : decode cX7_act 186 = .ok (.iload_n 3, 1) := by decide +kernel
theorem dX7_act_187 : decode cX7_act 187 = .ok (.iaload, 1) := by decide +kernel
theorem dX7_act_188 : decode cX7_act 188 = .ok (.if_icmp .le 7, 3) := by decide +kernel
theorem dX7_act_191 : decode cX7_act 191 = .ok (.iconst 1, 1) := by decide +kernel
theorem dX7_act_192 : decode cX7_act 192 = .ok (.goto 4, 3) := by decide +kernel
theorem dX7_act_195 : decode cX7_act 195 = .ok (.iconst 0, 1) := by decide +kernel
theorem dX7_act_196 : decode cX7_act 196 = .ok (.istore 4, 2) := by decide +kernel
theorem dX7_act_198 : decode cX7_act 198 = .ok (.aload_n 0, 1) := by decide +kernel
theorem dX7_act_199 : decode cX7_act 199 = .ok (.getfield 28, 3) := by decide +kernel
theorem dX7_act_202 : decode cX7_act 202 = .ok (.iload_n 3, 1) := by decide +kernel
theorem dX7_act_203 : decode cX7_act 203 = .ok (.iload 4, 2) := by decide +kernel
theorem dX7_act_205 : decode cX7_act 205 = .ok (.ifCond .eq 12, 3) := by decide +kernel
theorem dX7_act_208 : decode cX7_act 208 = .ok (.aload_n 0, 1) := by decide +kernel
theorem dX7_act_209 : decode cX7_act 209 = .ok (.getfield 58, 3) := by decide +kernel
theorem dX7_act_212 : decode cX7_act 212 = .ok (.iload_n 2, 1) := by decide +kernel
theorem dX7_act_213 : decode cX7_act 213 = .ok (.iaload, 1) := by decide +kernel
theorem dX7_act_214 : decode cX7_act 214 = .ok (.goto 9, 3) := by decide +kernel
theorem dX7_act_217 : decode cX7_act 217 = .ok (.aload_n 0, 1) := by decide +kernel
theorem dX7_act_218 : decode cX7_act 218 = .ok (.getfield 28, 3) := by decide +kernel
theorem dX7_act_221 : decode cX7_act 221 = .ok (.iload_n 3, 1) := by decide +kernel
theorem dX7_act_222 : decode cX7_act 222 = .ok (.iaload, 1) := by decide +kernel
theorem dX7_act_223 : decode cX7_act 223 = .ok (.iastore, 1) := by decide +kernel
theorem dX7_act_224 : decode cX7_act 224 = .ok (.aload_n 0, 1) := by decide +kernel
theorem dX7_act_225 : decode cX7_act 225 = .ok (.getfield 58, 3) := by decide +kernel
theorem dX7_act_228 : decode cX7_act 228 = .ok (.iload_n 2, 1) := by decide +kernel
theorem dX7_act_229 : decode cX7_act 229 = .ok (.iload 4, 2) := by decide +kernel
theorem dX7_act_231 : decode cX7_act 231 = .ok (.ifCond .eq 7, 3) := by decide +kernel
theorem dX7_act_234 : decode cX7_act 234 = .ok (.iconst 1, 1) := by decide +kernel
theorem dX7_act_235 : decode cX7_act 235 = .ok (.goto 4, 3) := by decide +kernel
theorem dX7_act_238 : decode cX7_act 238 = .ok (.iconst 0, 1) := by decide +kernel
theorem dX7_act_239 : decode cX7_act 239 = .ok (.iastore, 1) := by decide +kernel
theorem dX7_act_240 : decode cX7_act 240 = .ok (.goto 54, 3) := by decide +kernel
theorem dX7_act_243 : decode cX7_act 243 = .ok (.aload_n 0, 1) := by decide +kernel
theorem dX7_act_244 : decode cX7_act 244 = .ok (.getfield 28, 3) := by decide +kernel
theorem dX7_act_247 : decode cX7_act 247 = .ok (.iload_n 3, 1) := by decide +kernel
theorem dX7_act_248 : decode cX7_act 248 = .ok (.iaload, 1) := by decide +kernel
theorem dX7_act_249 : decode cX7_act 249 = .ok (.istore 5, 2) := by decide +kernel
theorem dX7_act_251 : decode cX7_act 251 = .ok (.aload_n 0, 1) := by decide +kernel
theorem dX7_act_252 : decode cX7_act 252 = .ok (.getfield 28, 3) := by decide +kernel
theorem dX7_act_255 : decode cX7_act 255 = .ok (.iload_n 3, 1) := by decide +kernel
theorem dX7_act_256 : decode cX7_act 256 = .ok (.aload_n 0, 1) := by decide +kernel
theorem dX7_act_257 : decode cX7_act 257 = .ok (.getfield 58, 3) := by decide +kernel
theorem dX7_act_260 : decode cX7_act 260 = .ok (.iload_n 2, 1) := by decide +kernel
theorem dX7_act_261 : decode cX7_act 261 = .ok (.iaload, 1) := by decide +kernel
theorem dX7_act_262 : decode cX7_act 262 = .ok (.iastore, 1) := by decide +kernel
theorem dX7_act_263 : decode cX7_act 263 = .ok (.aload_n 0, 1) := by decide +kernel
theorem dX7_act_264 : decode cX7_act 264 = .ok (.getfield 58, 3) := by decide +kernel
theorem dX7_act_267 : decode cX7_act 267 = .ok (.iload_n 2, 1) := by decide +kernel
theorem dX7_act_268 : decode cX7_act 268 = .ok (.iload 5, 2) := by decide +kernel
theorem dX7_act_270 : decode cX7_act 270 = .ok (.sipush 256, 3) := by decide +kernel
theorem dX7_act_273 : decode cX7_act 273 = .ok (.irem, 1) := by decide +kernel
theorem dX7_act_274 : decode cX7_act 274 = .ok (.iastore, 1) := by decide +kernel
theorem dX7_act_275 : decode cX7_act 275 = .ok (.goto 19, 3) := by decide +kernel
theorem dX7_act_278 : decode cX7_act 278 = .ok (.aload_n 0, 1) := by decide +kernel
theorem dX7_act_279 : decode cX7_act 279 = .ok (.iconst 1, 1) := by decide +kernel
theorem dX7_act_280 : decode cX7_act 280 = .ok (.putfield 148, 3) := by decide +kernel
theorem dX7_act_283 : decode cX7_act 283 = .ok (.goto 11, 3) := by decide +kernel
theorem dX7_act_286 : decode cX7_act 286 = .ok (.aload_n 0, 1) := by decide +kernel
theorem dX7_act_287 : decode cX7_act 287 = .ok (.iconst 1, 1) := by decide +kernel
theorem dX7_act_288 : decode cX7_act 288 = .ok (.putfield 152, 3) := by decide +kernel
theorem dX7_act_291 : decode cX7_act 291 = .ok (.goto 3, 3) := by decide +kernel
theorem dX7_act_294 : decode cX7_act 294 = .ok (.return_, 1) := by decide +kernel
theorem dX7_round_0 : decode cX7_round 0 = .ok (.iconst 0, 1) := by decide +kernel
theorem dX7_round_1 : decode cX7_round 1 = .ok (.istore_n 1, 1) := by decide +kernel
theorem dX7_round_2 : decode cX7_round 2 = .ok (.iload_n 1, 1) := by decide +kernel
theorem dX7_round_3 : decode cX7_round 3 = .ok (.bipush 8, 2) := by decide +kernel
theorem dX7_round_5 : decode cX7_round 5 = .ok (.if_icmp .ge 25, 3) := by decide +kernel
theorem dX7_round_8 : decode cX7_round 8 = .ok (.aload_n 0, 1) := by decide +kernel
theorem dX7_round_9 : decode cX7_round 9 = .ok (.getfield 61, 3) := by decide +kernel
theorem dX7_round_12 : decode cX7_round 12 = .ok (.bipush 8, 2) := by decide +kernel
theorem dX7_round_14 : decode cX7_round 14 = .ok (.aload_n 0, 1) := by decide +kernel
theorem dX7_round_15 : decode cX7_round 15 = .ok (.getfield 155, 3) := by decide +kernel
theorem dX7_round_18 : decode cX7_round 18 = .ok (.imul, 1) := by decide +kernel
theorem dX7_round_19 : decode cX7_round 19 = .ok (.iload_n 1, 1) := by decide +kernel
theorem dX7_round_20 : decode cX7_round 20 = .ok (.iadd, 1) := by decide +kernel
theorem dX7_round_21 : decode cX7_round 21 = .ok (.bipush (-6), 2) := by decide +kernel
theorem dX7_round_23 : decode cX7_round 23 = .ok (.iastore, 1) := by decide +kernel
theorem dX7_round_24 : decode cX7_round 24 = .ok (.iinc 1 1, 3) := by decide +kernel
theorem dX7_round_27 : decode cX7_round 27 = .ok (.goto (-25), 3) := by decide +kernel
theorem dX7_round_30 : decode cX7_round 30 = .ok (.iconst 0, 1) := by decide +kernel
theorem dX7_round_31 : decode cX7_round 31 = .ok (.istore_n 1, 1) := by decide +kernel
theorem dX7_round_32 : decode cX7_round 32 = .ok (.iload_n 1, 1) := by decide +kernel
theorem dX7_round_33 : decode cX7_round 33 = .ok (.aload_n 0, 1) := by decide +kernel
theorem dX7_round_34 : decode cX7_round 34 = .ok (.getfield 71, 3) := by decide +kernel
theorem dX7_round_37 : decode cX7_round 37 = .ok (.if_icmp .ge 66, 3) := by decide +kernel
theorem dX7_round_40 : decode cX7_round 40 = .ok (.aload_n 0, 1) := by decide +kernel
theorem dX7_round_41 : decode cX7_round 41 = .ok (.iload_n 1, 1) := by decide +kernel
theorem dX7_round_42 : decode cX7_round 42 = .ok (.aload_n 0, 1) := by decide +kernel
theorem dX7_round_43 : decode cX7_round 43 = .ok (.getfield 58, 3) := by decide +kernel
theorem dX7_round_46 : decode cX7_round 46 = .ok (.aload_n 0, 1) := by decide +kernel
theorem dX7_round_47 : decode cX7_round 47 = .ok (.getfield 7, 3) := by decide +kernel
theorem dX7_round_50 : decode cX7_round 50 = .ok (.iload_n 1, 1) := by decide +kernel
theorem dX7_round_51 : decode cX7_round 51 = .ok (.iaload, 1) := by decide +kernel
theorem dX7_round_52 : decode cX7_round 52 = .ok (.iaload, 1) := by decide +kernel
theorem dX7_round_53 : decode cX7_round 53 = .ok (.invokevirtual 107, 3) := by decide +kernel
theorem dX7_round_56 : decode cX7_round 56 = .ok (.istore_n 2, 1) := by decide +kernel
theorem dX7_round_57 : decode cX7_round 57 = .ok (.aload_n 0, 1) := by decide +kernel
theorem dX7_round_58 : decode cX7_round 58 = .ok (.getfield 61, 3) := by decide +kernel
theorem dX7_round_61 : decode cX7_round 61 = .ok (.bipush 8, 2) := by decide +kernel
theorem dX7_round_63 : decode cX7_round 63 = .ok (.aload_n 0, 1) := by decide +kernel
theorem dX7_round_64 : decode cX7_round 64 = .ok (.getfield 155, 3) := by decide +kernel
theorem dX7_round_67 : decode cX7_round 67 = .ok (.imul, 1) := by decide +kernel
theorem dX7_round_68 : decode cX7_round 68 = .ok (.iload_n 1, 1) := by decide +kernel
theorem dX7_round_69 : decode cX7_round 69 = .ok (.iadd, 1) := by decide +kernel
theorem dX7_round_70 : decode cX7_round 70 = .ok (.iload_n 2, 1) := by decide +kernel
theorem dX7_round_71 : decode cX7_round 71 = .ok (.ifCond .ge 7, 3) := by decide +kernel
theorem dX7_round_74 : decode cX7_round 74 = .ok (.iconst 4, 1) := by decide +kernel
theorem dX7_round_75 : decode cX7_round 75 = .ok (.goto 4, 3) := by decide +kernel
theorem dX7_round_78 : decode cX7_round 78 = .ok (.iload_n 2, 1) := by decide +kernel
theorem dX7_round_79 : decode cX7_round 79 = .ok (.iastore, 1) := by decide +kernel
theorem dX7_round_80 : decode cX7_round 80 = .ok (.aload_n 0, 1) := by decide +kernel
theorem dX7_round_81 : decode cX7_round 81 = .ok (.iconst 5, 1) := by decide +kernel
theorem dX7_round_82 : decode cX7_round 82 = .ok (.iload_n 1, 1) := by decide +kernel
theorem dX7_round_83 : decode cX7_round 83 = .ok (.imul, 1) := by decide +kernel
theorem dX7_round_84 : decode cX7_round 84 = .ok (.iload_n 2, 1) := by decide +kernel
theorem dX7_round_85 : decode cX7_round 85 = .ok (.ifCond .ge 7, 3) := by decide +kernel
theorem dX7_round_88 : decode cX7_round 88 = .ok (.iconst 4, 1) := by decide +kernel
theorem dX7_round_89 : decode cX7_round 89 = .ok (.goto 4, 3) := by decide +kernel
theorem dX7_round_92 : decode cX7_round 92 = .ok (.iload_n 2, 1) := by decide +kernel
theorem dX7_round_93 : decode cX7_round 93 = .ok (.iadd, 1) := by decide +kernel
theorem dX7_round_94 : decode cX7_round 94 = .ok (.invokevirtual 158, 3) := by decide +kernel
theorem dX7_round_97 : decode cX7_round 97 = .ok (.iinc 1 1, 3) := by decide +kernel
theorem dX7_round_100 : decode cX7_round 100 = .ok (.goto (-68), 3) := by decide +kernel
theorem dX7_round_103 : decode cX7_round 103 = .ok (.aload_n 0, 1) := by decide +kernel
theorem dX7_round_104 : decode cX7_round 104 = .ok (.dup, 1) := by decide +kernel
theorem dX7_round_105 : decode cX7_round 105 = .ok (.getfield 155, 3) := by decide +kernel
theorem dX7_round_108 : decode cX7_round 108 = .ok (.iconst 1, 1) := by decide +kernel
theorem dX7_round_109 : decode cX7_round 109 = .ok (.iadd, 1) := by decide +kernel
theorem dX7_round_110 : decode cX7_round 110 = .ok (.putfield 155, 3) := by decide +kernel
theorem dX7_round_113 : decode cX7_round 113 = .ok (.aload_n 0, 1) := by decide +kernel
theorem dX7_round_114 : decode cX7_round 114 = .ok (.dup, 1) := by decide +kernel
theorem dX7_round_115 : decode cX7_round 115 = .ok (.getfield 162, 3) := by decide +kernel
theorem dX7_round_118 : decode cX7_round 118 = .ok (.iconst 1, 1) := by decide +kernel
theorem dX7_round_119 : decode cX7_round 119 = .ok (.iadd, 1) := by decide +kernel
theorem dX7_round_120 : decode cX7_round 120 = .ok (.putfield 162, 3) := by decide +kernel
theorem dX7_round_123 : decode cX7_round 123 = .ok (.return_, 1) := by decide +kernel
theorem dX7_run_0 : decode cX7_run 0 = .ok (.aload_n 0, 1) := by decide +kernel
theorem dX7_run_1 : decode cX7_run 1 = .ok (.invokevirtual 136, 3) := by decide +kernel
theorem dX7_run_4 : decode cX7_run 4 = .ok (.ifCond .ne 6, 3) := by decide +kernel
theorem dX7_run_7 : decode cX7_run 7 = .ok (.bipush (-3), 2) := by decide +kernel
theorem dX7_run_9 : decode cX7_run 9 = .ok (.ireturn, 1) := by decide +kernel
theorem dX7_run_10 : decode cX7_run 10 = .ok (.iconst 0, 1) := by decide +kernel
theorem dX7_run_11 : decode cX7_run 11 = .ok (.istore_n 1, 1) := by decide +kernel
theorem dX7_run_12 : decode cX7_run 12 = .ok (.iload_n 1, 1) := by decide +kernel
theorem dX7_run_13 : decode cX7_run 13 = .ok (.bipush 6, 2) := by decide +kernel
theorem dX7_run_15 : decode cX7_run 15 = .ok (.if_icmp .ge 21, 3) := by decide +kernel
theorem dX7_run_18 : decode cX7_run 18 = .ok (.aload_n 0, 1) := by decide +kernel
theorem dX7_run_19 : decode cX7_run 19 = .ok (.getfield 58, 3) := by decide +kernel
theorem dX7_run_22 : decode cX7_run 22 = .ok (.iload_n 1, 1) := by decide +kernel
theorem dX7_run_23 : decode cX7_run 23 = .ok (.aload_n 0, 1) := by decide +kernel
theorem dX7_run_24 : decode cX7_run 24 = .ok (.getfield 31, 3) := by decide +kernel
theorem dX7_run_27 : decode cX7_run 27 = .ok (.iload_n 1, 1) := by decide +kernel
theorem dX7_run_28 : decode cX7_run 28 = .ok (.iaload, 1) := by decide +kernel
theorem dX7_run_29 : decode cX7_run 29 = .ok (.iastore, 1) := by decide +kernel
theorem dX7_run_30 : decode cX7_run 30 = .ok (.iinc 1 1, 3) := by decide +kernel
theorem dX7_run_33 : decode cX7_run 33 = .ok (.goto (-21), 3) := by decide +kernel
theorem dX7_run_36 : decode cX7_run 36 = .ok (.aload_n 0, 1) := by decide +kernel
theorem dX7_run_37 : decode cX7_run 37 = .ok (.iconst 0, 1) := by decide +kernel
theorem dX7_run_38 : decode cX7_run 38 = .ok (.putfield 148, 3) := by decide +kernel
theorem dX7_run_41 : decode cX7_run 41 = .ok (.aload_n 0, 1) := by decide +kernel
theorem dX7_run_42 : decode cX7_run 42 = .ok (.iconst 1, 1) := by decide +kernel
theorem dX7_run_43 : decode cX7_run 43 = .ok (.putfield 152, 3) := by decide +kernel
theorem dX7_run_46 : decode cX7_run 46 = .ok (.aload_n 0, 1) := by decide +kernel
theorem dX7_run_47 : decode cX7_run 47 = .ok (.iconst 0, 1) := by decide +kernel
theorem dX7_run_48 : decode cX7_run 48 = .ok (.putfield 155, 3) := by decide +kernel
theorem dX7_run_51 : decode cX7_run 51 = .ok (.aload_n 0, 1) := by decide +kernel
theorem dX7_run_52 : decode cX7_run 52 = .ok (.getfield 152, 3) := by decide +kernel
theorem dX7_run_55 : decode cX7_run 55 = .ok (.ifCond .eq 35, 3) := by decide +kernel
theorem dX7_run_58 : decode cX7_run 58 = .ok (.aload_n 0, 1) := by decide +kernel
theorem dX7_run_59 : decode cX7_run 59 = .ok (.getfield 148, 3) := by decide +kernel
theorem dX7_run_62 : decode cX7_run 62 = .ok (.ifCond .ne 28, 3) := by decide +kernel
theorem dX7_run_65 : decode cX7_run 65 = .ok (.aload_n 0, 1) := by decide +kernel
theorem dX7_run_66 : decode cX7_run 66 = .ok (.getfield 155, 3) := by decide +kernel
theorem dX7_run_69 : decode cX7_run 69 = .ok (.aload_n 0, 1) := by decide +kernel
theorem dX7_run_70 : decode cX7_run 70 = .ok (.getfield 34, 3) := by decide +kernel
theorem dX7_run_73 : decode cX7_run 73 = .ok (.iconst 3, 1) := by decide +kernel
theorem dX7_run_74 : decode cX7_run 74 = .ok (.iaload, 1) := by decide +kernel
theorem dX7_run_75 : decode cX7_run 75 = .ok (.if_icmp .ge 15, 3) := by decide +kernel
theorem dX7_run_78 : decode cX7_run 78 = .ok (.aload_n 0, 1) := by decide +kernel
theorem dX7_run_79 : decode cX7_run 79 = .ok (.iconst 0, 1) := by decide +kernel
theorem dX7_run_80 : decode cX7_run 80 = .ok (.putfield 152, 3) := by decide +kernel
theorem dX7_run_83 : decode cX7_run 83 = .ok (.aload_n 0, 1) := by decide +kernel
theorem dX7_run_84 : decode cX7_run 84 = .ok (.invokevirtual 165, 3) := by decide +kernel
theorem dX7_run_87 : decode cX7_run 87 = .ok (.goto (-36), 3) := by decide +kernel
theorem dX7_run_90 : decode cX7_run 90 = .ok (.aload_n 0, 1) := by decide +kernel
theorem dX7_run_91 : decode cX7_run 91 = .ok (.dup, 1) := by decide +kernel
theorem dX7_run_92 : decode cX7_run 92 = .ok (.getfield 168, 3) := by decide +kernel
theorem dX7_run_95 : decode cX7_run 95 = .ok (.iconst 1, 1) := by decide +kernel
theorem dX7_run_96 : decode cX7_run 96 = .ok (.iadd, 1) := by decide +kernel
theorem dX7_run_97 : decode cX7_run 97 = .ok (.putfield 168, 3) := by decide +kernel
theorem dX7_run_100 : decode cX7_run 100 = .ok (.aload_n 0, 1) := by decide +kernel
theorem dX7_run_101 : decode cX7_run 101 = .ok (.dup, 1) := by decide +kernel
theorem dX7_run_102 : decode cX7_run 102 = .ok (.getfield 171, 3) := by decide +kernel
theorem dX7_run_105 : decode cX7_run 105 = .ok (.aload_n 0, 1) := by decide +kernel
theorem dX7_run_106 : decode cX7_run 106 = .ok (.getfield 148, 3) := by decide +kernel
theorem dX7_run_109 : decode cX7_run 109 = .ok (.ifCond .eq 7, 3) := by decide +kernel
theorem dX7_run_112 : decode cX7_run 112 = .ok (.iconst 1, 1) := by decide +kernel
theorem dX7_run_113 : decode cX7_run 113 = .ok (.goto 4, 3) := by decide +kernel
theorem dX7_run_116 : decode cX7_run 116 = .ok (.iconst 0, 1) := by decide +kernel
theorem dX7_run_117 : decode cX7_run 117 = .ok (.iadd, 1) := by decide +kernel
theorem dX7_run_118 : decode cX7_run 118 = .ok (.putfield 171, 3) := by decide +kernel
theorem dX7_run_121 : decode cX7_run 121 = .ok (.aload_n 0, 1) := by decide +kernel
theorem dX7_run_122 : decode cX7_run 122 = .ok (.getfield 148, 3) := by decide +kernel
theorem dX7_run_125 : decode cX7_run 125 = .ok (.ifCond .eq 7, 3) := by decide +kernel
theorem dX7_run_128 : decode cX7_run 128 = .ok (.iconst 1, 1) := by decide +kernel
theorem dX7_run_129 : decode cX7_run 129 = .ok (.goto 15, 3) := by decide +kernel
theorem dX7_run_132 : decode cX7_run 132 = .ok (.aload_n 0, 1) := by decide +kernel
theorem dX7_run_133 : decode cX7_run 133 = .ok (.getfield 152, 3) := by decide +kernel
theorem dX7_run_136 : decode cX7_run 136 = .ok (.ifCond .eq 7, 3) := by decide +kernel
theorem dX7_run_139 : decode cX7_run 139 = .ok (.iconst 2, 1) := by decide +kernel
theorem dX7_run_140 : decode cX7_run 140 = .ok (.goto 4, 3) := by decide +kernel
theorem dX7_run_143 : decode cX7_run 143 = .ok (.iconst 0, 1) := by decide +kernel
theorem dX7_run_144 : decode cX7_run 144 = .ok (.ireturn, 1) := by decide +kernel
theorem dX7_out_0 : decode cX7_out 0 = .ok (.iload_n 1, 1) := by decide +kernel
theorem dX7_out_1 : decode cX7_out 1 = .ok (.iconst 0, 1) := by decide +kernel
theorem dX7_out_2 : decode cX7_out 2 = .ok (.bipush 6, 2) := by decide +kernel
theorem dX7_out_4 : decode cX7_out 4 = .ok (.invokestatic 75, 3) := by decide +kernel
theorem dX7_out_7 : decode cX7_out 7 = .ok (.ifCond .ne 6, 3) := by decide +kernel
theorem dX7_out_10 : decode cX7_out 10 = .ok (.bipush (-2), 2) := by decide +kernel
theorem dX7_out_12 : decode cX7_out 12 = .ok (.ireturn, 1) := by decide +kernel
theorem dX7_out_13 : decode cX7_out 13 = .ok (.aload_n 0, 1) := by decide +kernel
theorem dX7_out_14 : decode cX7_out 14 = .ok (.getfield 168, 3) := by decide +kernel
theorem dX7_out_17 : decode cX7_out 17 = .ok (.ifCond .ne 8, 3) := by decide +kernel
theorem dX7_out_20 : decode cX7_out 20 = .ok (.bipush (-6), 2) := by decide +kernel
theorem dX7_out_22 : decode cX7_out 22 = .ok (.goto 22, 3) := by decide +kernel
theorem dX7_out_25 : decode cX7_out 25 = .ok (.iload_n 1, 1) := by decide +kernel
theorem dX7_out_26 : decode cX7_out 26 = .ok (.bipush 6, 2) := by decide +kernel
theorem dX7_out_28 : decode cX7_out 28 = .ok (.if_icmp .ne 10, 3) := by decide +kernel
theorem dX7_out_31 : decode cX7_out 31 = .ok (.aload_n 0, 1) := by decide +kernel
theorem dX7_out_32 : decode cX7_out 32 = .ok (.getfield 155, 3) := by decide +kernel
theorem dX7_out_35 : decode cX7_out 35 = .ok (.goto 9, 3) := by decide +kernel
theorem dX7_out_38 : decode cX7_out 38 = .ok (.aload_n 0, 1) := by decide +kernel
theorem dX7_out_39 : decode cX7_out 39 = .ok (.getfield 58, 3) := by decide +kernel
theorem dX7_out_42 : decode cX7_out 42 = .ok (.iload_n 1, 1) := by decide +kernel
theorem dX7_out_43 : decode cX7_out 43 = .ok (.iaload, 1) := by decide +kernel
theorem dX7_out_44 : decode cX7_out 44 = .ok (.ireturn, 1) := by decide +kernel
theorem dX7_took_0 : decode cX7_took 0 = .ok (.iload_n 1, 1) := by decide +kernel
theorem dX7_took_1 : decode cX7_took 1 = .ok (.iconst 0, 1) := by decide +kernel
theorem dX7_took_2 : decode cX7_took 2 = .ok (.bipush 7, 2) := by decide +kernel
theorem dX7_took_4 : decode cX7_took 4 = .ok (.invokestatic 75, 3) := by decide +kernel
theorem dX7_took_7 : decode cX7_took 7 = .ok (.ifCond .eq 12, 3) := by decide +kernel
theorem dX7_took_10 : decode cX7_took 10 = .ok (.iload_n 2, 1) := by decide +kernel
theorem dX7_took_11 : decode cX7_took 11 = .ok (.iconst 0, 1) := by decide +kernel
theorem dX7_took_12 : decode cX7_took 12 = .ok (.iconst 3, 1) := by decide +kernel
theorem dX7_took_13 : decode cX7_took 13 = .ok (.invokestatic 75, 3) := by decide +kernel
theorem dX7_took_16 : decode cX7_took 16 = .ok (.ifCond .ne 6, 3) := by decide +kernel
theorem dX7_took_19 : decode cX7_took 19 = .ok (.bipush (-2), 2) := by decide +kernel
theorem dX7_took_21 : decode cX7_took 21 = .ok (.ireturn, 1) := by decide +kernel
theorem dX7_took_22 : decode cX7_took 22 = .ok (.iload_n 2, 1) := by decide +kernel
theorem dX7_took_23 : decode cX7_took 23 = .ok (.aload_n 0, 1) := by decide +kernel
theorem dX7_took_24 : decode cX7_took 24 = .ok (.getfield 155, 3) := by decide +kernel
theorem dX7_took_27 : decode cX7_took 27 = .ok (.if_icmp .ge 17, 3) := by decide +kernel
theorem dX7_took_30 : decode cX7_took 30 = .ok (.aload_n 0, 1) := by decide +kernel
theorem dX7_took_31 : decode cX7_took 31 = .ok (.getfield 61, 3) := by decide +kernel
theorem dX7_took_34 : decode cX7_took 34 = .ok (.bipush 8, 2) := by decide +kernel
theorem dX7_took_36 : decode cX7_took 36 = .ok (.iload_n 2, 1) := by decide +kernel
theorem dX7_took_37 : decode cX7_took 37 = .ok (.imul, 1) := by decide +kernel
theorem dX7_took_38 : decode cX7_took 38 = .ok (.iload_n 1, 1) := by decide +kernel
theorem dX7_took_39 : decode cX7_took 39 = .ok (.iadd, 1) := by decide +kernel
theorem dX7_took_40 : decode cX7_took 40 = .ok (.iaload, 1) := by decide +kernel
theorem dX7_took_41 : decode cX7_took 41 = .ok (.goto 5, 3) := by decide +kernel
theorem dX7_took_44 : decode cX7_took 44 = .ok (.bipush (-6), 2) := by decide +kernel
theorem dX7_took_46 : decode cX7_took 46 = .ok (.ireturn, 1) := by decide +kernel
theorem dX7_image_0 : decode cX7_image 0 = .ok (.iload_n 1, 1) := by decide +kernel
theorem dX7_image_1 : decode cX7_image 1 = .ok (.iconst 0, 1) := by decide +kernel
theorem dX7_image_2 : decode cX7_image 2 = .ok (.iconst 1, 1) := by decide +kernel
theorem dX7_image_3 : decode cX7_image 3 = .ok (.invokestatic 75, 3) := by decide +kernel
theorem dX7_image_6 : decode cX7_image 6 = .ok (.ifCond .ne 6, 3) := by decide +kernel
theorem dX7_image_9 : decode cX7_image 9 = .ok (.bipush (-2), 2) := by decide +kernel
theorem dX7_image_11 : decode cX7_image 11 = .ok (.ireturn, 1) := by decide +kernel
theorem dX7_image_12 : decode cX7_image 12 = .ok (.sipush 191, 3) := by decide +kernel
theorem dX7_image_15 : decode cX7_image 15 = .ok (.iload_n 1, 1) := by decide +kernel
theorem dX7_image_16 : decode cX7_image 16 = .ok (.imul, 1) := by decide +kernel
theorem dX7_image_17 : decode cX7_image 17 = .ok (.istore_n 2, 1) := by decide +kernel
theorem dX7_image_18 : decode cX7_image 18 = .ok (.iconst 0, 1) := by decide +kernel
theorem dX7_image_19 : decode cX7_image 19 = .ok (.istore_n 3, 1) := by decide +kernel
theorem dX7_image_20 : decode cX7_image 20 = .ok (.iload_n 3, 1) := by decide +kernel
theorem dX7_image_21 : decode cX7_image 21 = .ok (.bipush 8, 2) := by decide +kernel
theorem dX7_image_23 : decode cX7_image 23 = .ok (.if_icmp .ge 40, 3) := by decide +kernel
theorem dX7_image_26 : decode cX7_image 26 = .ok (.aload_n 0, 1) := by decide +kernel
theorem dX7_image_27 : decode cX7_image 27 = .ok (.getfield 64, 3) := by decide +kernel
theorem dX7_image_30 : decode cX7_image 30 = .ok (.iload_n 2, 1) := by decide +kernel
theorem dX7_image_31 : decode cX7_image 31 = .ok (.iload_n 3, 1) := by decide +kernel
theorem dX7_image_32 : decode cX7_image 32 = .ok (.iadd, 1) := by decide +kernel
theorem dX7_image_33 : decode cX7_image 33 = .ok (.aload_n 0, 1) := by decide +kernel
theorem dX7_image_34 : decode cX7_image 34 = .ok (.getfield 7, 3) := by decide +kernel
theorem dX7_image_37 : decode cX7_image 37 = .ok (.iload_n 3, 1) := by decide +kernel
theorem dX7_image_38 : decode cX7_image 38 = .ok (.iaload, 1) := by decide +kernel
theorem dX7_image_39 : decode cX7_image 39 = .ok (.iastore, 1) := by decide +kernel
theorem dX7_image_40 : decode cX7_image 40 = .ok (.aload_n 0, 1) := by decide +kernel
theorem dX7_image_41 : decode cX7_image 41 = .ok (.getfield 64, 3) := by decide +kernel
theorem dX7_image_44 : decode cX7_image 44 = .ok (.iload_n 2, 1) := by decide +kernel
theorem dX7_image_45 : decode cX7_image 45 = .ok (.bipush 8, 2) := by decide +kernel
theorem dX7_image_47 : decode cX7_image 47 = .ok (.iadd, 1) := by decide +kernel
theorem dX7_image_48 : decode cX7_image 48 = .ok (.iload_n 3, 1) := by decide +kernel
theorem dX7_image_49 : decode cX7_image 49 = .ok (.iadd, 1) := by decide +kernel
theorem dX7_image_50 : decode cX7_image 50 = .ok (.aload_n 0, 1) := by decide +kernel
theorem dX7_image_51 : decode cX7_image 51 = .ok (.getfield 13, 3) := by decide +kernel
theorem dX7_image_54 : decode cX7_image 54 = .ok (.iload_n 3, 1) := by decide +kernel
theorem dX7_image_55 : decode cX7_image 55 = .ok (.iaload, 1) := by decide +kernel
theorem dX7_image_56 : decode cX7_image 56 = .ok (.iastore, 1) := by decide +kernel
theorem dX7_image_57 : decode cX7_image 57 = .ok (.iinc 3 1, 3) := by decide +kernel
theorem dX7_image_60 : decode cX7_image 60 = .ok (.goto (-40), 3) := by decide +kernel
theorem dX7_image_63 : decode cX7_image 63 = .ok (.iconst 0, 1) := by decide +kernel
theorem dX7_image_64 : decode cX7_image 64 = .ok (.istore_n 3, 1) := by decide +kernel
theorem dX7_image_65 : decode cX7_image 65 = .ok (.iload_n 3, 1) := by decide +kernel
theorem dX7_image_66 : decode cX7_image 66 = .ok (.bipush 40, 2) := by decide +kernel
theorem dX7_image_68 : decode cX7_image 68 = .ok (.if_icmp .ge 78, 3) := by decide +kernel
theorem dX7_image_71 : decode cX7_image 71 = .ok (.aload_n 0, 1) := by decide +kernel
theorem dX7_image_72 : decode cX7_image 72 = .ok (.getfield 64, 3) := by decide +kernel
theorem dX7_image_75 : decode cX7_image 75 = .ok (.iload_n 2, 1) := by decide +kernel
theorem dX7_image_76 : decode cX7_image 76 = .ok (.bipush 16, 2) := by decide +kernel
theorem dX7_image_78 : decode cX7_image 78 = .ok (.iadd, 1) := by decide +kernel
theorem dX7_image_79 : decode cX7_image 79 = .ok (.iload_n 3, 1) := by decide +kernel
theorem dX7_image_80 : decode cX7_image 80 = .ok (.iadd, 1) := by decide +kernel
theorem dX7_image_81 : decode cX7_image 81 = .ok (.aload_n 0, 1) := by decide +kernel
theorem dX7_image_82 : decode cX7_image 82 = .ok (.getfield 16, 3) := by decide +kernel
theorem dX7_image_85 : decode cX7_image 85 = .ok (.iload_n 3, 1) := by decide +kernel
theorem dX7_image_86 : decode cX7_image 86 = .ok (.iaload, 1) := by decide +kernel
theorem dX7_image_87 : decode cX7_image 87 = .ok (.iastore, 1) := by decide +kernel
theorem dX7_image_88 : decode cX7_image 88 = .ok (.aload_n 0, 1) := by decide +kernel
theorem dX7_image_89 : decode cX7_image 89 = .ok (.getfield 64, 3) := by decide +kernel
theorem dX7_image_92 : decode cX7_image 92 = .ok (.iload_n 2, 1) := by decide +kernel
theorem dX7_image_93 : decode cX7_image 93 = .ok (.bipush 56, 2) := by decide +kernel
theorem dX7_image_95 : decode cX7_image 95 = .ok (.iadd, 1) := by decide +kernel
theorem dX7_image_96 : decode cX7_image 96 = .ok (.iload_n 3, 1) := by decide +kernel
theorem dX7_image_97 : decode cX7_image 97 = .ok (.iadd, 1) := by decide +kernel
theorem dX7_image_98 : decode cX7_image 98 = .ok (.aload_n 0, 1) := by decide +kernel
theorem dX7_image_99 : decode cX7_image 99 = .ok (.getfield 19, 3) := by decide +kernel
theorem dX7_image_102 : decode cX7_image 102 = .ok (.iload_n 3, 1) := by decide +kernel
theorem dX7_image_103 : decode cX7_image 103 = .ok (.iaload, 1) := by decide +kernel
theorem dX7_image_104 : decode cX7_image 104 = .ok (.iastore, 1) := by decide +kernel
theorem dX7_image_105 : decode cX7_image 105 = .ok (.aload_n 0, 1) := by decide +kernel
theorem dX7_image_106 : decode cX7_image 106 = .ok (.getfield 64, 3) := by decide +kernel
theorem dX7_image_109 : decode cX7_image 109 = .ok (.iload_n 2, 1) := by decide +kernel
theorem dX7_image_110 : decode cX7_image 110 = .ok (.bipush 96, 2) := by decide +kernel
theorem dX7_image_112 : decode cX7_image 112 = .ok (.iadd, 1) := by decide +kernel
theorem dX7_image_113 : decode cX7_image 113 = .ok (.iload_n 3, 1) := by decide +kernel
theorem dX7_image_114 : decode cX7_image 114 = .ok (.iadd, 1) := by decide +kernel
theorem dX7_image_115 : decode cX7_image 115 = .ok (.aload_n 0, 1) := by decide +kernel
theorem dX7_image_116 : decode cX7_image 116 = .ok (.getfield 22, 3) := by decide +kernel
theorem dX7_image_119 : decode cX7_image 119 = .ok (.iload_n 3, 1) := by decide +kernel
theorem dX7_image_120 : decode cX7_image 120 = .ok (.iaload, 1) := by decide +kernel
theorem dX7_image_121 : decode cX7_image 121 = .ok (.iastore, 1) := by decide +kernel
theorem dX7_image_122 : decode cX7_image 122 = .ok (.aload_n 0, 1) := by decide +kernel
theorem dX7_image_123 : decode cX7_image 123 = .ok (.getfield 64, 3) := by decide +kernel
theorem dX7_image_126 : decode cX7_image 126 = .ok (.iload_n 2, 1) := by decide +kernel
theorem dX7_image_127 : decode cX7_image 127 = .ok (.sipush 136, 3) := by decide +kernel
theorem dX7_image_130 : decode cX7_image 130 = .ok (.iadd, 1) := by decide +kernel
theorem dX7_image_131 : decode cX7_image 131 = .ok (.iload_n 3, 1) := by decide +kernel
theorem dX7_image_132 : decode cX7_image 132 = .ok (.iadd, 1) := by decide +kernel
theorem dX7_image_133 : decode cX7_image 133 = .ok (.aload_n 0, 1) := by decide +kernel
theorem dX7_image_134 : decode cX7_image 134 = .ok (.getfield 25, 3) := by decide +kernel
theorem dX7_image_137 : decode cX7_image 137 = .ok (.iload_n 3, 1) := by decide +kernel
theorem dX7_image_138 : decode cX7_image 138 = .ok (.iaload, 1) := by decide +kernel
theorem dX7_image_139 : decode cX7_image 139 = .ok (.iastore, 1) := by decide +kernel
theorem dX7_image_140 : decode cX7_image 140 = .ok (.iinc 3 1, 3) := by decide +kernel
theorem dX7_image_143 : decode cX7_image 143 = .ok (.goto (-78), 3) := by decide +kernel
theorem dX7_image_146 : decode cX7_image 146 = .ok (.iconst 0, 1) := by decide +kernel
theorem dX7_image_147 : decode cX7_image 147 = .ok (.istore_n 3, 1) := by decide +kernel
theorem dX7_image_148 : decode cX7_image 148 = .ok (.iload_n 3, 1) := by decide +kernel
theorem dX7_image_149 : decode cX7_image 149 = .ok (.iconst 4, 1) := by decide +kernel
theorem dX7_image_150 : decode cX7_image 150 = .ok (.if_icmp .ge 45, 3) := by decide +kernel
theorem dX7_image_153 : decode cX7_image 153 = .ok (.aload_n 0, 1) := by decide +kernel
theorem dX7_image_154 : decode cX7_image 154 = .ok (.getfield 64, 3) := by decide +kernel
theorem dX7_image_157 : decode cX7_image 157 = .ok (.iload_n 2, 1) := by decide +kernel
theorem dX7_image_158 : decode cX7_image 158 = .ok (.sipush 176, 3) := by decide +kernel
theorem dX7_image_161 : decode cX7_image 161 = .ok (.iadd, 1) := by decide +kernel
theorem dX7_image_162 : decode cX7_image 162 = .ok (.iload_n 3, 1) := by decide +kernel
theorem dX7_image_163 : decode cX7_image 163 = .ok (.iadd, 1) := by decide +kernel
theorem dX7_image_164 : decode cX7_image 164 = .ok (.aload_n 0, 1) := by decide +kernel
theorem dX7_image_165 : decode cX7_image 165 = .ok (.getfield 28, 3) := by decide +kernel
theorem dX7_image_168 : decode cX7_image 168 = .ok (.iload_n 3, 1) := by decide +kernel
theorem dX7_image_169 : decode cX7_image 169 = .ok (.iaload, 1) := by decide +kernel
theorem dX7_image_170 : decode cX7_image 170 = .ok (.iastore, 1) := by decide +kernel
theorem dX7_image_171 : decode cX7_image 171 = .ok (.aload_n 0, 1) := by decide +kernel
theorem dX7_image_172 : decode cX7_image 172 = .ok (.getfield 64, 3) := by decide +kernel
theorem dX7_image_175 : decode cX7_image 175 = .ok (.iload_n 2, 1) := by decide +kernel
theorem dX7_image_176 : decode cX7_image 176 = .ok (.sipush 180, 3) := by decide +kernel
theorem dX7_image_179 : decode cX7_image 179 = .ok (.iadd, 1) := by decide +kernel
theorem dX7_image_180 : decode cX7_image 180 = .ok (.iload_n 3, 1) := by decide +kernel
theorem dX7_image_181 : decode cX7_image 181 = .ok (.iadd, 1) := by decide +kernel
theorem dX7_image_182 : decode cX7_image 182 = .ok (.aload_n 0, 1) := by decide +kernel
theorem dX7_image_183 : decode cX7_image 183 = .ok (.getfield 34, 3) := by decide +kernel
theorem dX7_image_186 : decode cX7_image 186 = .ok (.iload_n 3, 1) := by decide +kernel
theorem dX7_image_187 : decode cX7_image 187 = .ok (.iaload, 1) := by decide +kernel
theorem dX7_image_188 : decode cX7_image 188 = .ok (.iastore, 1) := by decide +kernel
theorem dX7_image_189 : decode cX7_image 189 = .ok (.iinc 3 1, 3) := by decide +kernel
theorem dX7_image_192 : decode cX7_image 192 = .ok (.goto (-44), 3) := by decide +kernel
theorem dX7_image_195 : decode cX7_image 195 = .ok (.iconst 0, 1) := by decide +kernel
theorem dX7_image_196 : decode cX7_image 196 = .ok (.istore_n 3, 1) := by decide +kernel
theorem dX7_image_197 : decode cX7_image 197 = .ok (.iload_n 3, 1) := by decide +kernel
theorem dX7_image_198 : decode cX7_image 198 = .ok (.bipush 6, 2) := by decide +kernel
theorem dX7_image_200 : decode cX7_image 200 = .ok (.if_icmp .ge 27, 3) := by decide +kernel
theorem dX7_image_203 : decode cX7_image 203 = .ok (.aload_n 0, 1) := by decide +kernel
theorem dX7_image_204 : decode cX7_image 204 = .ok (.getfield 64, 3) := by decide +kernel
theorem dX7_image_207 : decode cX7_image 207 = .ok (.iload_n 2, 1) := by decide +kernel
theorem dX7_image_208 : decode cX7_image 208 = .ok (.sipush 184, 3) := by decide +kernel
theorem dX7_image_211 : decode cX7_image 211 = .ok (.iadd, 1) := by decide +kernel
theorem dX7_image_212 : decode cX7_image 212 = .ok (.iload_n 3, 1) := by decide +kernel
theorem dX7_image_213 : decode cX7_image 213 = .ok (.iadd, 1) := by decide +kernel
theorem dX7_image_214 : decode cX7_image 214 = .ok (.aload_n 0, 1) := by decide +kernel
theorem dX7_image_215 : decode cX7_image 215 = .ok (.getfield 31, 3) := by decide +kernel
theorem dX7_image_218 : decode cX7_image 218 = .ok (.iload_n 3, 1) := by decide +kernel
theorem dX7_image_219 : decode cX7_image 219 = .ok (.iaload, 1) := by decide +kernel
theorem dX7_image_220 : decode cX7_image 220 = .ok (.iastore, 1) := by decide +kernel
theorem dX7_image_221 : decode cX7_image 221 = .ok (.iinc 3 1, 3) := by decide +kernel
theorem dX7_image_224 : decode cX7_image 224 = .ok (.goto (-27), 3) := by decide +kernel
theorem dX7_image_227 : decode cX7_image 227 = .ok (.aload_n 0, 1) := by decide +kernel
theorem dX7_image_228 : decode cX7_image 228 = .ok (.getfield 64, 3) := by decide +kernel
theorem dX7_image_231 : decode cX7_image 231 = .ok (.iload_n 2, 1) := by decide +kernel
theorem dX7_image_232 : decode cX7_image 232 = .ok (.sipush 190, 3) := by decide +kernel
theorem dX7_image_235 : decode cX7_image 235 = .ok (.iadd, 1) := by decide +kernel
theorem dX7_image_236 : decode cX7_image 236 = .ok (.aload_n 0, 1) := by decide +kernel
theorem dX7_image_237 : decode cX7_image 237 = .ok (.getfield 71, 3) := by decide +kernel
theorem dX7_image_240 : decode cX7_image 240 = .ok (.iastore, 1) := by decide +kernel
theorem dX7_image_241 : decode cX7_image 241 = .ok (.aload_n 0, 1) := by decide +kernel
theorem dX7_image_242 : decode cX7_image 242 = .ok (.getfield 67, 3) := by decide +kernel
theorem dX7_image_245 : decode cX7_image 245 = .ok (.iload_n 1, 1) := by decide +kernel
theorem dX7_image_246 : decode cX7_image 246 = .ok (.iconst 1, 1) := by decide +kernel
theorem dX7_image_247 : decode cX7_image 247 = .ok (.bastore, 1) := by decide +kernel
theorem dX7_image_248 : decode cX7_image 248 = .ok (.iconst 1, 1) := by decide +kernel
theorem dX7_image_249 : decode cX7_image 249 = .ok (.ireturn, 1) := by decide +kernel
theorem dX7_restore_0 : decode cX7_restore 0 = .ok (.iload_n 1, 1) := by decide +kernel
theorem dX7_restore_1 : decode cX7_restore 1 = .ok (.iconst 0, 1) := by decide +kernel
theorem dX7_restore_2 : decode cX7_restore 2 = .ok (.iconst 1, 1) := by decide +kernel
theorem dX7_restore_3 : decode cX7_restore 3 = .ok (.invokestatic 75, 3) := by decide +kernel
theorem dX7_restore_6 : decode cX7_restore 6 = .ok (.ifCond .ne 6, 3) := by decide +kernel
theorem dX7_restore_9 : decode cX7_restore 9 = .ok (.bipush (-2), 2) := by decide +kernel
theorem dX7_restore_11 : decode cX7_restore 11 = .ok (.ireturn, 1) := by decide +kernel
theorem dX7_restore_12 : decode cX7_restore 12 = .ok (.aload_n 0, 1) := by decide +kernel
theorem dX7_restore_13 : decode cX7_restore 13 = .ok (.getfield 67, 3) := by decide +kernel
theorem dX7_restore_16 : decode cX7_restore 16 = .ok (.iload_n 1, 1) := by decide +kernel
theorem dX7_restore_17 : decode cX7_restore 17 = .ok (.baload, 1) := by decide +kernel
theorem dX7_restore_18 : decode cX7_restore 18 = .ok (.ifCond .ne 6, 3) := by decide +kernel
theorem dX7_restore_21 : decode cX7_restore 21 = .ok (.bipush (-3), 2) := by decide +kernel
theorem dX7_restore_23 : decode cX7_restore 23 = .ok (.ireturn, 1) := by decide +kernel
theorem dX7_restore_24 : decode cX7_restore 24 = .ok (.sipush 191, 3) := by decide +kernel
theorem dX7_restore_27 : decode cX7_restore 27 = .ok (.iload_n 1, 1) := by decide +kernel
theorem dX7_restore_28 : decode cX7_restore 28 = .ok (.imul, 1) := by decide +kernel
theorem dX7_restore_29 : decode cX7_restore 29 = .ok (.istore_n 2, 1) := by decide +kernel
theorem dX7_restore_30 : decode cX7_restore 30 = .ok (.iconst 0, 1) := by decide +kernel
theorem dX7_restore_31 : decode cX7_restore 31 = .ok (.istore_n 3, 1) := by decide +kernel
theorem dX7_restore_32 : decode cX7_restore 32 = .ok (.iload_n 3, 1) := by decide +kernel
theorem dX7_restore_33 : decode cX7_restore 33 = .ok (.bipush 8, 2) := by decide +kernel
theorem dX7_restore_35 : decode cX7_restore 35 = .ok (.if_icmp .ge 40, 3) := by decide +kernel
theorem dX7_restore_38 : decode cX7_restore 38 = .ok (.aload_n 0, 1) := by decide +kernel
theorem dX7_restore_39 : decode cX7_restore 39 = .ok (.getfield 7, 3) := by decide +kernel
theorem dX7_restore_42 : decode cX7_restore 42 = .ok (.iload_n 3, 1) := by decide +kernel
theorem dX7_restore_43 : decode cX7_restore 43 = .ok (.aload_n 0, 1) := by decide +kernel
theorem dX7_restore_44 : decode cX7_restore 44 = .ok (.getfield 64, 3) := by decide +kernel
theorem dX7_restore_47 : decode cX7_restore 47 = .ok (.iload_n 2, 1) := by decide +kernel
theorem dX7_restore_48 : decode cX7_restore 48 = .ok (.iload_n 3, 1) := by decide +kernel
theorem dX7_restore_49 : decode cX7_restore 49 = .ok (.iadd, 1) := by decide +kernel
theorem dX7_restore_50 : decode cX7_restore 50 = .ok (.iaload, 1) := by decide +kernel
theorem dX7_restore_51 : decode cX7_restore 51 = .ok (.iastore, 1) := by decide +kernel
theorem dX7_restore_52 : decode cX7_restore 52 = .ok (.aload_n 0, 1) := by decide +kernel
theorem dX7_restore_53 : decode cX7_restore 53 = .ok (.getfield 13, 3) := by decide +kernel
theorem dX7_restore_56 : decode cX7_restore 56 = .ok (.iload_n 3, 1) := by decide +kernel
theorem dX7_restore_57 : decode cX7_restore 57 = .ok (.aload_n 0, 1) := by decide +kernel
theorem dX7_restore_58 : decode cX7_restore 58 = .ok (.getfield 64, 3) := by decide +kernel
theorem dX7_restore_61 : decode cX7_restore 61 = .ok (.iload_n 2, 1) := by decide +kernel
theorem dX7_restore_62 : decode cX7_restore 62 = .ok (.bipush 8, 2) := by decide +kernel
theorem dX7_restore_64 : decode cX7_restore 64 = .ok (.iadd, 1) := by decide +kernel
theorem dX7_restore_65 : decode cX7_restore 65 = .ok (.iload_n 3, 1) := by decide +kernel
theorem dX7_restore_66 : decode cX7_restore 66 = .ok (.iadd, 1) := by decide +kernel
theorem dX7_restore_67 : decode cX7_restore 67 = .ok (.iaload, 1) := by decide +kernel
theorem dX7_restore_68 : decode cX7_restore 68 = .ok (.iastore, 1) := by decide +kernel
theorem dX7_restore_69 : decode cX7_restore 69 = .ok (.iinc 3 1, 3) := by decide +kernel
theorem dX7_restore_72 : decode cX7_restore 72 = .ok (.goto (-40), 3) := by decide +kernel
theorem dX7_restore_75 : decode cX7_restore 75 = .ok (.iconst 0, 1) := by decide +kernel
theorem dX7_restore_76 : decode cX7_restore 76 = .ok (.istore_n 3, 1) := by decide +kernel
theorem dX7_restore_77 : decode cX7_restore 77 = .ok (.iload_n 3, 1) := by decide +kernel
theorem dX7_restore_78 : decode cX7_restore 78 = .ok (.bipush 40, 2) := by decide +kernel
theorem dX7_restore_80 : decode cX7_restore 80 = .ok (.if_icmp .ge 78, 3) := by decide +kernel
theorem dX7_restore_83 : decode cX7_restore 83 = .ok (.aload_n 0, 1) := by decide +kernel
theorem dX7_restore_84 : decode cX7_restore 84 = .ok (.getfield 16, 3) := by decide +kernel
theorem dX7_restore_87 : decode cX7_restore 87 = .ok (.iload_n 3, 1) := by decide +kernel
theorem dX7_restore_88 : decode cX7_restore 88 = .ok (.aload_n 0, 1) := by decide +kernel
theorem dX7_restore_89 : decode cX7_restore 89 = .ok (.getfield 64, 3) := by decide +kernel
theorem dX7_restore_92 : decode cX7_restore 92 = .ok (.iload_n 2, 1) := by decide +kernel
theorem dX7_restore_93 : decode cX7_restore 93 = .ok (.bipush 16, 2) := by decide +kernel
theorem dX7_restore_95 : decode cX7_restore 95 = .ok (.iadd, 1) := by decide +kernel
theorem dX7_restore_96 : decode cX7_restore 96 = .ok (.iload_n 3, 1) := by decide +kernel
theorem dX7_restore_97 : decode cX7_restore 97 = .ok (.iadd, 1) := by decide +kernel
theorem dX7_restore_98 : decode cX7_restore 98 = .ok (.iaload, 1) := by decide +kernel
theorem dX7_restore_99 : decode cX7_restore 99 = .ok (.iastore, 1) := by decide +kernel
theorem dX7_restore_100 : decode cX7_restore 100 = .ok (.aload_n 0, 1) := by decide +kernel
theorem dX7_restore_101 : decode cX7_restore 101 = .ok (.getfield 19, 3) := by decide +kernel
theorem dX7_restore_104 : decode cX7_restore 104 = .ok (.iload_n 3, 1) := by decide +kernel
theorem dX7_restore_105 : decode cX7_restore 105 = .ok (.aload_n 0, 1) := by decide +kernel
theorem dX7_restore_106 : decode cX7_restore 106 = .ok (.getfield 64, 3) := by decide +kernel
theorem dX7_restore_109 : decode cX7_restore 109 = .ok (.iload_n 2, 1) := by decide +kernel
theorem dX7_restore_110 : decode cX7_restore 110 = .ok (.bipush 56, 2) := by decide +kernel
theorem dX7_restore_112 : decode cX7_restore 112 = .ok (.iadd, 1) := by decide +kernel
theorem dX7_restore_113 : decode cX7_restore 113 = .ok (.iload_n 3, 1) := by decide +kernel
theorem dX7_restore_114 : decode cX7_restore 114 = .ok (.iadd, 1) := by decide +kernel
theorem dX7_restore_115 : decode cX7_restore 115 = .ok (.iaload, 1) := by decide +kernel
theorem dX7_restore_116 : decode cX7_restore 116 = .ok (.iastore, 1) := by decide +kernel
theorem dX7_restore_117 : decode cX7_restore 117 = .ok (.aload_n 0, 1) := by decide +kernel
theorem dX7_restore_118 : decode cX7_restore 118 = .ok (.getfield 22, 3) := by decide +kernel
theorem dX7_restore_121 : decode cX7_restore 121 = .ok (.iload_n 3, 1) := by decide +kernel
theorem dX7_restore_122 : decode cX7_restore 122 = .ok (.aload_n 0, 1) := by decide +kernel
theorem dX7_restore_123 : decode cX7_restore 123 = .ok (.getfield 64, 3) := by decide +kernel
theorem dX7_restore_126 : decode cX7_restore 126 = .ok (.iload_n 2, 1) := by decide +kernel
theorem dX7_restore_127 : decode cX7_restore 127 = .ok (.bipush 96, 2) := by decide +kernel
theorem dX7_restore_129 : decode cX7_restore 129 = .ok (.iadd, 1) := by decide +kernel
theorem dX7_restore_130 : decode cX7_restore 130 = .ok (.iload_n 3, 1) := by decide +kernel
theorem dX7_restore_131 : decode cX7_restore 131 = .ok (.iadd, 1) := by decide +kernel
theorem dX7_restore_132 : decode cX7_restore 132 = .ok (.iaload, 1) := by decide +kernel
theorem dX7_restore_133 : decode cX7_restore 133 = .ok (.iastore, 1) := by decide +kernel
theorem dX7_restore_134 : decode cX7_restore 134 = .ok (.aload_n 0, 1) := by decide +kernel
theorem dX7_restore_135 : decode cX7_restore 135 = .ok (.getfield 25, 3) := by decide +kernel
theorem dX7_restore_138 : decode cX7_restore 138 = .ok (.iload_n 3, 1) := by decide +kernel
theorem dX7_restore_139 : decode cX7_restore 139 = .ok (.aload_n 0, 1) := by decide +kernel
theorem dX7_restore_140 : decode cX7_restore 140 = .ok (.getfield 64, 3) := by decide +kernel
theorem dX7_restore_143 : decode cX7_restore 143 = .ok (.iload_n 2, 1) := by decide +kernel
theorem dX7_restore_144 : decode cX7_restore 144 = .ok (.sipush 136, 3) := by decide +kernel
theorem dX7_restore_147 : decode cX7_restore 147 = .ok (.iadd, 1) := by decide +kernel
theorem dX7_restore_148 : decode cX7_restore 148 = .ok (.iload_n 3, 1) := by decide +kernel
theorem dX7_restore_149 : decode cX7_restore 149 = .ok (.iadd, 1) := by decide +kernel
theorem dX7_restore_150 : decode cX7_restore 150 = .ok (.iaload, 1) := by decide +kernel
theorem dX7_restore_151 : decode cX7_restore 151 = .ok (.iastore, 1) := by decide +kernel
theorem dX7_restore_152 : decode cX7_restore 152 = .ok (.iinc 3 1, 3) := by decide +kernel
theorem dX7_restore_155 : decode cX7_restore 155 = .ok (.goto (-78), 3) := by decide +kernel
theorem dX7_restore_158 : decode cX7_restore 158 = .ok (.iconst 0, 1) := by decide +kernel
theorem dX7_restore_159 : decode cX7_restore 159 = .ok (.istore_n 3, 1) := by decide +kernel
theorem dX7_restore_160 : decode cX7_restore 160 = .ok (.iload_n 3, 1) := by decide +kernel
theorem dX7_restore_161 : decode cX7_restore 161 = .ok (.iconst 4, 1) := by decide +kernel
theorem dX7_restore_162 : decode cX7_restore 162 = .ok (.if_icmp .ge 45, 3) := by decide +kernel
theorem dX7_restore_165 : decode cX7_restore 165 = .ok (.aload_n 0, 1) := by decide +kernel
theorem dX7_restore_166 : decode cX7_restore 166 = .ok (.getfield 28, 3) := by decide +kernel
theorem dX7_restore_169 : decode cX7_restore 169 = .ok (.iload_n 3, 1) := by decide +kernel
theorem dX7_restore_170 : decode cX7_restore 170 = .ok (.aload_n 0, 1) := by decide +kernel
theorem dX7_restore_171 : decode cX7_restore 171 = .ok (.getfield 64, 3) := by decide +kernel
theorem dX7_restore_174 : decode cX7_restore 174 = .ok (.iload_n 2, 1) := by decide +kernel
theorem dX7_restore_175 : decode cX7_restore 175 = .ok (.sipush 176, 3) := by decide +kernel
theorem dX7_restore_178 : decode cX7_restore 178 = .ok (.iadd, 1) := by decide +kernel
theorem dX7_restore_179 : decode cX7_restore 179 = .ok (.iload_n 3, 1) := by decide +kernel
theorem dX7_restore_180 : decode cX7_restore 180 = .ok (.iadd, 1) := by decide +kernel
theorem dX7_restore_181 : decode cX7_restore 181 = .ok (.iaload, 1) := by decide +kernel
theorem dX7_restore_182 : decode cX7_restore 182 = .ok (.iastore, 1) := by decide +kernel
theorem dX7_restore_183 : decode cX7_restore 183 = .ok (.aload_n 0, 1) := by decide +kernel
theorem dX7_restore_184 : decode cX7_restore 184 = .ok (.getfield 34, 3) := by decide +kernel
theorem dX7_restore_187 : decode cX7_restore 187 = .ok (.iload_n 3, 1) := by decide +kernel
theorem dX7_restore_188 : decode cX7_restore 188 = .ok (.aload_n 0, 1) := by decide +kernel
theorem dX7_restore_189 : decode cX7_restore 189 = .ok (.getfield 64, 3) := by decide +kernel
theorem dX7_restore_192 : decode cX7_restore 192 = .ok (.iload_n 2, 1) := by decide +kernel
theorem dX7_restore_193 : decode cX7_restore 193 = .ok (.sipush 180, 3) := by decide +kernel
theorem dX7_restore_196 : decode cX7_restore 196 = .ok (.iadd, 1) := by decide +kernel
theorem dX7_restore_197 : decode cX7_restore 197 = .ok (.iload_n 3, 1) := by decide +kernel
theorem dX7_restore_198 : decode cX7_restore 198 = .ok (.iadd, 1) := by decide +kernel
theorem dX7_restore_199 : decode cX7_restore 199 = .ok (.iaload, 1) := by decide +kernel
theorem dX7_restore_200 : decode cX7_restore 200 = .ok (.iastore, 1) := by decide +kernel
theorem dX7_restore_201 : decode cX7_restore 201 = .ok (.iinc 3 1, 3) := by decide +kernel
theorem dX7_restore_204 : decode cX7_restore 204 = .ok (.goto (-44), 3) := by decide +kernel
theorem dX7_restore_207 : decode cX7_restore 207 = .ok (.iconst 0, 1) := by decide +kernel
theorem dX7_restore_208 : decode cX7_restore 208 = .ok (.istore_n 3, 1) := by decide +kernel
theorem dX7_restore_209 : decode cX7_restore 209 = .ok (.iload_n 3, 1) := by decide +kernel
theorem dX7_restore_210 : decode cX7_restore 210 = .ok (.bipush 6, 2) := by decide +kernel
theorem dX7_restore_212 : decode cX7_restore 212 = .ok (.if_icmp .ge 27, 3) := by decide +kernel
theorem dX7_restore_215 : decode cX7_restore 215 = .ok (.aload_n 0, 1) := by decide +kernel
theorem dX7_restore_216 : decode cX7_restore 216 = .ok (.getfield 31, 3) := by decide +kernel
theorem dX7_restore_219 : decode cX7_restore 219 = .ok (.iload_n 3, 1) := by decide +kernel
theorem dX7_restore_220 : decode cX7_restore 220 = .ok (.aload_n 0, 1) := by decide +kernel
theorem dX7_restore_221 : decode cX7_restore 221 = .ok (.getfield 64, 3) := by decide +kernel
theorem dX7_restore_224 : decode cX7_restore 224 = .ok (.iload_n 2, 1) := by decide +kernel
theorem dX7_restore_225 : decode cX7_restore 225 = .ok (.sipush 184, 3) := by decide +kernel
theorem dX7_restore_228 : decode cX7_restore 228 = .ok (.iadd, 1) := by decide +kernel
theorem dX7_restore_229 : decode cX7_restore 229 = .ok (.iload_n 3, 1) := by decide +kernel
theorem dX7_restore_230 : decode cX7_restore 230 = .ok (.iadd, 1) := by decide +kernel
theorem dX7_restore_231 : decode cX7_restore 231 = .ok (.iaload, 1) := by decide +kernel
theorem dX7_restore_232 : decode cX7_restore 232 = .ok (.iastore, 1) := by decide +kernel
theorem dX7_restore_233 : decode cX7_restore 233 = .ok (.iinc 3 1, 3) := by decide +kernel
theorem dX7_restore_236 : decode cX7_restore 236 = .ok (.goto (-27), 3) := by decide +kernel
theorem dX7_restore_239 : decode cX7_restore 239 = .ok (.aload_n 0, 1) := by decide +kernel
theorem dX7_restore_240 : decode cX7_restore 240 = .ok (.aload_n 0, 1) := by decide +kernel
theorem dX7_restore_241 : decode cX7_restore 241 = .ok (.getfield 64, 3) := by decide +kernel
theorem dX7_restore_244 : decode cX7_restore 244 = .ok (.iload_n 2, 1) := by decide +kernel
theorem dX7_restore_245 : decode cX7_restore 245 = .ok (.sipush 190, 3) := by decide +kernel
theorem dX7_restore_248 : decode cX7_restore 248 = .ok (.iadd, 1) := by decide +kernel
theorem dX7_restore_249 : decode cX7_restore 249 = .ok (.iaload, 1) := by decide +kernel
theorem dX7_restore_250 : decode cX7_restore 250 = .ok (.putfield 71, 3) := by decide +kernel
theorem dX7_restore_253 : decode cX7_restore 253 = .ok (.iconst 1, 1) := by decide +kernel
theorem dX7_restore_254 : decode cX7_restore 254 = .ok (.ireturn, 1) := by decide +kernel
theorem dX7_count_0 : decode cX7_count 0 = .ok (.iload_n 1, 1) := by decide +kernel
theorem dX7_count_1 : decode cX7_count 1 = .ok (.tableswitch 127 0 9 #[55, 60, 60, 60, 60, 69, 74, 79, 84, 97], 55) := by decide +kernel
theorem dX7_count_56 : decode cX7_count 56 = .ok (.aload_n 0, 1) := by decide +kernel
theorem dX7_count_57 : decode cX7_count 57 = .ok (.getfield 71, 3) := by decide +kernel
theorem dX7_count_60 : decode cX7_count 60 = .ok (.ireturn, 1) := by decide +kernel
theorem dX7_count_61 : decode cX7_count 61 = .ok (.aload_n 0, 1) := by decide +kernel
theorem dX7_count_62 : decode cX7_count 62 = .ok (.getfield 34, 3) := by decide +kernel
theorem dX7_count_65 : decode cX7_count 65 = .ok (.iload_n 1, 1) := by decide +kernel
theorem dX7_count_66 : decode cX7_count 66 = .ok (.iconst 1, 1) := by decide +kernel
theorem dX7_count_67 : decode cX7_count 67 = .ok (.isub, 1) := by decide +kernel
theorem dX7_count_68 : decode cX7_count 68 = .ok (.iaload, 1) := by decide +kernel
theorem dX7_count_69 : decode cX7_count 69 = .ok (.ireturn, 1) := by decide +kernel
theorem dX7_count_70 : decode cX7_count 70 = .ok (.aload_n 0, 1) := by decide +kernel
theorem dX7_count_71 : decode cX7_count 71 = .ok (.getfield 168, 3) := by decide +kernel
theorem dX7_count_74 : decode cX7_count 74 = .ok (.ireturn, 1) := by decide +kernel
theorem dX7_count_75 : decode cX7_count 75 = .ok (.aload_n 0, 1) := by decide +kernel
theorem dX7_count_76 : decode cX7_count 76 = .ok (.getfield 171, 3) := by decide +kernel
theorem dX7_count_79 : decode cX7_count 79 = .ok (.ireturn, 1) := by decide +kernel
theorem dX7_count_80 : decode cX7_count 80 = .ok (.aload_n 0, 1) := by decide +kernel
theorem dX7_count_81 : decode cX7_count 81 = .ok (.getfield 162, 3) := by decide +kernel
theorem dX7_count_84 : decode cX7_count 84 = .ok (.ireturn, 1) := by decide +kernel
theorem dX7_count_85 : decode cX7_count 85 = .ok (.aload_n 0, 1) := by decide +kernel
theorem dX7_count_86 : decode cX7_count 86 = .ok (.invokevirtual 136, 3) := by decide +kernel
theorem dX7_count_89 : decode cX7_count 89 = .ok (.ifCond .eq 7, 3) := by decide +kernel
theorem dX7_count_92 : decode cX7_count 92 = .ok (.iconst 1, 1) := by decide +kernel
theorem dX7_count_93 : decode cX7_count 93 = .ok (.goto 4, 3) := by decide +kernel
theorem dX7_count_96 : decode cX7_count 96 = .ok (.iconst 0, 1) := by decide +kernel
theorem dX7_count_97 : decode cX7_count 97 = .ok (.ireturn, 1) := by decide +kernel
theorem dX7_count_98 : decode cX7_count 98 = .ok (.aload_n 0, 1) := by decide +kernel
theorem dX7_count_99 : decode cX7_count 99 = .ok (.getfield 67, 3) := by decide +kernel
theorem dX7_count_102 : decode cX7_count 102 = .ok (.iconst 0, 1) := by decide +kernel
theorem dX7_count_103 : decode cX7_count 103 = .ok (.baload, 1) := by decide +kernel
theorem dX7_count_104 : decode cX7_count 104 = .ok (.ifCond .eq 7, 3) := by decide +kernel
theorem dX7_count_107 : decode cX7_count 107 = .ok (.iconst 1, 1) := by decide +kernel
theorem dX7_count_108 : decode cX7_count 108 = .ok (.goto 4, 3) := by decide +kernel
theorem dX7_count_111 : decode cX7_count 111 = .ok (.iconst 0, 1) := by decide +kernel
theorem dX7_count_112 : decode cX7_count 112 = .ok (.aload_n 0, 1) := by decide +kernel
theorem dX7_count_113 : decode cX7_count 113 = .ok (.getfield 67, 3) := by decide +kernel
theorem dX7_count_116 : decode cX7_count 116 = .ok (.iconst 1, 1) := by decide +kernel
theorem dX7_count_117 : decode cX7_count 117 = .ok (.baload, 1) := by decide +kernel
theorem dX7_count_118 : decode cX7_count 118 = .ok (.ifCond .eq 7, 3) := by decide +kernel
theorem dX7_count_121 : decode cX7_count 121 = .ok (.iconst 2, 1) := by decide +kernel
theorem dX7_count_122 : decode cX7_count 122 = .ok (.goto 4, 3) := by decide +kernel
theorem dX7_count_125 : decode cX7_count 125 = .ok (.iconst 0, 1) := by decide +kernel
theorem dX7_count_126 : decode cX7_count 126 = .ok (.iadd, 1) := by decide +kernel
theorem dX7_count_127 : decode cX7_count 127 = .ok (.ireturn, 1) := by decide +kernel
theorem dX7_count_128 : decode cX7_count 128 = .ok (.iload_n 1, 1) := by decide +kernel
theorem dX7_count_129 : decode cX7_count 129 = .ok (.bipush 10, 2) := by decide +kernel
theorem dX7_count_131 : decode cX7_count 131 = .ok (.bipush 15, 2) := by decide +kernel
theorem dX7_count_133 : decode cX7_count 133 = .ok (.invokestatic 75, 3) := by decide +kernel
theorem dX7_count_136 : decode cX7_count 136 = .ok (.ifCond .eq 15, 3) := by decide +kernel
theorem dX7_count_139 : decode cX7_count 139 = .ok (.aload_n 0, 1) := by decide +kernel
theorem dX7_count_140 : decode cX7_count 140 = .ok (.getfield 31, 3) := by decide +kernel
theorem dX7_count_143 : decode cX7_count 143 = .ok (.iload_n 1, 1) := by decide +kernel
theorem dX7_count_144 : decode cX7_count 144 = .ok (.bipush 10, 2) := by decide +kernel
theorem dX7_count_146 : decode cX7_count 146 = .ok (.isub, 1) := by decide +kernel
theorem dX7_count_147 : decode cX7_count 147 = .ok (.iaload, 1) := by decide +kernel
theorem dX7_count_148 : decode cX7_count 148 = .ok (.goto 5, 3) := by decide +kernel
theorem dX7_count_151 : decode cX7_count 151 = .ok (.bipush (-2), 2) := by decide +kernel
theorem dX7_count_153 : decode cX7_count 153 = .ok (.ireturn, 1) := by decide +kernel
