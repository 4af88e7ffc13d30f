theorem dX9_init_0 : decode cX9_init 0 = .ok (.aload_n 0, 1) := by decide +kernel
theorem dX9_init_1 : decode cX9_init 1 = .ok (.invokespecial 1, 3) := by decide +kernel
theorem dX9_init_4 : decode cX9_init 4 = .ok (.aload_n 0, 1) := by decide +kernel
theorem dX9_init_5 : decode cX9_init 5 = .ok (.bipush 6, 2) := by decide +kernel
theorem dX9_init_7 : decode cX9_init 7 = .ok (.anewarray 7, 3) := by decide +kernel
theorem dX9_init_10 : decode cX9_init 10 = .ok (.dup, 1) := by decide +kernel
theorem dX9_init_11 : decode cX9_init 11 = .ok (.iconst 0, 1) := by decide +kernel
theorem dX9_init_12 : decode cX9_init 12 = .ok (.ldc 9, 2) := by decide +kernel
theorem dX9_init_14 : decode cX9_init 14 = .ok (.aastore, 1) := by decide +kernel
theorem dX9_init_15 : decode cX9_init 15 = .ok (.dup, 1) := by decide +kernel
theorem dX9_init_16 : decode cX9_init 16 = .ok (.iconst 1, 1) := by decide +kernel
theorem dX9_init_17 : decode cX9_init 17 = .ok (.ldc 11, 2) := by decide +kernel
theorem dX9_init_19 : decode cX9_init 19 = .ok (.aastore, 1) := by decide +kernel
theorem dX9_init_20 : decode cX9_init 20 = .ok (.dup, 1) := by decide +kernel
theorem dX9_init_21 : decode cX9_init 21 = .ok (.iconst 2, 1) := by decide +kernel
theorem dX9_init_22 : decode cX9_init 22 = .ok (.ldc 13, 2) := by decide +kernel
theorem dX9_init_24 : decode cX9_init 24 = .ok (.aastore, 1) := by decide +kernel
theorem dX9_init_25 : decode cX9_init 25 = .ok (.dup, 1) := by decide +kernel
theorem dX9_init_26 : decode cX9_init 26 = .ok (.iconst 3, 1) := by decide +kernel
theorem dX9_init_27 : decode cX9_init 27 = .ok (.ldc 15, 2) := by decide +kernel
theorem dX9_init_29 : decode cX9_init 29 = .ok (.aastore, 1) := by decide +kernel
theorem dX9_init_30 : decode cX9_init 30 = .ok (.dup, 1) := by decide +kernel
theorem dX9_init_31 : decode cX9_init 31 = .ok (.iconst 4, 1) := by decide +kernel
theorem dX9_init_32 : decode cX9_init 32 = .ok (.ldc 17, 2) := by decide +kernel
theorem dX9_init_34 : decode cX9_init 34 = .ok (.aastore, 1) := by decide +kernel
theorem dX9_init_35 : decode cX9_init 35 = .ok (.dup, 1) := by decide +kernel
theorem dX9_init_36 : decode cX9_init 36 = .ok (.iconst 5, 1) := by decide +kernel
theorem dX9_init_37 : decode cX9_init 37 = .ok (.ldc 19, 2) := by decide +kernel
theorem dX9_init_39 : decode cX9_init 39 = .ok (.aastore, 1) := by decide +kernel
theorem dX9_init_40 : decode cX9_init 40 = .ok (.putfield 21, 3) := by decide +kernel
theorem dX9_init_43 : decode cX9_init 43 = .ok (.aload_n 0, 1) := by decide +kernel
theorem dX9_init_44 : decode cX9_init 44 = .ok (.iconst 3, 1) := by decide +kernel
theorem dX9_init_45 : decode cX9_init 45 = .ok (.anewarray 7, 3) := by decide +kernel
theorem dX9_init_48 : decode cX9_init 48 = .ok (.dup, 1) := by decide +kernel
theorem dX9_init_49 : decode cX9_init 49 = .ok (.iconst 0, 1) := by decide +kernel
theorem dX9_init_50 : decode cX9_init 50 = .ok (.ldc 19, 2) := by decide +kernel
theorem dX9_init_52 : decode cX9_init 52 = .ok (.aastore, 1) := by decide +kernel
theorem dX9_init_53 : decode cX9_init 53 = .ok (.dup, 1) := by decide +kernel
theorem dX9_init_54 : decode cX9_init 54 = .ok (.iconst 1, 1) := by decide +kernel
theorem dX9_init_55 : decode cX9_init 55 = .ok (.ldc 27, 2) := by decide +kernel
theorem dX9_init_57 : decode cX9_init 57 = .ok (.aastore, 1) := by decide +kernel
theorem dX9_init_58 : decode cX9_init 58 = .ok (.dup, 1) := by decide +kernel
theorem dX9_init_59 : decode cX9_init 59 = .ok (.iconst 2, 1) := by decide +kernel
theorem dX9_init_60 : decode cX9_init 60 = .ok (.ldc 29, 2) := by decide +kernel
theorem dX9_init_62 : decode cX9_init 62 = .ok (.aastore, 1) := by decide +kernel
theorem dX9_init_63 : decode cX9_init 63 = .ok (.putfield 31, 3) := by decide +kernel
theorem dX9_init_66 : decode cX9_init 66 = .ok (.aload_n 0, 1) := by decide +kernel
theorem dX9_init_67 : decode cX9_init 67 = .ok (.iconst 3, 1) := by decide +kernel
theorem dX9_init_68 : decode cX9_init 68 = .ok (.anewarray 7, 3) := by decide +kernel
theorem dX9_init_71 : decode cX9_init 71 = .ok (.dup, 1) := by decide +kernel
theorem dX9_init_72 : decode cX9_init 72 = .ok (.iconst 0, 1) := by decide +kernel
theorem dX9_init_73 : decode cX9_init 73 = .ok (.ldc 34, 2) := by decide +kernel
theorem dX9_init_75 : decode cX9_init 75 = .ok (.aastore, 1) := by decide +kernel
theorem dX9_init_76 : decode cX9_init 76 = .ok (.dup, 1) := by decide +kernel
theorem dX9_init_77 : decode cX9_init 77 = .ok (.iconst 1, 1) := by decide +kernel
theorem dX9_init_78 : decode cX9_init 78 = .ok (.ldc 36, 2) := by decide +kernel
theorem dX9_init_80 : decode cX9_init 80 = .ok (.aastore, 1) := by decide +kernel
theorem dX9_init_81 : decode cX9_init 81 = .ok (.dup, 1) := by decide +kernel
theorem dX9_init_82 : decode cX9_init 82 = .ok (.iconst 2, 1) := by decide +kernel
theorem dX9_init_83 : decode cX9_init 83 = .ok (.ldc 38, 2) := by decide +kernel
theorem dX9_init_85 : decode cX9_init 85 = .ok (.aastore, 1) := by decide +kernel
theorem dX9_init_86 : decode cX9_init 86 = .ok (.putfield 40, 3) := by decide +kernel
theorem dX9_init_89 : decode cX9_init 89 = .ok (.aload_n 0, 1) := by decide +kernel
theorem dX9_init_90 : decode cX9_init 90 = .ok (.iconst 4, 1) := by decide +kernel
theorem dX9_init_91 : decode cX9_init 91 = .ok (.newarray .int, 2) := by decide +kernel
theorem dX9_init_93 : decode cX9_init 93 = .ok (.putfield 43, 3) := by decide +kernel
theorem dX9_init_96 : decode cX9_init 96 = .ok (.aload_n 0, 1) := by decide +kernel
theorem dX9_init_97 : decode cX9_init 97 = .ok (.iconst 4, 1) := by decide +kernel
theorem dX9_init_98 : decode cX9_init 98 = .ok (.newarray .int, 2) := by decide +kernel
theorem dX9_init_100 : decode cX9_init 100 = .ok (.putfield 47, 3) := by decide +kernel
theorem dX9_init_103 : decode cX9_init 103 = .ok (.aload_n 0, 1) := by decide +kernel
theorem dX9_init_104 : decode cX9_init 104 = .ok (.sipush 1300, 3) := by decide +kernel
theorem dX9_init_107 : decode cX9_init 107 = .ok (.newarray .int, 2) := by decide +kernel
theorem dX9_init_109 : decode cX9_init 109 = .ok (.putfield 50, 3) := by decide +kernel
theorem dX9_init_112 : decode cX9_init 112 = .ok (.aload_n 0, 1) := by decide +kernel
theorem dX9_init_113 : decode cX9_init 113 = .ok (.iconst 4, 1) := by decide +kernel
theorem dX9_init_114 : decode cX9_init 114 = .ok (.putfield 53, 3) := by decide +kernel
theorem dX9_init_117 : decode cX9_init 117 = .ok (.aload_n 0, 1) := by decide +kernel
theorem dX9_init_118 : decode cX9_init 118 = .ok (.bipush 10, 2) := by decide +kernel
theorem dX9_init_120 : decode cX9_init 120 = .ok (.newarray .boolean, 2) := by decide +kernel
theorem dX9_init_122 : decode cX9_init 122 = .ok (.putfield 56, 3) := by decide +kernel
theorem dX9_init_125 : decode cX9_init 125 = .ok (.aload_n 0, 1) := by decide +kernel
theorem dX9_init_126 : decode cX9_init 126 = .ok (.bipush 10, 2) := by decide +kernel
theorem dX9_init_128 : decode cX9_init 128 = .ok (.newarray .int, 2) := by decide +kernel
theorem dX9_init_130 : decode cX9_init 130 = .ok (.putfield 60, 3) := by decide +kernel
theorem dX9_init_133 : decode cX9_init 133 = .ok (.aload_n 0, 1) := by decide +kernel
theorem dX9_init_134 : decode cX9_init 134 = .ok (.bipush 10, 2) := by decide +kernel
theorem dX9_init_136 : decode cX9_init 136 = .ok (.newarray .int, 2) := by decide +kernel
theorem dX9_init_138 : decode cX9_init 138 = .ok (.putfield 63, 3) := by decide +kernel
theorem dX9_init_141 : decode cX9_init 141 = .ok (.aload_n 0, 1) := by decide +kernel
theorem dX9_init_142 : decode cX9_init 142 = .ok (.bipush 10, 2) := by decide +kernel
theorem dX9_init_144 : decode cX9_init 144 = .ok (.newarray .int, 2) := by decide +kernel
theorem dX9_init_146 : decode cX9_init 146 = .ok (.putfield 66, 3) := by decide +kernel
theorem dX9_init_149 : decode cX9_init 149 = .ok (.aload_n 0, 1) := by decide +kernel
theorem dX9_init_150 : decode cX9_init 150 = .ok (.bipush 10, 2) := by decide +kernel
theorem dX9_init_152 : decode cX9_init 152 = .ok (.newarray .int, 2) := by decide +kernel
theorem dX9_init_154 : decode cX9_init 154 = .ok (.putfield 69, 3) := by decide +kernel
theorem dX9_init_157 : decode cX9_init 157 = .ok (.aload_n 0, 1) := by decide +kernel
theorem dX9_init_158 : decode cX9_init 158 = .ok (.sipush 512, 3) := by decide +kernel
theorem dX9_init_161 : decode cX9_init 161 = .ok (.newarray .int, 2) := by decide +kernel
theorem dX9_init_163 : decode cX9_init 163 = .ok (.putfield 72, 3) := by decide +kernel
theorem dX9_init_166 : decode cX9_init 166 = .ok (.aload_n 0, 1) := by decide +kernel
theorem dX9_init_167 : decode cX9_init 167 = .ok (.sipush 512, 3) := by decide +kernel
theorem dX9_init_170 : decode cX9_init 170 = .ok (.newarray .int, 2) := by decide +kernel
theorem dX9_init_172 : decode cX9_init 172 = .ok (.putfield 75, 3) := by decide +kernel
theorem dX9_init_175 : decode cX9_init 175 = .ok (.aload_n 0, 1) := by decide +kernel
theorem dX9_init_176 : decode cX9_init 176 = .ok (.sipush 512, 3) := by decide +kernel
theorem dX9_init_179 : decode cX9_init 179 = .ok (.newarray .int, 2) := by decide +kernel
theorem dX9_init_181 : decode cX9_init 181 = .ok (.putfield 78, 3) := by decide +kernel
theorem dX9_init_184 : decode cX9_init 184 = .ok (.aload_n 0, 1) := by decide +kernel
theorem dX9_init_185 : decode cX9_init 185 = .ok (.sipush 600, 3) := by decide +kernel
theorem dX9_init_188 : decode cX9_init 188 = .ok (.newarray .int, 2) := by decide +kernel
theorem dX9_init_190 : decode cX9_init 190 = .ok (.putfield 81, 3) := by decide +kernel
theorem dX9_init_193 : decode cX9_init 193 = .ok (.aload_n 0, 1) := by decide +kernel
theorem dX9_init_194 : decode cX9_init 194 = .ok (.iconst (-1), 1) := by decide +kernel
theorem dX9_init_195 : decode cX9_init 195 = .ok (.putfield 84, 3) := by decide +kernel
theorem dX9_init_198 : decode cX9_init 198 = .ok (.aload_n 0, 1) := by decide +kernel
theorem dX9_init_199 : decode cX9_init 199 = .ok (.iconst 4, 1) := by decide +kernel
theorem dX9_init_200 : decode cX9_init 200 = .ok (.newarray .int, 2) := by decide +kernel
theorem dX9_init_202 : decode cX9_init 202 = .ok (.putfield 87, 3) := by decide +kernel
theorem dX9_init_205 : decode cX9_init 205 = .ok (.aload_n 0, 1) := by decide +kernel
theorem dX9_init_206 : decode cX9_init 206 = .ok (.iconst 4, 1) := by decide +kernel
theorem dX9_init_207 : decode cX9_init 207 = .ok (.newarray .int, 2) := by decide +kernel
theorem dX9_init_209 : decode cX9_init 209 = .ok (.putfield 90, 3) := by decide +kernel
theorem dX9_init_212 : decode cX9_init 212 = .ok (.aload_n 0, 1) := by decide +kernel
theorem dX9_init_213 : decode cX9_init 213 = .ok (.sipush 1300, 3) := by decide +kernel
theorem dX9_init_216 : decode cX9_init 216 = .ok (.newarray .int, 2) := by decide +kernel
theorem dX9_init_218 : decode cX9_init 218 = .ok (.putfield 93, 3) := by decide +kernel
theorem dX9_init_221 : decode cX9_init 221 = .ok (.aload_n 0, 1) := by decide +kernel
theorem dX9_init_222 : decode cX9_init 222 = .ok (.iconst (-1), 1) := by decide +kernel
theorem dX9_init_223 : decode cX9_init 223 = .ok (.putfield 96, 3) := by decide +kernel
theorem dX9_init_226 : decode cX9_init 226 = .ok (.aload_n 0, 1) := by decide +kernel
theorem dX9_init_227 : decode cX9_init 227 = .ok (.iconst (-1), 1) := by decide +kernel
theorem dX9_init_228 : decode cX9_init 228 = .ok (.putfield 99, 3) := by decide +kernel
theorem dX9_init_231 : decode cX9_init 231 = .ok (.aload_n 0, 1) := by decide +kernel
theorem dX9_init_232 : decode cX9_init 232 = .ok (.sipush 800, 3) := by decide +kernel
theorem dX9_init_235 : decode cX9_init 235 = .ok (.newarray .int, 2) := by decide +kernel
theorem dX9_init_237 : decode cX9_init 237 = .ok (.putfield 102, 3) := by decide +kernel
theorem dX9_init_240 : decode cX9_init 240 = .ok (.aload_n 0, 1) := by decide +kernel
theorem dX9_init_241 : decode cX9_init 241 = .ok (.sipush 512, 3) := by decide +kernel
theorem dX9_init_244 : decode cX9_init 244 = .ok (.newarray .int, 2) := by decide +kernel
theorem dX9_init_246 : decode cX9_init 246 = .ok (.putfield 105, 3) := by decide +kernel
theorem dX9_init_249 : decode cX9_init 249 = .ok (.aload_n 0, 1) := by decide +kernel
theorem dX9_init_250 : decode cX9_init 250 = .ok (.sipush 512, 3) := by decide +kernel
theorem dX9_init_253 : decode cX9_init 253 = .ok (.newarray .int, 2) := by decide +kernel
theorem dX9_init_255 : decode cX9_init 255 = .ok (.putfield 108, 3) := by decide +kernel
theorem dX9_init_258 : decode cX9_init 258 = .ok (.aload_n 0, 1) := by decide +kernel
theorem dX9_init_259 : decode cX9_init 259 = .ok (.sipush 512, 3) := by decide +kernel
theorem dX9_init_262 : decode cX9_init 262 = .ok (.newarray .int, 2) := by decide +kernel
theorem dX9_init_264 : decode cX9_init 264 = .ok (.putfield 111, 3) := by decide +kernel
theorem dX9_init_267 : decode cX9_init 267 = .ok (.aload_n 0, 1) := by decide +kernel
theorem dX9_init_268 : decode cX9_init 268 = .ok (.bipush 10, 2) := by decide +kernel
theorem dX9_init_270 : decode cX9_init 270 = .ok (.newarray .boolean, 2) := by decide +kernel
theorem dX9_init_272 : decode cX9_init 272 = .ok (.putfield 114, 3) := by decide +kernel
theorem dX9_init_275 : decode cX9_init 275 = .ok (.aload_n 0, 1) := by decide +kernel
theorem dX9_init_276 : decode cX9_init 276 = .ok (.bipush 44, 2) := by decide +kernel
theorem dX9_init_278 : decode cX9_init 278 = .ok (.newarray .int, 2) := by decide +kernel
theorem dX9_init_280 : decode cX9_init 280 = .ok (.putfield 117, 3) := by decide +kernel
theorem dX9_init_283 : decode cX9_init 283 = .ok (.aload_n 0, 1) := by decide +kernel
theorem dX9_init_284 : decode cX9_init 284 = .ok (.sipush 320, 3) := by decide +kernel
theorem dX9_init_287 : decode cX9_init 287 = .ok (.newarray .boolean, 2) := by decide +kernel
theorem dX9_init_289 : decode cX9_init 289 = .ok (.putfield 120, 3) := by decide +kernel
theorem dX9_init_292 : decode cX9_init 292 = .ok (.aload_n 0, 1) := by decide +kernel
theorem dX9_init_293 : decode cX9_init 293 = .ok (.getfield 43, 3) := by decide +kernel
theorem dX9_init_296 : decode cX9_init 296 = .ok (.aload_n 0, 1) := by decide +kernel
theorem dX9_init_297 : decode cX9_init 297 = .ok (.getfield 47, 3) := by decide +kernel
theorem dX9_init_300 : decode cX9_init 300 = .ok (.invokestatic 123, 3) := by decide +kernel
theorem dX9_init_303 : decode cX9_init 303 = .ok (.aload_n 0, 1) := by decide +kernel
theorem dX9_init_304 : decode cX9_init 304 = .ok (.iconst 3, 1) := by decide +kernel
theorem dX9_init_305 : decode cX9_init 305 = .ok (.putfield 127, 3) := by decide +kernel
theorem dX9_init_308 : decode cX9_init 308 = .ok (.return_, 1) := by decide +kernel
theorem dX9_usual_0 : decode cX9_usual 0 = .ok (.aload_n 0, 1) := by decide +kernel
theorem dX9_usual_1 : decode cX9_usual 1 = .ok (.iconst 0, 1) := by decide +kernel
theorem dX9_usual_2 : decode cX9_usual 2 = .ok (.bipush 10, 2) := by decide +kernel
theorem dX9_usual_4 : decode cX9_usual 4 = .ok (.iastore, 1) := by decide +kernel
theorem dX9_usual_5 : decode cX9_usual 5 = .ok (.aload_n 0, 1) := by decide +kernel
theorem dX9_usual_6 : decode cX9_usual 6 = .ok (.iconst 1, 1) := by decide +kernel
theorem dX9_usual_7 : decode cX9_usual 7 = .ok (.bipush 60, 2) := by decide +kernel
theorem dX9_usual_9 : decode cX9_usual 9 = .ok (.iastore, 1) := by decide +kernel
theorem dX9_usual_10 : decode cX9_usual 10 = .ok (.aload_n 0, 1) := by decide +kernel
theorem dX9_usual_11 : decode cX9_usual 11 = .ok (.iconst 2, 1) := by decide +kernel
theorem dX9_usual_12 : decode cX9_usual 12 = .ok (.sipush 300, 3) := by decide +kernel
theorem dX9_usual_15 : decode cX9_usual 15 = .ok (.iastore, 1) := by decide +kernel
theorem dX9_usual_16 : decode cX9_usual 16 = .ok (.aload_n 1, 1) := by decide +kernel
theorem dX9_usual_17 : decode cX9_usual 17 = .ok (.iconst 0, 1) := by decide +kernel
theorem dX9_usual_18 : decode cX9_usual 18 = .ok (.bipush 6, 2) := by decide +kernel
theorem dX9_usual_20 : decode cX9_usual 20 = .ok (.iastore, 1) := by decide +kernel
theorem dX9_usual_21 : decode cX9_usual 21 = .ok (.aload_n 1, 1) := by decide +kernel
theorem dX9_usual_22 : decode cX9_usual 22 = .ok (.iconst 1, 1) := by decide +kernel
theorem dX9_usual_23 : decode cX9_usual 23 = .ok (.iconst 5, 1) := by decide +kernel
theorem dX9_usual_24 : decode cX9_usual 24 = .ok (.iastore, 1) := by decide +kernel
theorem dX9_usual_25 : decode cX9_usual 25 = .ok (.aload_n 1, 1) := by decide +kernel
theorem dX9_usual_26 : decode cX9_usual 26 = .ok (.iconst 2, 1) := by decide +kernel
theorem dX9_usual_27 : decode cX9_usual 27 = .ok (.iconst 4, 1) := by decide +kernel
theorem dX9_usual_28 : decode cX9_usual 28 = .ok (.iastore, 1) := by decide +kernel
theorem dX9_usual_29 : decode cX9_usual 29 = .ok (.return_, 1) := by decide +kernel
theorem dX9_thrown_0 : decode cX9_thrown 0 = .ok (.aload_n 0, 1) := by decide +kernel
theorem dX9_thrown_1 : decode cX9_thrown 1 = .ok (.getfield 130, 3) := by decide +kernel
theorem dX9_thrown_4 : decode cX9_thrown 4 = .ok (.ireturn, 1) := by decide +kernel
theorem dX9_fail_0 : decode cX9_fail 0 = .ok (.aload_n 0, 1) := by decide +kernel
theorem dX9_fail_1 : decode cX9_fail 1 = .ok (.iload_n 1, 1) := by decide +kernel
theorem dX9_fail_2 : decode cX9_fail 2 = .ok (.putfield 130, 3) := by decide +kernel
theorem dX9_fail_5 : decode cX9_fail 5 = .ok (.iconst 0, 1) := by decide +kernel
theorem dX9_fail_6 : decode cX9_fail 6 = .ok (.ireturn, 1) := by decide +kernel
theorem dX9_isIn_0 : decode cX9_isIn 0 = .ok (.lload_n 0, 1) := by decide +kernel
theorem dX9_isIn_1 : decode cX9_isIn 1 = .ok (.lload_n 2, 1) := by decide +kernel
theorem dX9_isIn_2 : decode cX9_isIn 2 = .ok (.lcmp, 1) := by decide +kernel
theorem dX9_isIn_3 : decode cX9_isIn 3 = .ok (.ifCond .lt 14, 3) := by decide +kernel
theorem dX9_isIn_6 : decode cX9_isIn 6 = .ok (.lload_n 0, 1) := by decide +kernel
theorem dX9_isIn_7 : decode cX9_isIn 7 = .ok (.lload 4, 2) := by decide +kernel
theorem dX9_isIn_9 : decode cX9_isIn 9 = .ok (.lcmp, 1) := by decide +kernel
theorem dX9_isIn_10 : decode cX9_isIn 10 = .ok (.ifCond .gt 7, 3) := by decide +kernel
theorem dX9_isIn_13 : decode cX9_isIn 13 = .ok (.iconst 1, 1) := by decide +kernel
theorem dX9_isIn_14 : decode cX9_isIn 14 = .ok (.goto 4, 3) := by decide +kernel
theorem dX9_isIn_17 : decode cX9_isIn 17 = .ok (.iconst 0, 1) := by decide +kernel
theorem dX9_isIn_18 : decode cX9_isIn 18 = .ok (.ireturn, 1) := by decide +kernel
theorem dX9_by_0 : decode cX9_by 0 = .ok (.lload_n 0, 1) := by decide +kernel
theorem dX9_by_1 : decode cX9_by 1 = .ok (.lconst 0, 1) := by decide +kernel
theorem dX9_by_2 : decode cX9_by 2 = .ok (.lcmp, 1) := by decide +kernel
theorem dX9_by_3 : decode cX9_by 3 = .ok (.ifCond .lt 9, 3) := by decide +kernel
theorem dX9_by_6 : decode cX9_by 6 = .ok (.lload_n 0, 1) := by decide +kernel
theorem dX9_by_7 : decode cX9_by 7 = .ok (.lload_n 2, 1) := by decide +kernel
theorem dX9_by_8 : decode cX9_by 8 = .ok (.ldiv, 1) := by decide +kernel
theorem dX9_by_9 : decode cX9_by 9 = .ok (.goto 12, 3) := by decide +kernel
theorem dX9_by_12 : decode cX9_by 12 = .ok (.lload_n 0, 1) := by decide +kernel
theorem dX9_by_13 : decode cX9_by 13 = .ok (.lneg, 1) := by decide +kernel
theorem dX9_by_14 : decode cX9_by 14 = .ok (.lload_n 2, 1) := by decide +kernel
theorem dX9_by_15 : decode cX9_by 15 = .ok (.ladd, 1) := by decide +kernel
theorem dX9_by_16 : decode cX9_by 16 = .ok (.lconst 1, 1) := by decide +kernel
theorem dX9_by_17 : decode cX9_by 17 = .ok (.lsub, 1) := by decide +kernel
theorem dX9_by_18 : decode cX9_by 18 = .ok (.lload_n 2, 1) := by decide +kernel
theorem dX9_by_19 : decode cX9_by 19 = .ok (.ldiv, 1) := by decide +kernel
theorem dX9_by_20 : decode cX9_by 20 = .ok (.lneg, 1) := by decide +kernel
theorem dX9_by_21 : decode cX9_by 21 = .ok (.lreturn, 1) := by decide +kernel
theorem dX9_multiple_0 : decode cX9_multiple 0 = .ok (.iload_n 2, 1) := by decide +kernel
theorem dX9_multiple_1 : decode cX9_multiple 1 = .ok (.i2l, 1) := by decide +kernel
theorem dX9_multiple_2 : decode cX9_multiple 2 = .ok (.lload_n 0, 1) := by decide +kernel
theorem dX9_multiple_3 : decode cX9_multiple 3 = .ok (.iload_n 2, 1) := by decide +kernel
theorem dX9_multiple_4 : decode cX9_multiple 4 = .ok (.i2l, 1) := by decide +kernel
theorem dX9_multiple_5 : decode cX9_multiple 5 = .ok (.invokestatic 133, 3) := by decide +kernel
theorem dX9_multiple_8 : decode cX9_multiple 8 = .ok (.lmul, 1) := by decide +kernel
theorem dX9_multiple_9 : decode cX9_multiple 9 = .ok (.l2i, 1) := by decide +kernel
theorem dX9_multiple_10 : decode cX9_multiple 10 = .ok (.ireturn, 1) := by decide +kernel
theorem dX9_feed_0 : decode cX9_feed 0 = .ok (.aload_n 0, 1) := by decide +kernel
theorem dX9_feed_1 : decode cX9_feed 1 = .ok (.iconst 0, 1) := by decide +kernel
theorem dX9_feed_2 : decode cX9_feed 2 = .ok (.putfield 130, 3) := by decide +kernel
theorem dX9_feed_5 : decode cX9_feed 5 = .ok (.aload_n 0, 1) := by decide +kernel
theorem dX9_feed_6 : decode cX9_feed 6 = .ok (.getfield 137, 3) := by decide +kernel
theorem dX9_feed_9 : decode cX9_feed 9 = .ok (.bipush 20, 2) := by decide +kernel
theorem dX9_feed_11 : decode cX9_feed 11 = .ok (.iadd, 1) := by decide +kernel
theorem dX9_feed_12 : decode cX9_feed 12 = .ok (.sipush 600, 3) := by decide +kernel
theorem dX9_feed_15 : decode cX9_feed 15 = .ok (.if_icmp .le 5, 3) := by decide +kernel
theorem dX9_feed_18 : decode cX9_feed 18 = .ok (.iconst (-1), 1) := by decide +kernel
theorem dX9_feed_19 : decode cX9_feed 19 = .ok (.ireturn, 1) := by decide +kernel
theorem dX9_feed_20 : decode cX9_feed 20 = .ok (.iconst 0, 1) := by decide +kernel
theorem dX9_feed_21 : decode cX9_feed 21 = .ok (.istore 6, 2) := by decide +kernel
theorem dX9_feed_23 : decode cX9_feed 23 = .ok (.iload 6, 2) := by decide +kernel
theorem dX9_feed_25 : decode cX9_feed 25 = .ok (.bipush 20, 2) := by decide +kernel
theorem dX9_feed_27 : decode cX9_feed 27 = .ok (.if_icmp .ge 93, 3) := by decide +kernel
theorem dX9_feed_30 : decode cX9_feed 30 = .ok (.iload 6, 2) := by decide +kernel
theorem dX9_feed_32 : decode cX9_feed 32 = .ok (.iconst 4, 1) := by decide +kernel
theorem dX9_feed_33 : decode cX9_feed 33 = .ok (.if_icmp .ge 7, 3) := by decide +kernel
theorem dX9_feed_36 : decode cX9_feed 36 = .ok (.iload_n 1, 1) := by decide +kernel
theorem dX9_feed_37 : decode cX9_feed 37 = .ok (.goto 39, 3) := by decide +kernel
theorem dX9_feed_40 : decode cX9_feed 40 = .ok (.iload 6, 2) := by decide +kernel
theorem dX9_feed_42 : decode cX9_feed 42 = .ok (.bipush 8, 2) := by decide +kernel
theorem dX9_feed_44 : decode cX9_feed 44 = .ok (.if_icmp .ge 7, 3) := by decide +kernel
theorem dX9_feed_47 : decode cX9_feed 47 = .ok (.iload_n 2, 1) := by decide +kernel
theorem dX9_feed_48 : decode cX9_feed 48 = .ok (.goto 28, 3) := by decide +kernel
theorem dX9_feed_51 : decode cX9_feed 51 = .ok (.iload 6, 2) := by decide +kernel
theorem dX9_feed_53 : decode cX9_feed 53 = .ok (.bipush 12, 2) := by decide +kernel
theorem dX9_feed_55 : decode cX9_feed 55 = .ok (.if_icmp .ge 7, 3) := by decide +kernel
theorem dX9_feed_58 : decode cX9_feed 58 = .ok (.iload_n 3, 1) := by decide +kernel
theorem dX9_feed_59 : decode cX9_feed 59 = .ok (.goto 17, 3) := by decide +kernel
theorem dX9_feed_62 : decode cX9_feed 62 = .ok (.iload 6, 2) := by decide +kernel
theorem dX9_feed_64 : decode cX9_feed 64 = .ok (.bipush 16, 2) := by decide +kernel
theorem dX9_feed_66 : decode cX9_feed 66 = .ok (.if_icmp .ge 8, 3) := by decide +kernel
theorem dX9_feed_69 : decode cX9_feed 69 = .ok (.iload 4, 2) := by decide +kernel
theorem dX9_feed_71 : decode cX9_feed 71 = .ok (.goto 5, 3) := by decide +kernel
theorem dX9_feed_74 : decode cX9_feed 74 = .ok (.iload 5, 2) := by decide +kernel
theorem dX9_feed_76 : decode cX9_feed 76 = .ok (.istore 7, 2) := by decide +kernel
theorem dX9_feed_78 : decode cX9_feed 78 = .ok (.aload_n 0, 1) := by decide +kernel
theorem dX9_feed_79 : decode cX9_feed 79 = .ok (.getfield 81, 3) := by decide +kernel
theorem dX9_feed_82 : decode cX9_feed 82 = .ok (.aload_n 0, 1) := by decide +kernel
theorem dX9_feed_83 : decode cX9_feed 83 = .ok (.getfield 137, 3) := by decide +kernel
theorem dX9_feed_86 : decode cX9_feed 86 = .ok (.iload 7, 2) := by decide +kernel
theorem dX9_feed_88 : decode cX9_feed 88 = .ok (.bipush 24, 2) := by decide +kernel
theorem dX9_feed_90 : decode cX9_feed 90 = .ok (.bipush 8, 2) := by decide +kernel
theorem dX9_feed_92 : decode cX9_feed 92 = .ok (.iload 6, 2) := by decide +kernel
theorem dX9_feed_94 : decode cX9_feed 94 = .ok (.iconst 4, 1) := by decide +kernel
theorem dX9_feed_95 : decode cX9_feed 95 = .ok (.irem, 1) := by decide +kernel
theorem dX9_feed_96 : decode cX9_feed 96 = .ok (.imul, 1) := by decide +kernel
theorem dX9_feed_97 : decode cX9_feed 97 = .ok (.isub, 1) := by decide +kernel
theorem dX9_feed_98 : decode cX9_feed 98 = .ok (.ishr, 1) := by decide +kernel
theorem dX9_feed_99 : decode cX9_feed 99 = .ok (.sipush 255, 3) := by decide +kernel
theorem dX9_feed_102 : decode cX9_feed 102 = .ok (.iand, 1) := by decide +kernel
theorem dX9_feed_103 : decode cX9_feed 103 = .ok (.iastore, 1) := by decide +kernel
theorem dX9_feed_104 : decode cX9_feed 104 = .ok (.aload_n 0, 1) := by decide +kernel
theorem dX9_feed_105 : decode cX9_feed 105 = .ok (.dup, 1) := by decide +kernel
theorem dX9_feed_106 : decode cX9_feed 106 = .ok (.getfield 137, 3) := by decide +kernel
theorem dX9_feed_109 : decode cX9_feed 109 = .ok (.iconst 1, 1) := by decide +kernel
theorem dX9_feed_110 : decode cX9_feed 110 = .ok (.iadd, 1) := by decide +kernel
theorem dX9_feed_111 : decode cX9_feed 111 = .ok (.putfield 137, 3) := by decide +kernel
theorem dX9_feed_114 : decode cX9_feed 114 = .ok (.iinc 6 1, 3) := by decide +kernel
theorem dX9_feed_117 : decode cX9_feed 117 = .ok (.goto (-94), 3) := by decide +kernel
theorem dX9_feed_120 : decode cX9_feed 120 = .ok (.aload_n 0, 1) := by decide +kernel
theorem dX9_feed_121 : decode cX9_feed 121 = .ok (.getfield 137, 3) := by decide +kernel
theorem dX9_feed_124 : decode cX9_feed 124 = .ok (.ireturn, 1) := by decide +kernel
theorem dX9_byteAt_0 : decode cX9_byteAt 0 = .ok (.iload_n 1, 1) := by decide +kernel
theorem dX9_byteAt_1 : decode cX9_byteAt 1 = .ok (.aload_n 0, 1) := by decide +kernel
theorem dX9_byteAt_2 : decode cX9_byteAt 2 = .ok (.getfield 140, 3) := by decide +kernel
theorem dX9_byteAt_5 : decode cX9_byteAt 5 = .ok (.if_icmp .ge 12, 3) := by decide +kernel
theorem dX9_byteAt_8 : decode cX9_byteAt 8 = .ok (.aload_n 0, 1) := by decide +kernel
theorem dX9_byteAt_9 : decode cX9_byteAt 9 = .ok (.getfield 81, 3) := by decide +kernel
theorem dX9_byteAt_12 : decode cX9_byteAt 12 = .ok (.iload_n 1, 1) := by decide +kernel
theorem dX9_byteAt_13 : decode cX9_byteAt 13 = .ok (.iaload, 1) := by decide +kernel
theorem dX9_byteAt_14 : decode cX9_byteAt 14 = .ok (.goto 4, 3) := by decide +kernel
theorem dX9_byteAt_17 : decode cX9_byteAt 17 = .ok (.iconst (-1), 1) := by decide +kernel
theorem dX9_byteAt_18 : decode cX9_byteAt 18 = .ok (.ireturn, 1) := by decide +kernel
theorem dX9_isLetter_0 : decode cX9_isLetter 0 = .ok (.iload_n 0, 1) := by decide +kernel
theorem dX9_isLetter_1 : decode cX9_isLetter 1 = .ok (.bipush 97, 2) := by decide +kernel
theorem dX9_isLetter_3 : decode cX9_isLetter 3 = .ok (.if_icmp .lt 13, 3) := by decide +kernel
theorem dX9_isLetter_6 : decode cX9_isLetter 6 = .ok (.iload_n 0, 1) := by decide +kernel
theorem dX9_isLetter_7 : decode cX9_isLetter 7 = .ok (.bipush 122, 2) := by decide +kernel
theorem dX9_isLetter_9 : decode cX9_isLetter 9 = .ok (.if_icmp .gt 7, 3) := by decide +kernel
theorem dX9_isLetter_12 : decode cX9_isLetter 12 = .ok (.iconst 1, 1) := by decide +kernel
theorem dX9_isLetter_13 : decode cX9_isLetter 13 = .ok (.goto 4, 3) := by decide +kernel
theorem dX9_isLetter_16 : decode cX9_isLetter 16 = .ok (.iconst 0, 1) := by decide +kernel
theorem dX9_isLetter_17 : decode cX9_isLetter 17 = .ok (.ireturn, 1) := by decide +kernel
theorem dX9_isDigit_0 : decode cX9_isDigit 0 = .ok (.iload_n 0, 1) := by decide +kernel
theorem dX9_isDigit_1 : decode cX9_isDigit 1 = .ok (.bipush 48, 2) := by decide +kernel
theorem dX9_isDigit_3 : decode cX9_isDigit 3 = .ok (.if_icmp .lt 13, 3) := by decide +kernel
theorem dX9_isDigit_6 : decode cX9_isDigit 6 = .ok (.iload_n 0, 1) := by decide +kernel
theorem dX9_isDigit_7 : decode cX9_isDigit 7 = .ok (.bipush 57, 2) := by decide +kernel
theorem dX9_isDigit_9 : decode cX9_isDigit 9 = .ok (.if_icmp .gt 7, 3) := by decide +kernel
theorem dX9_isDigit_12 : decode cX9_isDigit 12 = .ok (.iconst 1, 1) := by decide +kernel
theorem dX9_isDigit_13 : decode cX9_isDigit 13 = .ok (.goto 4, 3) := by decide +kernel
theorem dX9_isDigit_16 : decode cX9_isDigit 16 = .ok (.iconst 0, 1) := by decide +kernel
theorem dX9_isDigit_17 : decode cX9_isDigit 17 = .ok (.ireturn, 1) := by decide +kernel
theorem dX9_isMark_0 : decode cX9_isMark 0 = .ok (.iload_n 0, 1) := by decide +kernel
theorem dX9_isMark_1 : decode cX9_isMark 1 = .ok (.bipush 59, 2) := by decide +kernel
theorem dX9_isMark_3 : decode cX9_isMark 3 = .ok (.if_icmp .eq 39, 3) := by decide +kernel
theorem dX9_isMark_6 : decode cX9_isMark 6 = .ok (.iload_n 0, 1) := by decide +kernel
theorem dX9_isMark_7 : decode cX9_isMark 7 = .ok (.bipush 45, 2) := by decide +kernel
theorem dX9_isMark_9 : decode cX9_isMark 9 = .ok (.if_icmp .eq 33, 3) := by decide +kernel
theorem dX9_isMark_12 : decode cX9_isMark 12 = .ok (.iload_n 0, 1) := by decide +kernel
theorem dX9_isMark_13 : decode cX9_isMark 13 = .ok (.bipush 40, 2) := by decide +kernel
theorem dX9_isMark_15 : decode cX9_isMark 15 = .ok (.if_icmp .eq 27, 3) := by decide +kernel
theorem dX9_isMark_18 : decode cX9_isMark 18 = .ok (.iload_n 0, 1) := by decide +kernel
theorem dX9_isMark_19 : decode cX9_isMark 19 = .ok (.bipush 41, 2) := by decide +kernel
theorem dX9_isMark_21 : decode cX9_isMark 21 = .ok (.if_icmp .eq 21, 3) := by decide +kernel
theorem dX9_isMark_24 : decode cX9_isMark 24 = .ok (.iload_n 0, 1) := by decide +kernel
theorem dX9_isMark_25 : decode cX9_isMark 25 = .ok (.bipush 60, 2) := by decide +kernel
theorem dX9_isMark_27 : decode cX9_isMark 27 = .ok (.if_icmp .eq 15, 3) := by decide +kernel
theorem dX9_isMark_30 : decode cX9_isMark 30 = .ok (.iload_n 0, 1) := by decide +kernel
theorem dX9_isMark_31 : decode cX9_isMark 31 = .ok (.bipush 61, 2) := by decide +kernel
theorem dX9_isMark_33 : decode cX9_isMark 33 = .ok (.if_icmp .eq 9, 3) := by decide +kernel
theorem dX9_isMark_36 : decode cX9_isMark 36 = .ok (.iload_n 0, 1) := by decide +kernel
theorem dX9_isMark_37 : decode cX9_isMark 37 = .ok (.bipush 62, 2) := by decide +kernel
theorem dX9_isMark_39 : decode cX9_isMark 39 = .ok (.if_icmp .ne 7, 3) := by decide +kernel
theorem dX9_isMark_42 : decode cX9_isMark 42 = .ok (.iconst 1, 1) := by decide +kernel
theorem dX9_isMark_43 : decode cX9_isMark 43 = .ok (.goto 4, 3) := by decide +kernel
theorem dX9_isMark_46 : decode cX9_isMark 46 = .ok (.iconst 0, 1) := by decide +kernel
theorem dX9_isMark_47 : decode cX9_isMark 47 = .ok (.ireturn, 1) := by decide +kernel
theorem dX9_stepOn_0 : decode cX9_stepOn 0 = .ok (.aload_n 0, 1) := by decide +kernel
theorem dX9_stepOn_1 : decode cX9_stepOn 1 = .ok (.aload_n 0, 1) := by decide +kernel
theorem dX9_stepOn_2 : decode cX9_stepOn 2 = .ok (.getfield 143, 3) := by decide +kernel
theorem dX9_stepOn_5 : decode cX9_stepOn 5 = .ok (.invokevirtual 146, 3) := by decide +kernel
theorem dX9_stepOn_8 : decode cX9_stepOn 8 = .ok (.bipush 32, 2) := by decide +kernel
theorem dX9_stepOn_10 : decode cX9_stepOn 10 = .ok (.if_icmp .eq 16, 3) := by decide +kernel
theorem dX9_stepOn_13 : decode cX9_stepOn 13 = .ok (.aload_n 0, 1) := by decide +kernel
theorem dX9_stepOn_14 : decode cX9_stepOn 14 = .ok (.aload_n 0, 1) := by decide +kernel
theorem dX9_stepOn_15 : decode cX9_stepOn 15 = .ok (.getfield 143, 3) := by decide +kernel
theorem dX9_stepOn_18 : decode cX9_stepOn 18 = .ok (.invokevirtual 146, 3) := by decide +kernel
theorem dX9_stepOn_21 : decode cX9_stepOn 21 = .ok (.bipush 10, 2) := by decide +kernel
theorem dX9_stepOn_23 : decode cX9_stepOn 23 = .ok (.if_icmp .ne 16, 3) := by decide +kernel
theorem dX9_stepOn_26 : decode cX9_stepOn 26 = .ok (.aload_n 0, 1) := by decide +kernel
theorem dX9_stepOn_27 : decode cX9_stepOn 27 = .ok (.dup, 1) := by decide +kernel
theorem dX9_stepOn_28 : decode cX9_stepOn 28 = .ok (.getfield 143, 3) := by decide +kernel
theorem dX9_stepOn_31 : decode cX9_stepOn 31 = .ok (.iconst 1, 1) := by decide +kernel
theorem dX9_stepOn_32 : decode cX9_stepOn 32 = .ok (.iadd, 1) := by decide +kernel
theorem dX9_stepOn_33 : decode cX9_stepOn 33 = .ok (.putfield 143, 3) := by decide +kernel
theorem dX9_stepOn_36 : decode cX9_stepOn 36 = .ok (.goto (-36), 3) := by decide +kernel
theorem dX9_stepOn_39 : decode cX9_stepOn 39 = .ok (.aload_n 0, 1) := by decide +kernel
theorem dX9_stepOn_40 : decode cX9_stepOn 40 = .ok (.aload_n 0, 1) := by decide +kernel
theorem dX9_stepOn_41 : decode cX9_stepOn 41 = .ok (.getfield 143, 3) := by decide +kernel
theorem dX9_stepOn_44 : decode cX9_stepOn 44 = .ok (.putfield 150, 3) := by decide +kernel
theorem dX9_stepOn_47 : decode cX9_stepOn 47 = .ok (.aload_n 0, 1) := by decide +kernel
theorem dX9_stepOn_48 : decode cX9_stepOn 48 = .ok (.aload_n 0, 1) := by decide +kernel
theorem dX9_stepOn_49 : decode cX9_stepOn 49 = .ok (.getfield 143, 3) := by decide +kernel
theorem dX9_stepOn_52 : decode cX9_stepOn 52 = .ok (.invokevirtual 146, 3) := by decide +kernel
theorem dX9_stepOn_55 : decode cX9_stepOn 55 = .ok (.istore_n 1, 1) := by decide +kernel
theorem dX9_stepOn_56 : decode cX9_stepOn 56 = .ok (.iload_n 1, 1) := by decide +kernel
theorem dX9_stepOn_57 : decode cX9_stepOn 57 = .ok (.iconst (-1), 1) := by decide +kernel
theorem dX9_stepOn_58 : decode cX9_stepOn 58 = .ok (.if_icmp .ne 11, 3) := by decide +kernel
theorem dX9_stepOn_61 : decode cX9_stepOn 61 = .ok (.aload_n 0, 1) := by decide +kernel
theorem dX9_stepOn_62 : decode cX9_stepOn 62 = .ok (.iconst 0, 1) := by decide +kernel
theorem dX9_stepOn_63 : decode cX9_stepOn 63 = .ok (.putfield 153, 3) := by decide +kernel
theorem dX9_stepOn_66 : decode cX9_stepOn 66 = .ok (.goto 146, 3) := by decide +kernel
theorem dX9_stepOn_69 : decode cX9_stepOn 69 = .ok (.iload_n 1, 1) := by decide +kernel
theorem dX9_stepOn_70 : decode cX9_stepOn 70 = .ok (.invokestatic 156, 3) := by decide +kernel
theorem dX9_stepOn_73 : decode cX9_stepOn 73 = .ok (.ifCond .eq 38, 3) := by decide +kernel
theorem dX9_stepOn_76 : decode cX9_stepOn 76 = .ok (.aload_n 0, 1) := by decide +kernel
theorem dX9_stepOn_77 : decode cX9_stepOn 77 = .ok (.aload_n 0, 1) := by decide +kernel
theorem dX9_stepOn_78 : decode cX9_stepOn 78 = .ok (.getfield 143, 3) := by decide +kernel
theorem dX9_stepOn_81 : decode cX9_stepOn 81 = .ok (.invokevirtual 146, 3) := by decide +kernel
theorem dX9_stepOn_84 : decode cX9_stepOn 84 = .ok (.invokestatic 156, 3) := by decide +kernel
theorem dX9_stepOn_87 : decode cX9_stepOn 87 = .ok (.ifCond .eq 16, 3) := by decide +kernel
theorem dX9_stepOn_90 : decode cX9_stepOn 90 = .ok (.aload_n 0, 1) := by decide +kernel
theorem dX9_stepOn_91 : decode cX9_stepOn 91 = .ok (.dup, 1) := by decide +kernel
theorem dX9_stepOn_92 : decode cX9_stepOn 92 = .ok (.getfield 143, 3) := by decide +kernel
theorem dX9_stepOn_95 : decode cX9_stepOn 95 = .ok (.iconst 1, 1) := by decide +kernel
theorem dX9_stepOn_96 : decode cX9_stepOn 96 = .ok (.iadd, 1) := by decide +kernel
theorem dX9_stepOn_97 : decode cX9_stepOn 97 = .ok (.putfield 143, 3) := by decide +kernel
theorem dX9_stepOn_100 : decode cX9_stepOn 100 = .ok (.goto (-24), 3) := by decide +kernel
theorem dX9_stepOn_103 : decode cX9_stepOn 103 = .ok (.aload_n 0, 1) := by decide +kernel
theorem dX9_stepOn_104 : decode cX9_stepOn 104 = .ok (.iconst 1, 1) := by decide +kernel
theorem dX9_stepOn_105 : decode cX9_stepOn 105 = .ok (.putfield 153, 3) := by decide +kernel
theorem dX9_stepOn_108 : decode cX9_stepOn 108 = .ok (.goto 104, 3) := by decide +kernel
theorem dX9_stepOn_111 : decode cX9_stepOn 111 = .ok (.iload_n 1, 1) := by decide +kernel
theorem dX9_stepOn_112 : decode cX9_stepOn 112 = .ok (.invokestatic 160, 3) := by decide +kernel
theorem dX9_stepOn_115 : decode cX9_stepOn 115 = .ok (.ifCond .eq 71, 3) := by decide +kernel
theorem dX9_stepOn_118 : decode cX9_stepOn 118 = .ok (.aload_n 0, 1) := by decide +kernel
theorem dX9_stepOn_119 : decode cX9_stepOn 119 = .ok (.iconst 0, 1) := by decide +kernel
theorem dX9_stepOn_120 : decode cX9_stepOn 120 = .ok (.putfield 163, 3) := by decide +kernel
theorem dX9_stepOn_123 : decode cX9_stepOn 123 = .ok (.aload_n 0, 1) := by decide +kernel
theorem dX9_stepOn_124 : decode cX9_stepOn 124 = .ok (.aload_n 0, 1) := by decide +kernel
theorem dX9_stepOn_125 : decode cX9_stepOn 125 = .ok (.getfield 143, 3) := by decide +kernel
theorem dX9_stepOn_128 : decode cX9_stepOn 128 = .ok (.invokevirtual 146, 3) := by decide +kernel
theorem dX9_stepOn_131 : decode cX9_stepOn 131 = .ok (.invokestatic 160, 3) := by decide +kernel
theorem dX9_stepOn_134 : decode cX9_stepOn 134 = .ok (.ifCond .eq 44, 3) := by decide +kernel
theorem dX9_stepOn_137 : decode cX9_stepOn 137 = .ok (.aload_n 0, 1) := by decide +kernel
theorem dX9_stepOn_138 : decode cX9_stepOn 138 = .ok (.ldc 166, 2) := by decide +kernel
theorem dX9_stepOn_140 : decode cX9_stepOn 140 = .ok (.bipush 10, 2) := by decide +kernel
theorem dX9_stepOn_142 : decode cX9_stepOn 142 = .ok (.aload_n 0, 1) := by decide +kernel
theorem dX9_stepOn_143 : decode cX9_stepOn 143 = .ok (.getfield 163, 3) := by decide +kernel
theorem dX9_stepOn_146 : decode cX9_stepOn 146 = .ok (.imul, 1) := by decide +kernel
theorem dX9_stepOn_147 : decode cX9_stepOn 147 = .ok (.aload_n 0, 1) := by decide +kernel
theorem dX9_stepOn_148 : decode cX9_stepOn 148 = .ok (.aload_n 0, 1) := by decide +kernel
theorem dX9_stepOn_149 : decode cX9_stepOn 149 = .ok (.getfield 143, 3) := by decide +kernel
theorem dX9_stepOn_152 : decode cX9_stepOn 152 = .ok (.invokevirtual 146, 3) := by decide +kernel
theorem dX9_stepOn_155 : decode cX9_stepOn 155 = .ok (.iadd, 1) := by decide +kernel
theorem dX9_stepOn_156 : decode cX9_stepOn 156 = .ok (.bipush 48, 2) := by decide +kernel
theorem dX9_stepOn_158 : decode cX9_stepOn 158 = .ok (.isub, 1) := by decide +kernel
theorem dX9_stepOn_159 : decode cX9_stepOn 159 = .ok (.invokestatic 167, 3) := by decide +kernel
theorem dX9_stepOn_162 : decode cX9_stepOn 162 = .ok (.putfield 163, 3) := by decide +kernel
theorem dX9_stepOn_165 : decode cX9_stepOn 165 = .ok (.aload_n 0, 1) := by decide +kernel
theorem dX9_stepOn_166 : decode cX9_stepOn 166 = .ok (.dup, 1) := by decide +kernel
theorem dX9_stepOn_167 : decode cX9_stepOn 167 = .ok (.getfield 143, 3) := by decide +kernel
theorem dX9_stepOn_170 : decode cX9_stepOn 170 = .ok (.iconst 1, 1) := by decide +kernel
theorem dX9_stepOn_171 : decode cX9_stepOn 171 = .ok (.iadd, 1) := by decide +kernel
theorem dX9_stepOn_172 : decode cX9_stepOn 172 = .ok (.putfield 143, 3) := by decide +kernel
theorem dX9_stepOn_175 : decode cX9_stepOn 175 = .ok (.goto (-52), 3) := by decide +kernel
theorem dX9_stepOn_178 : decode cX9_stepOn 178 = .ok (.aload_n 0, 1) := by decide +kernel
theorem dX9_stepOn_179 : decode cX9_stepOn 179 = .ok (.iconst 2, 1) := by decide +kernel
theorem dX9_stepOn_180 : decode cX9_stepOn 180 = .ok (.putfield 153, 3) := by decide +kernel
theorem dX9_stepOn_183 : decode cX9_stepOn 183 = .ok (.goto 29, 3) := by decide +kernel
theorem dX9_stepOn_186 : decode cX9_stepOn 186 = .ok (.aload_n 0, 1) := by decide +kernel
theorem dX9_stepOn_187 : decode cX9_stepOn 187 = .ok (.dup, 1) := by decide +kernel
theorem dX9_stepOn_188 : decode cX9_stepOn 188 = .ok (.getfield 143, 3) := by decide +kernel
theorem dX9_stepOn_191 : decode cX9_stepOn 191 = .ok (.iconst 1, 1) := by decide +kernel
theorem dX9_stepOn_192 : decode cX9_stepOn 192 = .ok (.iadd, 1) := by decide +kernel
theorem dX9_stepOn_193 : decode cX9_stepOn 193 = .ok (.putfield 143, 3) := by decide +kernel
theorem dX9_stepOn_196 : decode cX9_stepOn 196 = .ok (.aload_n 0, 1) := by decide +kernel
theorem dX9_stepOn_197 : decode cX9_stepOn 197 = .ok (.iload_n 1, 1) := by decide +kernel
theorem dX9_stepOn_198 : decode cX9_stepOn 198 = .ok (.invokestatic 173, 3) := by decide +kernel
theorem dX9_stepOn_201 : decode cX9_stepOn 201 = .ok (.ifCond .eq 7, 3) := by decide +kernel
theorem dX9_stepOn_204 : decode cX9_stepOn 204 = .ok (.iconst 3, 1) := by decide +kernel
theorem dX9_stepOn_205 : decode cX9_stepOn 205 = .ok (.goto 4, 3) := by decide +kernel
theorem dX9_stepOn_208 : decode cX9_stepOn 208 = .ok (.iconst 4, 1) := by decide +kernel
theorem dX9_stepOn_209 : decode cX9_stepOn 209 = .ok (.putfield 153, 3) := by decide +kernel
theorem dX9_stepOn_212 : decode cX9_stepOn 212 = .ok (.aload_n 0, 1) := by decide +kernel
theorem dX9_stepOn_213 : decode cX9_stepOn 213 = .ok (.aload_n 0, 1) := by decide +kernel
theorem dX9_stepOn_214 : decode cX9_stepOn 214 = .ok (.getfield 143, 3) := by decide +kernel
theorem dX9_stepOn_217 : decode cX9_stepOn 217 = .ok (.putfield 176, 3) := by decide +kernel
theorem dX9_stepOn_220 : decode cX9_stepOn 220 = .ok (.return_, 1) := by decide +kernel
theorem dX9_wrong_0 : decode cX9_wrong 0 = .ok (.aload_n 0, 1) := by decide +kernel
theorem dX9_wrong_1 : decode cX9_wrong 1 = .ok (.getfield 179, 3) := by decide +kernel
theorem dX9_wrong_4 : decode cX9_wrong 4 = .ok (.ifCond .eq 4, 3) := by decide +kernel
theorem dX9_wrong_7 : decode cX9_wrong 7 = .ok (.return_, 1) := by decide +kernel
theorem dX9_wrong_8 : decode cX9_wrong 8 = .ok (.aload_n 0, 1) := by decide +kernel
theorem dX9_wrong_9 : decode cX9_wrong 9 = .ok (.iload_n 1, 1) := by decide +kernel
theorem dX9_wrong_10 : decode cX9_wrong 10 = .ok (.putfield 179, 3) := by decide +kernel
theorem dX9_wrong_13 : decode cX9_wrong 13 = .ok (.aload_n 0, 1) := by decide +kernel
theorem dX9_wrong_14 : decode cX9_wrong 14 = .ok (.aload_n 0, 1) := by decide +kernel
theorem dX9_wrong_15 : decode cX9_wrong 15 = .ok (.getfield 150, 3) := by decide +kernel
theorem dX9_wrong_18 : decode cX9_wrong 18 = .ok (.putfield 182, 3) := by decide +kernel
theorem dX9_wrong_21 : decode cX9_wrong 21 = .ok (.return_, 1) := by decide +kernel
theorem dX9_is_0 : decode cX9_is 0 = .ok (.aload_n 0, 1) := by decide +kernel
theorem dX9_is_1 : decode cX9_is 1 = .ok (.getfield 179, 3) := by decide +kernel
theorem dX9_is_4 : decode cX9_is 4 = .ok (.ifCond .ne 31, 3) := by decide +kernel
theorem dX9_is_7 : decode cX9_is 7 = .ok (.aload_n 0, 1) := by decide +kernel
theorem dX9_is_8 : decode cX9_is 8 = .ok (.getfield 153, 3) := by decide +kernel
theorem dX9_is_11 : decode cX9_is 11 = .ok (.iconst 1, 1) := by decide +kernel
theorem dX9_is_12 : decode cX9_is 12 = .ok (.if_icmp .ne 23, 3) := by decide +kernel
theorem dX9_is_15 : decode cX9_is 15 = .ok (.aload_n 1, 1) := by decide +kernel
theorem dX9_is_16 : decode cX9_is 16 = .ok (.invokevirtual 185, 3) := by decide +kernel
theorem dX9_is_19 : decode cX9_is 19 = .ok (.aload_n 0, 1) := by decide +kernel
theorem dX9_is_20 : decode cX9_is 20 = .ok (.getfield 176, 3) := by decide +kernel
theorem dX9_is_23 : decode cX9_is 23 = .ok (.aload_n 0, 1) := by decide +kernel
theorem dX9_is_24 : decode cX9_is 24 = .ok (.getfield 150, 3) := by decide +kernel
theorem dX9_is_27 : decode cX9_is 27 = .ok (.isub, 1) := by decide +kernel
theorem dX9_is_28 : decode cX9_is 28 = .ok (.if_icmp .ne 7, 3) := by decide +kernel
theorem dX9_is_31 : decode cX9_is 31 = .ok (.iconst 1, 1) := by decide +kernel
theorem dX9_is_32 : decode cX9_is 32 = .ok (.goto 4, 3) := by decide +kernel
theorem dX9_is_35 : decode cX9_is 35 = .ok (.iconst 0, 1) := by decide +kernel
theorem dX9_is_36 : decode cX9_is 36 = .ok (.istore_n 2, 1) := by decide +kernel
theorem dX9_is_37 : decode cX9_is 37 = .ok (.iconst 0, 1) := by decide +kernel
theorem dX9_is_38 : decode cX9_is 38 = .ok (.istore_n 3, 1) := by decide +kernel
theorem dX9_is_39 : decode cX9_is 39 = .ok (.iload_n 2, 1) := by decide +kernel
theorem dX9_is_40 : decode cX9_is 40 = .ok (.ifCond .eq 42, 3) := by decide +kernel
theorem dX9_is_43 : decode cX9_is 43 = .ok (.iload_n 3, 1) := by decide +kernel
theorem dX9_is_44 : decode cX9_is 44 = .ok (.aload_n 1, 1) := by decide +kernel
theorem dX9_is_45 : decode cX9_is 45 = .ok (.invokevirtual 185, 3) := by decide +kernel
theorem dX9_is_48 : decode cX9_is 48 = .ok (.if_icmp .ge 34, 3) := by decide +kernel
theorem dX9_is_51 : decode cX9_is 51 = .ok (.aload_n 1, 1) := by decide +kernel
theorem dX9_is_52 : decode cX9_is 52 = .ok (.iload_n 3, 1) := by decide +kernel
theorem dX9_is_53 : decode cX9_is 53 = .ok (.invokevirtual 189, 3) := by decide +kernel
theorem dX9_is_56 : decode cX9_is 56 = .ok (.aload_n 0, 1) := by decide +kernel
theorem dX9_is_57 : decode cX9_is 57 = .ok (.getfield 81, 3) := by decide +kernel
theorem dX9_is_60 : decode cX9_is 60 = .ok (.aload_n 0, 1) := by decide +kernel
theorem dX9_is_61 : decode cX9_is 61 = .ok (.getfield 150, 3) := by decide +kernel
theorem dX9_is_64 : decode cX9_is 64 = .ok (.iload_n 3, 1) := by decide +kernel
theorem dX9_is_65 : decode cX9_is 65 = .ok (.iadd, 1) := by decide +kernel
theorem dX9_is_66 : decode cX9_is 66 = .ok (.iaload, 1) := by decide +kernel
theorem dX9_is_67 : decode cX9_is 67 = .ok (.if_icmp .ne 7, 3) := by decide +kernel
theorem dX9_is_70 : decode cX9_is 70 = .ok (.iconst 1, 1) := by decide +kernel
theorem dX9_is_71 : decode cX9_is 71 = .ok (.goto 4, 3) := by decide +kernel
theorem dX9_is_74 : decode cX9_is 74 = .ok (.iconst 0, 1) := by decide +kernel
theorem dX9_is_75 : decode cX9_is 75 = .ok (.istore_n 2, 1) := by decide +kernel
theorem dX9_is_76 : decode cX9_is 76 = .ok (.iinc 3 1, 3) := by decide +kernel
theorem dX9_is_79 : decode cX9_is 79 = .ok (.goto (-40), 3) := by decide +kernel
theorem dX9_is_82 : decode cX9_is 82 = .ok (.iload_n 2, 1) := by decide +kernel
theorem dX9_is_83 : decode cX9_is 83 = .ok (.ireturn, 1) := by decide +kernel
theorem dX9_which_0 : decode cX9_which 0 = .ok (.iconst 0, 1) := by decide +kernel
theorem dX9_which_1 : decode cX9_which 1 = .ok (.istore_n 2, 1) := by decide +kernel
theorem dX9_which_2 : decode cX9_which 2 = .ok (.iload_n 2, 1) := by decide +kernel
theorem dX9_which_3 : decode cX9_which 3 = .ok (.aload_n 1, 1) := by decide +kernel
theorem dX9_which_4 : decode cX9_which 4 = .ok (.arraylength, 1) := by decide +kernel
theorem dX9_which_5 : decode cX9_which 5 = .ok (.if_icmp .ge 21, 3) := by decide +kernel
theorem dX9_which_8 : decode cX9_which 8 = .ok (.aload_n 0, 1) := by decide +kernel
theorem dX9_which_9 : decode cX9_which 9 = .ok (.aload_n 1, 1) := by decide +kernel
theorem dX9_which_10 : decode cX9_which 10 = .ok (.iload_n 2, 1) := by decide +kernel
theorem dX9_which_11 : decode cX9_which 11 = .ok (.aaload, 1) := by decide +kernel
theorem dX9_which_12 : decode cX9_which 12 = .ok (.invokevirtual 193, 3) := by decide +kernel
theorem dX9_which_15 : decode cX9_which 15 = .ok (.ifCond .eq 5, 3) := by decide +kernel
theorem dX9_which_18 : decode cX9_which 18 = .ok (.iload_n 2, 1) := by decide +kernel
theorem dX9_which_19 : decode cX9_which 19 = .ok (.ireturn, 1) := by decide +kernel
theorem dX9_which_20 : decode cX9_which 20 = .ok (.iinc 2 1, 3) := by decide +kernel
theorem dX9_which_23 : decode cX9_which 23 = .ok (.goto (-21), 3) := by decide +kernel
theorem dX9_which_26 : decode cX9_which 26 = .ok (.iconst (-1), 1) := by decide +kernel
theorem dX9_which_27 : decode cX9_which 27 = .ok (.ireturn, 1) := by decide +kernel
theorem dX9_isMarked_0 : decode cX9_isMarked 0 = .ok (.aload_n 0, 1) := by decide +kernel
theorem dX9_isMarked_1 : decode cX9_isMarked 1 = .ok (.getfield 179, 3) := by decide +kernel
theorem dX9_isMarked_4 : decode cX9_isMarked 4 = .ok (.ifCond .ne 28, 3) := by decide +kernel
theorem dX9_isMarked_7 : decode cX9_isMarked 7 = .ok (.aload_n 0, 1) := by decide +kernel
theorem dX9_isMarked_8 : decode cX9_isMarked 8 = .ok (.getfield 153, 3) := by decide +kernel
theorem dX9_isMarked_11 : decode cX9_isMarked 11 = .ok (.iconst 3, 1) := by decide +kernel
theorem dX9_isMarked_12 : decode cX9_isMarked 12 = .ok (.if_icmp .ne 20, 3) := by decide +kernel
theorem dX9_isMarked_15 : decode cX9_isMarked 15 = .ok (.aload_n 0, 1) := by decide +kernel
theorem dX9_isMarked_16 : decode cX9_isMarked 16 = .ok (.getfield 81, 3) := by decide +kernel
theorem dX9_isMarked_19 : decode cX9_isMarked 19 = .ok (.aload_n 0, 1) := by decide +kernel
theorem dX9_isMarked_20 : decode cX9_isMarked 20 = .ok (.getfield 150, 3) := by decide +kernel
theorem dX9_isMarked_23 : decode cX9_isMarked 23 = .ok (.iaload, 1) := by decide +kernel
theorem dX9_isMarked_24 : decode cX9_isMarked 24 = .ok (.iload_n 1, 1) := by decide +kernel
theorem dX9_isMarked_25 : decode cX9_isMarked 25 = .ok (.if_icmp .ne 7, 3) := by decide +kernel
theorem dX9_isMarked_28 : decode cX9_isMarked 28 = .ok (.iconst 1, 1) := by decide +kernel
theorem dX9_isMarked_29 : decode cX9_isMarked 29 = .ok (.goto 4, 3) := by decide +kernel
theorem dX9_isMarked_32 : decode cX9_isMarked 32 = .ok (.iconst 0, 1) := by decide +kernel
theorem dX9_isMarked_33 : decode cX9_isMarked 33 = .ok (.ireturn, 1) := by decide +kernel
theorem dX9_pass_0 : decode cX9_pass 0 = .ok (.aload_n 0, 1) := by decide +kernel
theorem dX9_pass_1 : decode cX9_pass 1 = .ok (.getfield 179, 3) := by decide +kernel
theorem dX9_pass_4 : decode cX9_pass 4 = .ok (.ifCond .ne 7, 3) := by decide +kernel
theorem dX9_pass_7 : decode cX9_pass 7 = .ok (.aload_n 0, 1) := by decide +kernel
theorem dX9_pass_8 : decode cX9_pass 8 = .ok (.invokevirtual 197, 3) := by decide +kernel
theorem dX9_pass_11 : decode cX9_pass 11 = .ok (.return_, 1) := by decide +kernel
theorem dX9_mark_0 : decode cX9_mark 0 = .ok (.aload_n 0, 1) := by decide +kernel
theorem dX9_mark_1 : decode cX9_mark 1 = .ok (.iload_n 1, 1) := by decide +kernel
theorem dX9_mark_2 : decode cX9_mark 2 = .ok (.invokevirtual 200, 3) := by decide +kernel
theorem dX9_mark_5 : decode cX9_mark 5 = .ok (.ifCond .ne 8, 3) := by decide +kernel
theorem dX9_mark_8 : decode cX9_mark 8 = .ok (.aload_n 0, 1) := by decide +kernel
theorem dX9_mark_9 : decode cX9_mark 9 = .ok (.iconst 1, 1) := by decide +kernel
theorem dX9_mark_10 : decode cX9_mark 10 = .ok (.invokevirtual 203, 3) := by decide +kernel
theorem dX9_mark_13 : decode cX9_mark 13 = .ok (.aload_n 0, 1) := by decide +kernel
theorem dX9_mark_14 : decode cX9_mark 14 = .ok (.invokevirtual 207, 3) := by decide +kernel
theorem dX9_mark_17 : decode cX9_mark 17 = .ok (.return_, 1) := by decide +kernel
theorem dX9_numberNow_0 : decode cX9_numberNow 0 = .ok (.aload_n 0, 1) := by decide +kernel
theorem dX9_numberNow_1 : decode cX9_numberNow 1 = .ok (.getfield 179, 3) := by decide +kernel
theorem dX9_numberNow_4 : decode cX9_numberNow 4 = .ok (.ifCond .eq 5, 3) := by decide +kernel
theorem dX9_numberNow_7 : decode cX9_numberNow 7 = .ok (.iconst 0, 1) := by decide +kernel
theorem dX9_numberNow_8 : decode cX9_numberNow 8 = .ok (.ireturn, 1) := by decide +kernel
theorem dX9_numberNow_9 : decode cX9_numberNow 9 = .ok (.aload_n 0, 1) := by decide +kernel
theorem dX9_numberNow_10 : decode cX9_numberNow 10 = .ok (.getfield 153, 3) := by decide +kernel
theorem dX9_numberNow_13 : decode cX9_numberNow 13 = .ok (.iconst 2, 1) := by decide +kernel
theorem dX9_numberNow_14 : decode cX9_numberNow 14 = .ok (.if_icmp .eq 11, 3) := by decide +kernel
theorem dX9_numberNow_17 : decode cX9_numberNow 17 = .ok (.aload_n 0, 1) := by decide +kernel
theorem dX9_numberNow_18 : decode cX9_numberNow 18 = .ok (.iconst 1, 1) := by decide +kernel
theorem dX9_numberNow_19 : decode cX9_numberNow 19 = .ok (.invokevirtual 203, 3) := by decide +kernel
theorem dX9_numberNow_22 : decode cX9_numberNow 22 = .ok (.goto 39, 3) := by decide +kernel
theorem dX9_numberNow_25 : decode cX9_numberNow 25 = .ok (.aload_n 0, 1) := by decide +kernel
theorem dX9_numberNow_26 : decode cX9_numberNow 26 = .ok (.getfield 176, 3) := by decide +kernel
theorem dX9_numberNow_29 : decode cX9_numberNow 29 = .ok (.aload_n 0, 1) := by decide +kernel
theorem dX9_numberNow_30 : decode cX9_numberNow 30 = .ok (.getfield 150, 3) := by decide +kernel
theorem dX9_numberNow_33 : decode cX9_numberNow 33 = .ok (.isub, 1) := by decide +kernel
theorem dX9_numberNow_34 : decode cX9_numberNow 34 = .ok (.bipush 7, 2) := by decide +kernel
theorem dX9_numberNow_36 : decode cX9_numberNow 36 = .ok (.if_icmp .gt 20, 3) := by decide +kernel
theorem dX9_numberNow_39 : decode cX9_numberNow 39 = .ok (.iload_n 1, 1) := by decide +kernel
theorem dX9_numberNow_40 : decode cX9_numberNow 40 = .ok (.aload_n 0, 1) := by decide +kernel
theorem dX9_numberNow_41 : decode cX9_numberNow 41 = .ok (.getfield 163, 3) := by decide +kernel
theorem dX9_numberNow_44 : decode cX9_numberNow 44 = .ok (.imul, 1) := by decide +kernel
theorem dX9_numberNow_45 : decode cX9_numberNow 45 = .ok (.i2l, 1) := by decide +kernel
theorem dX9_numberNow_46 : decode cX9_numberNow 46 = .ok (.iload_n 2, 1) := by decide +kernel
theorem dX9_numberNow_47 : decode cX9_numberNow 47 = .ok (.i2l, 1) := by decide +kernel
theorem dX9_numberNow_48 : decode cX9_numberNow 48 = .ok (.iload_n 3, 1) := by decide +kernel
theorem dX9_numberNow_49 : decode cX9_numberNow 49 = .ok (.i2l, 1) := by decide +kernel
theorem dX9_numberNow_50 : decode cX9_numberNow 50 = .ok (.invokestatic 210, 3) := by decide +kernel
theorem dX9_numberNow_53 : decode cX9_numberNow 53 = .ok (.ifCond .ne 8, 3) := by decide +kernel
theorem dX9_numberNow_56 : decode cX9_numberNow 56 = .ok (.aload_n 0, 1) := by decide +kernel
theorem dX9_numberNow_57 : decode cX9_numberNow 57 = .ok (.iconst 2, 1) := by decide +kernel
theorem dX9_numberNow_58 : decode cX9_numberNow 58 = .ok (.invokevirtual 203, 3) := by decide +kernel
theorem dX9_numberNow_61 : decode cX9_numberNow 61 = .ok (.aload_n 0, 1) := by decide +kernel
theorem dX9_numberNow_62 : decode cX9_numberNow 62 = .ok (.getfield 179, 3) := by decide +kernel
theorem dX9_numberNow_65 : decode cX9_numberNow 65 = .ok (.ifCond .ne 12, 3) := by decide +kernel
theorem dX9_numberNow_68 : decode cX9_numberNow 68 = .ok (.iload_n 1, 1) := by decide +kernel
theorem dX9_numberNow_69 : decode cX9_numberNow 69 = .ok (.aload_n 0, 1) := by decide +kernel
theorem dX9_numberNow_70 : decode cX9_numberNow 70 = .ok (.getfield 163, 3) := by decide +kernel
theorem dX9_numberNow_73 : decode cX9_numberNow 73 = .ok (.imul, 1) := by decide +kernel
theorem dX9_numberNow_74 : decode cX9_numberNow 74 = .ok (.goto 4, 3) := by decide +kernel
theorem dX9_numberNow_77 : decode cX9_numberNow 77 = .ok (.iconst 0, 1) := by decide +kernel
theorem dX9_numberNow_78 : decode cX9_numberNow 78 = .ok (.ireturn, 1) := by decide +kernel
theorem dX9_readNumber_0 : decode cX9_readNumber 0 = .ok (.aload_n 0, 1) := by decide +kernel
theorem dX9_readNumber_1 : decode cX9_readNumber 1 = .ok (.iconst 1, 1) := by decide +kernel
theorem dX9_readNumber_2 : decode cX9_readNumber 2 = .ok (.iload_n 1, 1) := by decide +kernel
theorem dX9_readNumber_3 : decode cX9_readNumber 3 = .ok (.iload_n 2, 1) := by decide +kernel
theorem dX9_readNumber_4 : decode cX9_readNumber 4 = .ok (.invokevirtual 214, 3) := by decide +kernel
theorem dX9_readNumber_7 : decode cX9_readNumber 7 = .ok (.istore_n 3, 1) := by decide +kernel
theorem dX9_readNumber_8 : decode cX9_readNumber 8 = .ok (.aload_n 0, 1) := by decide +kernel
theorem dX9_readNumber_9 : decode cX9_readNumber 9 = .ok (.invokevirtual 207, 3) := by decide +kernel
theorem dX9_readNumber_12 : decode cX9_readNumber 12 = .ok (.iload_n 3, 1) := by decide +kernel
theorem dX9_readNumber_13 : decode cX9_readNumber 13 = .ok (.ireturn, 1) := by decide +kernel
theorem dX9_readSigned_0 : decode cX9_readSigned 0 = .ok (.iconst 1, 1) := by decide +kernel
theorem dX9_readSigned_1 : decode cX9_readSigned 1 = .ok (.istore_n 3, 1) := by decide +kernel
theorem dX9_readSigned_2 : decode cX9_readSigned 2 = .ok (.aload_n 0, 1) := by decide +kernel
theorem dX9_readSigned_3 : decode cX9_readSigned 3 = .ok (.bipush 45, 2) := by decide +kernel
theorem dX9_readSigned_5 : decode cX9_readSigned 5 = .ok (.invokevirtual 200, 3) := by decide +kernel
theorem dX9_readSigned_8 : decode cX9_readSigned 8 = .ok (.ifCond .eq 9, 3) := by decide +kernel
theorem dX9_readSigned_11 : decode cX9_readSigned 11 = .ok (.iconst (-1), 1) := by decide +kernel
theorem dX9_readSigned_12 : decode cX9_readSigned 12 = .ok (.istore_n 3, 1) := by decide +kernel
theorem dX9_readSigned_13 : decode cX9_readSigned 13 = .ok (.aload_n 0, 1) := by decide +kernel
theorem dX9_readSigned_14 : decode cX9_readSigned 14 = .ok (.invokevirtual 197, 3) := by decide +kernel
theorem dX9_readSigned_17 : decode cX9_readSigned 17 = .ok (.aload_n 0, 1) := by decide +kernel
theorem dX9_readSigned_18 : decode cX9_readSigned 18 = .ok (.iload_n 3, 1) := by decide +kernel
theorem dX9_readSigned_19 : decode cX9_readSigned 19 = .ok (.iload_n 1, 1) := by decide +kernel
theorem dX9_readSigned_20 : decode cX9_readSigned 20 = .ok (.iload_n 2, 1) := by decide +kernel
theorem dX9_readSigned_21 : decode cX9_readSigned 21 = .ok (.invokevirtual 214, 3) := by decide +kernel
theorem dX9_readSigned_24 : decode cX9_readSigned 24 = .ok (.istore 4, 2) := by decide +kernel
theorem dX9_readSigned_26 : decode cX9_readSigned 26 = .ok (.aload_n 0, 1) := by decide +kernel
theorem dX9_readSigned_27 : decode cX9_readSigned 27 = .ok (.invokevirtual 207, 3) := by decide +kernel
theorem dX9_readSigned_30 : decode cX9_readSigned 30 = .ok (.iload 4, 2) := by decide +kernel
theorem dX9_readSigned_32 : decode cX9_readSigned 32 = .ok (.ireturn, 1) := by decide +kernel
theorem dX9_begin_0 : decode cX9_begin 0 = .ok (.aload_n 0, 1) := by decide +kernel
theorem dX9_begin_1 : decode cX9_begin 1 = .ok (.iconst 0, 1) := by decide +kernel
theorem dX9_begin_2 : decode cX9_begin 2 = .ok (.putfield 137, 3) := by decide +kernel
theorem dX9_begin_5 : decode cX9_begin 5 = .ok (.aload_n 0, 1) := by decide +kernel
theorem dX9_begin_6 : decode cX9_begin 6 = .ok (.iload_n 1, 1) := by decide +kernel
theorem dX9_begin_7 : decode cX9_begin 7 = .ok (.putfield 140, 3) := by decide +kernel
theorem dX9_begin_10 : decode cX9_begin 10 = .ok (.aload_n 0, 1) := by decide +kernel
theorem dX9_begin_11 : decode cX9_begin 11 = .ok (.iconst 0, 1) := by decide +kernel
theorem dX9_begin_12 : decode cX9_begin 12 = .ok (.putfield 143, 3) := by decide +kernel
theorem dX9_begin_15 : decode cX9_begin 15 = .ok (.aload_n 0, 1) := by decide +kernel
theorem dX9_begin_16 : decode cX9_begin 16 = .ok (.iconst 0, 1) := by decide +kernel
theorem dX9_begin_17 : decode cX9_begin 17 = .ok (.putfield 179, 3) := by decide +kernel
theorem dX9_begin_20 : decode cX9_begin 20 = .ok (.aload_n 0, 1) := by decide +kernel
theorem dX9_begin_21 : decode cX9_begin 21 = .ok (.iconst (-1), 1) := by decide +kernel
theorem dX9_begin_22 : decode cX9_begin 22 = .ok (.putfield 84, 3) := by decide +kernel
theorem dX9_begin_25 : decode cX9_begin 25 = .ok (.aload_n 0, 1) := by decide +kernel
theorem dX9_begin_26 : decode cX9_begin 26 = .ok (.invokevirtual 197, 3) := by decide +kernel
theorem dX9_begin_29 : decode cX9_begin 29 = .ok (.return_, 1) := by decide +kernel
theorem dX9_ended_0 : decode cX9_ended 0 = .ok (.aload_n 0, 1) := by decide +kernel
theorem dX9_ended_1 : decode cX9_ended 1 = .ok (.getfield 179, 3) := by decide +kernel
theorem dX9_ended_4 : decode cX9_ended 4 = .ok (.ifCond .eq 11, 3) := by decide +kernel
theorem dX9_ended_7 : decode cX9_ended 7 = .ok (.aload_n 0, 1) := by decide +kernel
theorem dX9_ended_8 : decode cX9_ended 8 = .ok (.aload_n 0, 1) := by decide +kernel
theorem dX9_ended_9 : decode cX9_ended 9 = .ok (.getfield 182, 3) := by decide +kernel
theorem dX9_ended_12 : decode cX9_ended 12 = .ok (.putfield 84, 3) := by decide +kernel
theorem dX9_ended_15 : decode cX9_ended 15 = .ok (.aload_n 0, 1) := by decide +kernel
theorem dX9_ended_16 : decode cX9_ended 16 = .ok (.getfield 179, 3) := by decide +kernel
theorem dX9_ended_19 : decode cX9_ended 19 = .ok (.ireturn, 1) := by decide +kernel
theorem dX9_lay_0 : decode cX9_lay 0 = .ok (.aload_n 0, 1) := by decide +kernel
theorem dX9_lay_1 : decode cX9_lay 1 = .ok (.getfield 179, 3) := by decide +kernel
theorem dX9_lay_4 : decode cX9_lay 4 = .ok (.ifCond .eq 4, 3) := by decide +kernel
theorem dX9_lay_7 : decode cX9_lay 7 = .ok (.return_, 1) := by decide +kernel
theorem dX9_lay_8 : decode cX9_lay 8 = .ok (.aload_n 0, 1) := by decide +kernel
theorem dX9_lay_9 : decode cX9_lay 9 = .ok (.getfield 93, 3) := by decide +kernel
theorem dX9_lay_12 : decode cX9_lay 12 = .ok (.aload_n 0, 1) := by decide +kernel
theorem dX9_lay_13 : decode cX9_lay 13 = .ok (.getfield 218, 3) := by decide +kernel
theorem dX9_lay_16 : decode cX9_lay 16 = .ok (.iload_n 1, 1) := by decide +kernel
theorem dX9_lay_17 : decode cX9_lay 17 = .ok (.iastore, 1) := by decide +kernel
theorem dX9_lay_18 : decode cX9_lay 18 = .ok (.aload_n 0, 1) := by decide +kernel
theorem dX9_lay_19 : decode cX9_lay 19 = .ok (.dup, 1) := by decide +kernel
theorem dX9_lay_20 : decode cX9_lay 20 = .ok (.getfield 218, 3) := by decide +kernel
theorem dX9_lay_23 : decode cX9_lay 23 = .ok (.iconst 1, 1) := by decide +kernel
theorem dX9_lay_24 : decode cX9_lay 24 = .ok (.iadd, 1) := by decide +kernel
theorem dX9_lay_25 : decode cX9_lay 25 = .ok (.putfield 218, 3) := by decide +kernel
theorem dX9_lay_28 : decode cX9_lay 28 = .ok (.return_, 1) := by decide +kernel
theorem dX9_readUnit_0 : decode cX9_readUnit 0 = .ok (.aload_n 0, 1) := by decide +kernel
theorem dX9_readUnit_1 : decode cX9_readUnit 1 = .ok (.ldc 221, 2) := by decide +kernel
theorem dX9_readUnit_3 : decode cX9_readUnit 3 = .ok (.invokevirtual 193, 3) := by decide +kernel
theorem dX9_readUnit_6 : decode cX9_readUnit 6 = .ok (.istore_n 2, 1) := by decide +kernel
theorem dX9_readUnit_7 : decode cX9_readUnit 7 = .ok (.iload_n 2, 1) := by decide +kernel
theorem dX9_readUnit_8 : decode cX9_readUnit 8 = .ok (.ifCond .ne 12, 3) := by decide +kernel
theorem dX9_readUnit_11 : decode cX9_readUnit 11 = .ok (.aload_n 0, 1) := by decide +kernel
theorem dX9_readUnit_12 : decode cX9_readUnit 12 = .ok (.bipush 40, 2) := by decide +kernel
theorem dX9_readUnit_14 : decode cX9_readUnit 14 = .ok (.invokevirtual 200, 3) := by decide +kernel
theorem dX9_readUnit_17 : decode cX9_readUnit 17 = .ok (.ifCond .eq 59, 3) := by decide +kernel
theorem dX9_readUnit_20 : decode cX9_readUnit 20 = .ok (.iload_n 1, 1) := by decide +kernel
theorem dX9_readUnit_21 : decode cX9_readUnit 21 = .ok (.bipush 6, 2) := by decide +kernel
theorem dX9_readUnit_23 : decode cX9_readUnit 23 = .ok (.if_icmp .ne 8, 3) := by decide +kernel
theorem dX9_readUnit_26 : decode cX9_readUnit 26 = .ok (.aload_n 0, 1) := by decide +kernel
theorem dX9_readUnit_27 : decode cX9_readUnit 27 = .ok (.iconst 2, 1) := by decide +kernel
theorem dX9_readUnit_28 : decode cX9_readUnit 28 = .ok (.invokevirtual 203, 3) := by decide +kernel
theorem dX9_readUnit_31 : decode cX9_readUnit 31 = .ok (.aload_n 0, 1) := by decide +kernel
theorem dX9_readUnit_32 : decode cX9_readUnit 32 = .ok (.invokevirtual 207, 3) := by decide +kernel
theorem dX9_readUnit_35 : decode cX9_readUnit 35 = .ok (.iload_n 2, 1) := by decide +kernel
theorem dX9_readUnit_36 : decode cX9_readUnit 36 = .ok (.ifCond .eq 13, 3) := by decide +kernel
theorem dX9_readUnit_39 : decode cX9_readUnit 39 = .ok (.aload_n 0, 1) := by decide +kernel
theorem dX9_readUnit_40 : decode cX9_readUnit 40 = .ok (.iload_n 1, 1) := by decide +kernel
theorem dX9_readUnit_41 : decode cX9_readUnit 41 = .ok (.iconst 1, 1) := by decide +kernel
theorem dX9_readUnit_42 : decode cX9_readUnit 42 = .ok (.iadd, 1) := by decide +kernel
theorem dX9_readUnit_43 : decode cX9_readUnit 43 = .ok (.invokevirtual 223, 3) := by decide +kernel
theorem dX9_readUnit_46 : decode cX9_readUnit 46 = .ok (.goto 10, 3) := by decide +kernel
theorem dX9_readUnit_49 : decode cX9_readUnit 49 = .ok (.aload_n 0, 1) := by decide +kernel
theorem dX9_readUnit_50 : decode cX9_readUnit 50 = .ok (.iload_n 1, 1) := by decide +kernel
theorem dX9_readUnit_51 : decode cX9_readUnit 51 = .ok (.iconst 1, 1) := by decide +kernel
theorem dX9_readUnit_52 : decode cX9_readUnit 52 = .ok (.iadd, 1) := by decide +kernel
theorem dX9_readUnit_53 : decode cX9_readUnit 53 = .ok (.invokevirtual 226, 3) := by decide +kernel
theorem dX9_readUnit_56 : decode cX9_readUnit 56 = .ok (.iload_n 2, 1) := by decide +kernel
theorem dX9_readUnit_57 : decode cX9_readUnit 57 = .ok (.ifCond .eq 12, 3) := by decide +kernel
theorem dX9_readUnit_60 : decode cX9_readUnit 60 = .ok (.aload_n 0, 1) := by decide +kernel
theorem dX9_readUnit_61 : decode cX9_readUnit 61 = .ok (.bipush 20, 2) := by decide +kernel
theorem dX9_readUnit_63 : decode cX9_readUnit 63 = .ok (.invokevirtual 229, 3) := by decide +kernel
theorem dX9_readUnit_66 : decode cX9_readUnit 66 = .ok (.goto 9, 3) := by decide +kernel
theorem dX9_readUnit_69 : decode cX9_readUnit 69 = .ok (.aload_n 0, 1) := by decide +kernel
theorem dX9_readUnit_70 : decode cX9_readUnit 70 = .ok (.bipush 41, 2) := by decide +kernel
theorem dX9_readUnit_72 : decode cX9_readUnit 72 = .ok (.invokevirtual 232, 3) := by decide +kernel
theorem dX9_readUnit_75 : decode cX9_readUnit 75 = .ok (.return_, 1) := by decide +kernel
theorem dX9_readUnit_76 : decode cX9_readUnit 76 = .ok (.aload_n 0, 1) := by decide +kernel
theorem dX9_readUnit_77 : decode cX9_readUnit 77 = .ok (.aload_n 0, 1) := by decide +kernel
theorem dX9_readUnit_78 : decode cX9_readUnit 78 = .ok (.getfield 21, 3) := by decide +kernel
theorem dX9_readUnit_81 : decode cX9_readUnit 81 = .ok (.invokevirtual 235, 3) := by decide +kernel
theorem dX9_readUnit_84 : decode cX9_readUnit 84 = .ok (.istore_n 3, 1) := by decide +kernel
theorem dX9_readUnit_85 : decode cX9_readUnit 85 = .ok (.iload_n 3, 1) := by decide +kernel
theorem dX9_readUnit_86 : decode cX9_readUnit 86 = .ok (.iconst (-1), 1) := by decide +kernel
theorem dX9_readUnit_87 : decode cX9_readUnit 87 = .ok (.if_icmp .ne 8, 3) := by decide +kernel
theorem dX9_readUnit_90 : decode cX9_readUnit 90 = .ok (.aload_n 0, 1) := by decide +kernel
theorem dX9_readUnit_91 : decode cX9_readUnit 91 = .ok (.iconst 1, 1) := by decide +kernel
theorem dX9_readUnit_92 : decode cX9_readUnit 92 = .ok (.invokevirtual 203, 3) := by decide +kernel
theorem dX9_readUnit_95 : decode cX9_readUnit 95 = .ok (.aload_n 0, 1) := by decide +kernel
theorem dX9_readUnit_96 : decode cX9_readUnit 96 = .ok (.invokevirtual 207, 3) := by decide +kernel
theorem dX9_readUnit_99 : decode cX9_readUnit 99 = .ok (.aload_n 0, 1) := by decide +kernel
theorem dX9_readUnit_100 : decode cX9_readUnit 100 = .ok (.bipush 60, 2) := by decide +kernel
theorem dX9_readUnit_102 : decode cX9_readUnit 102 = .ok (.invokevirtual 200, 3) := by decide +kernel
theorem dX9_readUnit_105 : decode cX9_readUnit 105 = .ok (.ifCond .eq 8, 3) := by decide +kernel
theorem dX9_readUnit_108 : decode cX9_readUnit 108 = .ok (.bipush 10, 2) := by decide +kernel
theorem dX9_readUnit_110 : decode cX9_readUnit 110 = .ok (.goto 19, 3) := by decide +kernel
theorem dX9_readUnit_113 : decode cX9_readUnit 113 = .ok (.aload_n 0, 1) := by decide +kernel
theorem dX9_readUnit_114 : decode cX9_readUnit 114 = .ok (.bipush 61, 2) := by decide +kernel
theorem dX9_readUnit_116 : decode cX9_readUnit 116 = .ok (.invokevirtual 200, 3) := by decide +kernel
theorem dX9_readUnit_119 : decode cX9_readUnit 119 = .ok (.ifCond .eq 8, 3) := by decide +kernel
theorem dX9_readUnit_122 : decode cX9_readUnit 122 = .ok (.bipush 11, 2) := by decide +kernel
theorem dX9_readUnit_124 : decode cX9_readUnit 124 = .ok (.goto 5, 3) := by decide +kernel
theorem dX9_readUnit_127 : decode cX9_readUnit 127 = .ok (.bipush 12, 2) := by decide +kernel
theorem dX9_readUnit_129 : decode cX9_readUnit 129 = .ok (.istore 4, 2) := by decide +kernel
theorem dX9_readUnit_131 : decode cX9_readUnit 131 = .ok (.iload 4, 2) := by decide +kernel
theorem dX9_readUnit_133 : decode cX9_readUnit 133 = .ok (.bipush 12, 2) := by decide +kernel
theorem dX9_readUnit_135 : decode cX9_readUnit 135 = .ok (.if_icmp .ne 17, 3) := by decide +kernel
theorem dX9_readUnit_138 : decode cX9_readUnit 138 = .ok (.aload_n 0, 1) := by decide +kernel
theorem dX9_readUnit_139 : decode cX9_readUnit 139 = .ok (.bipush 62, 2) := by decide +kernel
theorem dX9_readUnit_141 : decode cX9_readUnit 141 = .ok (.invokevirtual 200, 3) := by decide +kernel
theorem dX9_readUnit_144 : decode cX9_readUnit 144 = .ok (.ifCond .ne 8, 3) := by decide +kernel
theorem dX9_readUnit_147 : decode cX9_readUnit 147 = .ok (.aload_n 0, 1) := by decide +kernel
theorem dX9_readUnit_148 : decode cX9_readUnit 148 = .ok (.iconst 1, 1) := by decide +kernel
theorem dX9_readUnit_149 : decode cX9_readUnit 149 = .ok (.invokevirtual 203, 3) := by decide +kernel
theorem dX9_readUnit_152 : decode cX9_readUnit 152 = .ok (.aload_n 0, 1) := by decide +kernel
theorem dX9_readUnit_153 : decode cX9_readUnit 153 = .ok (.invokevirtual 207, 3) := by decide +kernel
theorem dX9_readUnit_156 : decode cX9_readUnit 156 = .ok (.aload_n 0, 1) := by decide +kernel
theorem dX9_readUnit_157 : decode cX9_readUnit 157 = .ok (.ldc 239, 2) := by decide +kernel
theorem dX9_readUnit_159 : decode cX9_readUnit 159 = .ok (.ldc 166, 2) := by decide +kernel
theorem dX9_readUnit_161 : decode cX9_readUnit 161 = .ok (.invokevirtual 240, 3) := by decide +kernel
theorem dX9_readUnit_164 : decode cX9_readUnit 164 = .ok (.istore 5, 2) := by decide +kernel
theorem dX9_readUnit_166 : decode cX9_readUnit 166 = .ok (.aload_n 0, 1) := by decide +kernel
theorem dX9_readUnit_167 : decode cX9_readUnit 167 = .ok (.iload 4, 2) := by decide +kernel
theorem dX9_readUnit_169 : decode cX9_readUnit 169 = .ok (.invokevirtual 229, 3) := by decide +kernel
theorem dX9_readUnit_172 : decode cX9_readUnit 172 = .ok (.aload_n 0, 1) := by decide +kernel
theorem dX9_readUnit_173 : decode cX9_readUnit 173 = .ok (.iload_n 3, 1) := by decide +kernel
theorem dX9_readUnit_174 : decode cX9_readUnit 174 = .ok (.invokevirtual 229, 3) := by decide +kernel
theorem dX9_readUnit_177 : decode cX9_readUnit 177 = .ok (.aload_n 0, 1) := by decide +kernel
theorem dX9_readUnit_178 : decode cX9_readUnit 178 = .ok (.iload 5, 2) := by decide +kernel
theorem dX9_readUnit_180 : decode cX9_readUnit 180 = .ok (.invokevirtual 229, 3) := by decide +kernel
theorem dX9_readUnit_183 : decode cX9_readUnit 183 = .ok (.return_, 1) := by decide +kernel
theorem dX9_readAll_0 : decode cX9_readAll 0 = .ok (.aload_n 0, 1) := by decide +kernel
theorem dX9_readAll_1 : decode cX9_readAll 1 = .ok (.iload_n 1, 1) := by decide +kernel
theorem dX9_readAll_2 : decode cX9_readAll 2 = .ok (.invokevirtual 223, 3) := by decide +kernel
theorem dX9_readAll_5 : decode cX9_readAll 5 = .ok (.aload_n 0, 1) := by decide +kernel
theorem dX9_readAll_6 : decode cX9_readAll 6 = .ok (.ldc 243, 2) := by decide +kernel
theorem dX9_readAll_8 : decode cX9_readAll 8 = .ok (.invokevirtual 193, 3) := by decide +kernel
theorem dX9_readAll_11 : decode cX9_readAll 11 = .ok (.ifCond .eq 21, 3) := by decide +kernel
theorem dX9_readAll_14 : decode cX9_readAll 14 = .ok (.aload_n 0, 1) := by decide +kernel
theorem dX9_readAll_15 : decode cX9_readAll 15 = .ok (.invokevirtual 197, 3) := by decide +kernel
theorem dX9_readAll_18 : decode cX9_readAll 18 = .ok (.aload_n 0, 1) := by decide +kernel
theorem dX9_readAll_19 : decode cX9_readAll 19 = .ok (.iload_n 1, 1) := by decide +kernel
theorem dX9_readAll_20 : decode cX9_readAll 20 = .ok (.invokevirtual 223, 3) := by decide +kernel
theorem dX9_readAll_23 : decode cX9_readAll 23 = .ok (.aload_n 0, 1) := by decide +kernel
theorem dX9_readAll_24 : decode cX9_readAll 24 = .ok (.bipush 21, 2) := by decide +kernel
theorem dX9_readAll_26 : decode cX9_readAll 26 = .ok (.invokevirtual 229, 3) := by decide +kernel
theorem dX9_readAll_29 : decode cX9_readAll 29 = .ok (.goto (-24), 3) := by decide +kernel
theorem dX9_readAll_32 : decode cX9_readAll 32 = .ok (.return_, 1) := by decide +kernel
theorem dX9_readTest_0 : decode cX9_readTest 0 = .ok (.aload_n 0, 1) := by decide +kernel
theorem dX9_readTest_1 : decode cX9_readTest 1 = .ok (.getfield 179, 3) := by decide +kernel
theorem dX9_readTest_4 : decode cX9_readTest 4 = .ok (.ifCond .eq 4, 3) := by decide +kernel
theorem dX9_readTest_7 : decode cX9_readTest 7 = .ok (.return_, 1) := by decide +kernel
theorem dX9_readTest_8 : decode cX9_readTest 8 = .ok (.aload_n 0, 1) := by decide +kernel
theorem dX9_readTest_9 : decode cX9_readTest 9 = .ok (.iload_n 1, 1) := by decide +kernel
theorem dX9_readTest_10 : decode cX9_readTest 10 = .ok (.invokevirtual 245, 3) := by decide +kernel
theorem dX9_readTest_13 : decode cX9_readTest 13 = .ok (.aload_n 0, 1) := by decide +kernel
theorem dX9_readTest_14 : decode cX9_readTest 14 = .ok (.ldc 248, 2) := by decide +kernel
theorem dX9_readTest_16 : decode cX9_readTest 16 = .ok (.invokevirtual 193, 3) := by decide +kernel
theorem dX9_readTest_19 : decode cX9_readTest 19 = .ok (.ifCond .eq 21, 3) := by decide +kernel
theorem dX9_readTest_22 : decode cX9_readTest 22 = .ok (.aload_n 0, 1) := by decide +kernel
theorem dX9_readTest_23 : decode cX9_readTest 23 = .ok (.invokevirtual 197, 3) := by decide +kernel
theorem dX9_readTest_26 : decode cX9_readTest 26 = .ok (.aload_n 0, 1) := by decide +kernel
theorem dX9_readTest_27 : decode cX9_readTest 27 = .ok (.iload_n 1, 1) := by decide +kernel
theorem dX9_readTest_28 : decode cX9_readTest 28 = .ok (.invokevirtual 245, 3) := by decide +kernel
theorem dX9_readTest_31 : decode cX9_readTest 31 = .ok (.aload_n 0, 1) := by decide +kernel
theorem dX9_readTest_32 : decode cX9_readTest 32 = .ok (.bipush 22, 2) := by decide +kernel
theorem dX9_readTest_34 : decode cX9_readTest 34 = .ok (.invokevirtual 229, 3) := by decide +kernel
theorem dX9_readTest_37 : decode cX9_readTest 37 = .ok (.goto (-24), 3) := by decide +kernel
theorem dX9_readTest_40 : decode cX9_readTest 40 = .ok (.return_, 1) := by decide +kernel
theorem dX9_readTier_0 : decode cX9_readTier 0 = .ok (.aload_n 0, 1) := by decide +kernel
theorem dX9_readTier_1 : decode cX9_readTier 1 = .ok (.iconst 1, 1) := by decide +kernel
theorem dX9_readTier_2 : decode cX9_readTier 2 = .ok (.iconst 1, 1) := by decide +kernel
theorem dX9_readTier_3 : decode cX9_readTier 3 = .ok (.ldc 250, 2) := by decide +kernel
theorem dX9_readTier_5 : decode cX9_readTier 5 = .ok (.invokevirtual 214, 3) := by decide +kernel
theorem dX9_readTier_8 : decode cX9_readTier 8 = .ok (.istore_n 1, 1) := by decide +kernel
theorem dX9_readTier_9 : decode cX9_readTier 9 = .ok (.aload_n 0, 1) := by decide +kernel
theorem dX9_readTier_10 : decode cX9_readTier 10 = .ok (.getfield 251, 3) := by decide +kernel
theorem dX9_readTier_13 : decode cX9_readTier 13 = .ok (.ifCond .ne 7, 3) := by decide +kernel
theorem dX9_readTier_16 : decode cX9_readTier 16 = .ok (.iconst 0, 1) := by decide +kernel
theorem dX9_readTier_17 : decode cX9_readTier 17 = .ok (.goto 14, 3) := by decide +kernel
theorem dX9_readTier_20 : decode cX9_readTier 20 = .ok (.aload_n 0, 1) := by decide +kernel
theorem dX9_readTier_21 : decode cX9_readTier 21 = .ok (.getfield 87, 3) := by decide +kernel
theorem dX9_readTier_24 : decode cX9_readTier 24 = .ok (.aload_n 0, 1) := by decide +kernel
theorem dX9_readTier_25 : decode cX9_readTier 25 = .ok (.getfield 251, 3) := by decide +kernel
theorem dX9_readTier_28 : decode cX9_readTier 28 = .ok (.iconst 1, 1) := by decide +kernel
theorem dX9_readTier_29 : decode cX9_readTier 29 = .ok (.isub, 1) := by decide +kernel
theorem dX9_readTier_30 : decode cX9_readTier 30 = .ok (.iaload, 1) := by decide +kernel
theorem dX9_readTier_31 : decode cX9_readTier 31 = .ok (.istore_n 2, 1) := by decide +kernel
theorem dX9_readTier_32 : decode cX9_readTier 32 = .ok (.aload_n 0, 1) := by decide +kernel
theorem dX9_readTier_33 : decode cX9_readTier 33 = .ok (.getfield 179, 3) := by decide +kernel
theorem dX9_readTier_36 : decode cX9_readTier 36 = .ok (.ifCond .ne 25, 3) := by decide +kernel
theorem dX9_readTier_39 : decode cX9_readTier 39 = .ok (.iload_n 2, 1) := by decide +kernel
theorem dX9_readTier_40 : decode cX9_readTier 40 = .ok (.ifCond .le 21, 3) := by decide +kernel
theorem dX9_readTier_43 : decode cX9_readTier 43 = .ok (.iload_n 1, 1) := by decide +kernel
theorem dX9_readTier_44 : decode cX9_readTier 44 = .ok (.iload_n 2, 1) := by decide +kernel
theorem dX9_readTier_45 : decode cX9_readTier 45 = .ok (.irem, 1) := by decide +kernel
theorem dX9_readTier_46 : decode cX9_readTier 46 = .ok (.ifCond .ne 10, 3) := by decide +kernel
theorem dX9_readTier_49 : decode cX9_readTier 49 = .ok (.iload_n 1, 1) := by decide +kernel
theorem dX9_readTier_50 : decode cX9_readTier 50 = .ok (.iconst 2, 1) := by decide +kernel
theorem dX9_readTier_51 : decode cX9_readTier 51 = .ok (.iload_n 2, 1) := by decide +kernel
theorem dX9_readTier_52 : decode cX9_readTier 52 = .ok (.imul, 1) := by decide +kernel
theorem dX9_readTier_53 : decode cX9_readTier 53 = .ok (.if_icmp .ge 8, 3) := by decide +kernel
theorem dX9_readTier_56 : decode cX9_readTier 56 = .ok (.aload_n 0, 1) := by decide +kernel
theorem dX9_readTier_57 : decode cX9_readTier 57 = .ok (.iconst 3, 1) := by decide +kernel
theorem dX9_readTier_58 : decode cX9_readTier 58 = .ok (.invokevirtual 203, 3) := by decide +kernel
theorem dX9_readTier_61 : decode cX9_readTier 61 = .ok (.aload_n 0, 1) := by decide +kernel
theorem dX9_readTier_62 : decode cX9_readTier 62 = .ok (.invokevirtual 207, 3) := by decide +kernel
theorem dX9_readTier_65 : decode cX9_readTier 65 = .ok (.aload_n 0, 1) := by decide +kernel
theorem dX9_readTier_66 : decode cX9_readTier 66 = .ok (.iconst 1, 1) := by decide +kernel
theorem dX9_readTier_67 : decode cX9_readTier 67 = .ok (.bipush 20, 2) := by decide +kernel
theorem dX9_readTier_69 : decode cX9_readTier 69 = .ok (.invokevirtual 254, 3) := by decide +kernel
theorem dX9_readTier_72 : decode cX9_readTier 72 = .ok (.istore_n 3, 1) := by decide +kernel
theorem dX9_readTier_73 : decode cX9_readTier 73 = .ok (.aload_n 0, 1) := by decide +kernel
theorem dX9_readTier_74 : decode cX9_readTier 74 = .ok (.getfield 179, 3) := by decide +kernel
theorem dX9_readTier_77 : decode cX9_readTier 77 = .ok (.ifCond .eq 4, 3) := by decide +kernel
theorem dX9_readTier_80 : decode cX9_readTier 80 = .ok (.return_, 1) := by decide +kernel
theorem dX9_readTier_81 : decode cX9_readTier 81 = .ok (.aload_n 0, 1) := by decide +kernel
theorem dX9_readTier_82 : decode cX9_readTier 82 = .ok (.getfield 87, 3) := by decide +kernel
theorem dX9_readTier_85 : decode cX9_readTier 85 = .ok (.aload_n 0, 1) := by decide +kernel
theorem dX9_readTier_86 : decode cX9_readTier 86 = .ok (.getfield 251, 3) := by decide +kernel
theorem dX9_readTier_89 : decode cX9_readTier 89 = .ok (.iload_n 1, 1) := by decide +kernel
theorem dX9_readTier_90 : decode cX9_readTier 90 = .ok (.iastore, 1) := by decide +kernel
theorem dX9_readTier_91 : decode cX9_readTier 91 = .ok (.aload_n 0, 1) := by decide +kernel
theorem dX9_readTier_92 : decode cX9_readTier 92 = .ok (.getfield 90, 3) := by decide +kernel
theorem dX9_readTier_95 : decode cX9_readTier 95 = .ok (.aload_n 0, 1) := by decide +kernel
theorem dX9_readTier_96 : decode cX9_readTier 96 = .ok (.getfield 251, 3) := by decide +kernel
theorem dX9_readTier_99 : decode cX9_readTier 99 = .ok (.iload_n 3, 1) := by decide +kernel
theorem dX9_readTier_100 : decode cX9_readTier 100 = .ok (.iastore, 1) := by decide +kernel
theorem dX9_readTier_101 : decode cX9_readTier 101 = .ok (.aload_n 0, 1) := by decide +kernel
theorem dX9_readTier_102 : decode cX9_readTier 102 = .ok (.dup, 1) := by decide +kernel
theorem dX9_readTier_103 : decode cX9_readTier 103 = .ok (.getfield 251, 3) := by decide +kernel
theorem dX9_readTier_106 : decode cX9_readTier 106 = .ok (.iconst 1, 1) := by decide +kernel
theorem dX9_readTier_107 : decode cX9_readTier 107 = .ok (.iadd, 1) := by decide +kernel
theorem dX9_readTier_108 : decode cX9_readTier 108 = .ok (.putfield 251, 3) := by decide +kernel
theorem dX9_readTier_111 : decode cX9_readTier 111 = .ok (.return_, 1) := by decide +kernel
theorem dX9_readClause_0 : decode cX9_readClause 0 = .ok (.aload_n 0, 1) := by decide +kernel
theorem dX9_readClause_1 : decode cX9_readClause 1 = .ok (.aload_n 0, 1) := by decide +kernel
theorem dX9_readClause_2 : decode cX9_readClause 2 = .ok (.getfield 31, 3) := by decide +kernel
theorem dX9_readClause_5 : decode cX9_readClause 5 = .ok (.invokevirtual 235, 3) := by decide +kernel
theorem dX9_readClause_8 : decode cX9_readClause 8 = .ok (.istore_n 1, 1) := by decide +kernel
theorem dX9_readClause_9 : decode cX9_readClause 9 = .ok (.iload_n 1, 1) := by decide +kernel
theorem dX9_readClause_10 : decode cX9_readClause 10 = .ok (.iconst (-1), 1) := by decide +kernel
theorem dX9_readClause_11 : decode cX9_readClause 11 = .ok (.if_icmp .ne 8, 3) := by decide +kernel
theorem dX9_readClause_14 : decode cX9_readClause 14 = .ok (.aload_n 0, 1) := by decide +kernel
theorem dX9_readClause_15 : decode cX9_readClause 15 = .ok (.iconst 1, 1) := by decide +kernel
theorem dX9_readClause_16 : decode cX9_readClause 16 = .ok (.invokevirtual 203, 3) := by decide +kernel
theorem dX9_readClause_19 : decode cX9_readClause 19 = .ok (.iload_n 1, 1) := by decide +kernel
theorem dX9_readClause_20 : decode cX9_readClause 20 = .ok (.ifCond .ne 16, 3) := by decide +kernel
theorem dX9_readClause_23 : decode cX9_readClause 23 = .ok (.aload_n 0, 1) := by decide +kernel
theorem dX9_readClause_24 : decode cX9_readClause 24 = .ok (.getfield 251, 3) := by decide +kernel
theorem dX9_readClause_27 : decode cX9_readClause 27 = .ok (.iconst 4, 1) := by decide +kernel
theorem dX9_readClause_28 : decode cX9_readClause 28 = .ok (.if_icmp .ne 8, 3) := by decide +kernel
theorem dX9_readClause_31 : decode cX9_readClause 31 = .ok (.aload_n 0, 1) := by decide +kernel
theorem dX9_readClause_32 : decode cX9_readClause 32 = .ok (.iconst 2, 1) := by decide +kernel
theorem dX9_readClause_33 : decode cX9_readClause 33 = .ok (.invokevirtual 203, 3) := by decide +kernel
theorem dX9_readClause_36 : decode cX9_readClause 36 = .ok (.aload_n 0, 1) := by decide +kernel
theorem dX9_readClause_37 : decode cX9_readClause 37 = .ok (.invokevirtual 207, 3) := by decide +kernel
theorem dX9_readClause_40 : decode cX9_readClause 40 = .ok (.aload_n 0, 1) := by decide +kernel
theorem dX9_readClause_41 : decode cX9_readClause 41 = .ok (.getfield 179, 3) := by decide +kernel
theorem dX9_readClause_44 : decode cX9_readClause 44 = .ok (.ifCond .eq 4, 3) := by decide +kernel
theorem dX9_readClause_47 : decode cX9_readClause 47 = .ok (.return_, 1) := by decide +kernel
theorem dX9_readClause_48 : decode cX9_readClause 48 = .ok (.iload_n 1, 1) := by decide +kernel
theorem dX9_readClause_49 : decode cX9_readClause 49 = .ok (.ifCond .ne 10, 3) := by decide +kernel
theorem dX9_readClause_52 : decode cX9_readClause 52 = .ok (.aload_n 0, 1) := by decide +kernel
theorem dX9_readClause_53 : decode cX9_readClause 53 = .ok (.invokevirtual 257, 3) := by decide +kernel
theorem dX9_readClause_56 : decode cX9_readClause 56 = .ok (.goto 32, 3) := by decide +kernel
theorem dX9_readClause_59 : decode cX9_readClause 59 = .ok (.iload_n 1, 1) := by decide +kernel
theorem dX9_readClause_60 : decode cX9_readClause 60 = .ok (.iconst 1, 1) := by decide +kernel
theorem dX9_readClause_61 : decode cX9_readClause 61 = .ok (.if_icmp .ne 17, 3) := by decide +kernel
theorem dX9_readClause_64 : decode cX9_readClause 64 = .ok (.aload_n 0, 1) := by decide +kernel
theorem dX9_readClause_65 : decode cX9_readClause 65 = .ok (.aload_n 0, 1) := by decide +kernel
theorem dX9_readClause_66 : decode cX9_readClause 66 = .ok (.iconst 1, 1) := by decide +kernel
theorem dX9_readClause_67 : decode cX9_readClause 67 = .ok (.bipush 6, 2) := by decide +kernel
theorem dX9_readClause_69 : decode cX9_readClause 69 = .ok (.invokevirtual 254, 3) := by decide +kernel
theorem dX9_readClause_72 : decode cX9_readClause 72 = .ok (.putfield 260, 3) := by decide +kernel
theorem dX9_readClause_75 : decode cX9_readClause 75 = .ok (.goto 13, 3) := by decide +kernel
theorem dX9_readClause_78 : decode cX9_readClause 78 = .ok (.aload_n 0, 1) := by decide +kernel
theorem dX9_readClause_79 : decode cX9_readClause 79 = .ok (.iconst 0, 1) := by decide +kernel
theorem dX9_readClause_80 : decode cX9_readClause 80 = .ok (.putfield 218, 3) := by decide +kernel
theorem dX9_readClause_83 : decode cX9_readClause 83 = .ok (.aload_n 0, 1) := by decide +kernel
theorem dX9_readClause_84 : decode cX9_readClause 84 = .ok (.iconst 0, 1) := by decide +kernel
theorem dX9_readClause_85 : decode cX9_readClause 85 = .ok (.invokevirtual 226, 3) := by decide +kernel
theorem dX9_readClause_88 : decode cX9_readClause 88 = .ok (.aload_n 0, 1) := by decide +kernel
theorem dX9_readClause_89 : decode cX9_readClause 89 = .ok (.bipush 59, 2) := by decide +kernel
theorem dX9_readClause_91 : decode cX9_readClause 91 = .ok (.invokevirtual 232, 3) := by decide +kernel
theorem dX9_readClause_94 : decode cX9_readClause 94 = .ok (.return_, 1) := by decide +kernel
theorem dX9_tell_0 : decode cX9_tell 0 = .ok (.aload_n 0, 1) := by decide +kernel
theorem dX9_tell_1 : decode cX9_tell 1 = .ok (.iconst 0, 1) := by decide +kernel
theorem dX9_tell_2 : decode cX9_tell 2 = .ok (.putfield 130, 3) := by decide +kernel
theorem dX9_tell_5 : decode cX9_tell 5 = .ok (.iload_n 1, 1) := by decide +kernel
theorem dX9_tell_6 : decode cX9_tell 6 = .ok (.ifCond .lt 11, 3) := by decide +kernel
theorem dX9_tell_9 : decode cX9_tell 9 = .ok (.iload_n 1, 1) := by decide +kernel
theorem dX9_tell_10 : decode cX9_tell 10 = .ok (.aload_n 0, 1) := by decide +kernel
theorem dX9_tell_11 : decode cX9_tell 11 = .ok (.getfield 137, 3) := by decide +kernel
theorem dX9_tell_14 : decode cX9_tell 14 = .ok (.if_icmp .le 9, 3) := by decide +kernel
theorem dX9_tell_17 : decode cX9_tell 17 = .ok (.aload_n 0, 1) := by decide +kernel
theorem dX9_tell_18 : decode cX9_tell 18 = .ok (.iconst 1, 1) := by decide +kernel
theorem dX9_tell_19 : decode cX9_tell 19 = .ok (.invokevirtual 263, 3) := by decide +kernel
theorem dX9_tell_22 : decode cX9_tell 22 = .ok (.ireturn, 1) := by decide +kernel
theorem dX9_tell_23 : decode cX9_tell 23 = .ok (.aload_n 0, 1) := by decide +kernel
theorem dX9_tell_24 : decode cX9_tell 24 = .ok (.iload_n 1, 1) := by decide +kernel
theorem dX9_tell_25 : decode cX9_tell 25 = .ok (.invokevirtual 266, 3) := by decide +kernel
theorem dX9_tell_28 : decode cX9_tell 28 = .ok (.aload_n 0, 1) := by decide +kernel
theorem dX9_tell_29 : decode cX9_tell 29 = .ok (.iconst 0, 1) := by decide +kernel
theorem dX9_tell_30 : decode cX9_tell 30 = .ok (.putfield 251, 3) := by decide +kernel
theorem dX9_tell_33 : decode cX9_tell 33 = .ok (.aload_n 0, 1) := by decide +kernel
theorem dX9_tell_34 : decode cX9_tell 34 = .ok (.iconst 4, 1) := by decide +kernel
theorem dX9_tell_35 : decode cX9_tell 35 = .ok (.putfield 260, 3) := by decide +kernel
theorem dX9_tell_38 : decode cX9_tell 38 = .ok (.aload_n 0, 1) := by decide +kernel
theorem dX9_tell_39 : decode cX9_tell 39 = .ok (.iconst 0, 1) := by decide +kernel
theorem dX9_tell_40 : decode cX9_tell 40 = .ok (.putfield 218, 3) := by decide +kernel
theorem dX9_tell_43 : decode cX9_tell 43 = .ok (.aload_n 0, 1) := by decide +kernel
theorem dX9_tell_44 : decode cX9_tell 44 = .ok (.getfield 179, 3) := by decide +kernel
theorem dX9_tell_47 : decode cX9_tell 47 = .ok (.ifCond .ne 17, 3) := by decide +kernel
theorem dX9_tell_50 : decode cX9_tell 50 = .ok (.aload_n 0, 1) := by decide +kernel
theorem dX9_tell_51 : decode cX9_tell 51 = .ok (.getfield 153, 3) := by decide +kernel
theorem dX9_tell_54 : decode cX9_tell 54 = .ok (.ifCond .eq 10, 3) := by decide +kernel
theorem dX9_tell_57 : decode cX9_tell 57 = .ok (.aload_n 0, 1) := by decide +kernel
theorem dX9_tell_58 : decode cX9_tell 58 = .ok (.invokevirtual 269, 3) := by decide +kernel
theorem dX9_tell_61 : decode cX9_tell 61 = .ok (.goto (-18), 3) := by decide +kernel
theorem dX9_tell_64 : decode cX9_tell 64 = .ok (.aload_n 0, 1) := by decide +kernel
theorem dX9_tell_65 : decode cX9_tell 65 = .ok (.invokevirtual 272, 3) := by decide +kernel
theorem dX9_tell_68 : decode cX9_tell 68 = .ok (.ifCond .eq 8, 3) := by decide +kernel
theorem dX9_tell_71 : decode cX9_tell 71 = .ok (.aload_n 0, 1) := by decide +kernel
theorem dX9_tell_72 : decode cX9_tell 72 = .ok (.getfield 179, 3) := by decide +kernel
theorem dX9_tell_75 : decode cX9_tell 75 = .ok (.ireturn, 1) := by decide +kernel
theorem dX9_tell_76 : decode cX9_tell 76 = .ok (.aload_n 0, 1) := by decide +kernel
theorem dX9_tell_77 : decode cX9_tell 77 = .ok (.getfield 251, 3) := by decide +kernel
theorem dX9_tell_80 : decode cX9_tell 80 = .ok (.ifCond .ne 14, 3) := by decide +kernel
theorem dX9_tell_83 : decode cX9_tell 83 = .ok (.aload_n 0, 1) := by decide +kernel
theorem dX9_tell_84 : decode cX9_tell 84 = .ok (.getfield 87, 3) := by decide +kernel
theorem dX9_tell_87 : decode cX9_tell 87 = .ok (.aload_n 0, 1) := by decide +kernel
theorem dX9_tell_88 : decode cX9_tell 88 = .ok (.getfield 90, 3) := by decide +kernel
theorem dX9_tell_91 : decode cX9_tell 91 = .ok (.invokestatic 123, 3) := by decide +kernel
theorem dX9_tell_94 : decode cX9_tell 94 = .ok (.aload_n 0, 1) := by decide +kernel
theorem dX9_tell_95 : decode cX9_tell 95 = .ok (.aload_n 0, 1) := by decide +kernel
theorem dX9_tell_96 : decode cX9_tell 96 = .ok (.getfield 251, 3) := by decide +kernel
theorem dX9_tell_99 : decode cX9_tell 99 = .ok (.ifCond .ne 7, 3) := by decide +kernel
theorem dX9_tell_102 : decode cX9_tell 102 = .ok (.iconst 3, 1) := by decide +kernel
theorem dX9_tell_103 : decode cX9_tell 103 = .ok (.goto 7, 3) := by decide +kernel
theorem dX9_tell_106 : decode cX9_tell 106 = .ok (.aload_n 0, 1) := by decide +kernel
theorem dX9_tell_107 : decode cX9_tell 107 = .ok (.getfield 251, 3) := by decide +kernel
theorem dX9_tell_110 : decode cX9_tell 110 = .ok (.putfield 127, 3) := by decide +kernel
theorem dX9_tell_113 : decode cX9_tell 113 = .ok (.iconst 0, 1) := by decide +kernel
theorem dX9_tell_114 : decode cX9_tell 114 = .ok (.istore_n 2, 1) := by decide +kernel
theorem dX9_tell_115 : decode cX9_tell 115 = .ok (.iload_n 2, 1) := by decide +kernel
theorem dX9_tell_116 : decode cX9_tell 116 = .ok (.iconst 4, 1) := by decide +kernel
theorem dX9_tell_117 : decode cX9_tell 117 = .ok (.if_icmp .ge 33, 3) := by decide +kernel
theorem dX9_tell_120 : decode cX9_tell 120 = .ok (.aload_n 0, 1) := by decide +kernel
theorem dX9_tell_121 : decode cX9_tell 121 = .ok (.getfield 43, 3) := by decide +kernel
theorem dX9_tell_124 : decode cX9_tell 124 = .ok (.iload_n 2, 1) := by decide +kernel
theorem dX9_tell_125 : decode cX9_tell 125 = .ok (.aload_n 0, 1) := by decide +kernel
theorem dX9_tell_126 : decode cX9_tell 126 = .ok (.getfield 87, 3) := by decide +kernel
theorem dX9_tell_129 : decode cX9_tell 129 = .ok (.iload_n 2, 1) := by decide +kernel
theorem dX9_tell_130 : decode cX9_tell 130 = .ok (.iaload, 1) := by decide +kernel
theorem dX9_tell_131 : decode cX9_tell 131 = .ok (.iastore, 1) := by decide +kernel
theorem dX9_tell_132 : decode cX9_tell 132 = .ok (.aload_n 0, 1) := by decide +kernel
theorem dX9_tell_133 : decode cX9_tell 133 = .ok (.getfield 47, 3) := by decide +kernel
theorem dX9_tell_136 : decode cX9_tell 136 = .ok (.iload_n 2, 1) := by decide +kernel
theorem dX9_tell_137 : decode cX9_tell 137 = .ok (.aload_n 0, 1) := by decide +kernel
theorem dX9_tell_138 : decode cX9_tell 138 = .ok (.getfield 90, 3) := by decide +kernel
theorem dX9_tell_141 : decode cX9_tell 141 = .ok (.iload_n 2, 1) := by decide +kernel
theorem dX9_tell_142 : decode cX9_tell 142 = .ok (.iaload, 1) := by decide +kernel
theorem dX9_tell_143 : decode cX9_tell 143 = .ok (.iastore, 1) := by decide +kernel
theorem dX9_tell_144 : decode cX9_tell 144 = .ok (.iinc 2 1, 3) := by decide +kernel
theorem dX9_tell_147 : decode cX9_tell 147 = .ok (.goto (-32), 3) := by decide +kernel
theorem dX9_tell_150 : decode cX9_tell 150 = .ok (.aload_n 0, 1) := by decide +kernel
theorem dX9_tell_151 : decode cX9_tell 151 = .ok (.aload_n 0, 1) := by decide +kernel
theorem dX9_tell_152 : decode cX9_tell 152 = .ok (.getfield 260, 3) := by decide +kernel
theorem dX9_tell_155 : decode cX9_tell 155 = .ok (.putfield 53, 3) := by decide +kernel
theorem dX9_tell_158 : decode cX9_tell 158 = .ok (.aload_n 0, 1) := by decide +kernel
theorem dX9_tell_159 : decode cX9_tell 159 = .ok (.aload_n 0, 1) := by decide +kernel
theorem dX9_tell_160 : decode cX9_tell 160 = .ok (.getfield 218, 3) := by decide +kernel
theorem dX9_tell_163 : decode cX9_tell 163 = .ok (.putfield 275, 3) := by decide +kernel
theorem dX9_tell_166 : decode cX9_tell 166 = .ok (.iconst 0, 1) := by decide +kernel
theorem dX9_tell_167 : decode cX9_tell 167 = .ok (.istore_n 2, 1) := by decide +kernel
theorem dX9_tell_168 : decode cX9_tell 168 = .ok (.iload_n 2, 1) := by decide +kernel
theorem dX9_tell_169 : decode cX9_tell 169 = .ok (.aload_n 0, 1) := by decide +kernel
theorem dX9_tell_170 : decode cX9_tell 170 = .ok (.getfield 275, 3) := by decide +kernel
theorem dX9_tell_173 : decode cX9_tell 173 = .ok (.if_icmp .ge 21, 3) := by decide +kernel
theorem dX9_tell_176 : decode cX9_tell 176 = .ok (.aload_n 0, 1) := by decide +kernel
theorem dX9_tell_177 : decode cX9_tell 177 = .ok (.getfield 50, 3) := by decide +kernel
theorem dX9_tell_180 : decode cX9_tell 180 = .ok (.iload_n 2, 1) := by decide +kernel
theorem dX9_tell_181 : decode cX9_tell 181 = .ok (.aload_n 0, 1) := by decide +kernel
theorem dX9_tell_182 : decode cX9_tell 182 = .ok (.getfield 93, 3) := by decide +kernel
theorem dX9_tell_185 : decode cX9_tell 185 = .ok (.iload_n 2, 1) := by decide +kernel
theorem dX9_tell_186 : decode cX9_tell 186 = .ok (.iaload, 1) := by decide +kernel
theorem dX9_tell_187 : decode cX9_tell 187 = .ok (.iastore, 1) := by decide +kernel
theorem dX9_tell_188 : decode cX9_tell 188 = .ok (.iinc 2 1, 3) := by decide +kernel
theorem dX9_tell_191 : decode cX9_tell 191 = .ok (.goto (-23), 3) := by decide +kernel
theorem dX9_tell_194 : decode cX9_tell 194 = .ok (.aload_n 0, 1) := by decide +kernel
theorem dX9_tell_195 : decode cX9_tell 195 = .ok (.iconst 0, 1) := by decide +kernel
theorem dX9_tell_196 : decode cX9_tell 196 = .ok (.putfield 278, 3) := by decide +kernel
theorem dX9_tell_199 : decode cX9_tell 199 = .ok (.iconst 0, 1) := by decide +kernel
theorem dX9_tell_200 : decode cX9_tell 200 = .ok (.istore_n 2, 1) := by decide +kernel
theorem dX9_tell_201 : decode cX9_tell 201 = .ok (.iload_n 2, 1) := by decide +kernel
theorem dX9_tell_202 : decode cX9_tell 202 = .ok (.bipush 10, 2) := by decide +kernel
theorem dX9_tell_204 : decode cX9_tell 204 = .ok (.if_icmp .ge 16, 3) := by decide +kernel
theorem dX9_tell_207 : decode cX9_tell 207 = .ok (.aload_n 0, 1) := by decide +kernel
theorem dX9_tell_208 : decode cX9_tell 208 = .ok (.getfield 56, 3) := by decide +kernel
theorem dX9_tell_211 : decode cX9_tell 211 = .ok (.iload_n 2, 1) := by decide +kernel
theorem dX9_tell_212 : decode cX9_tell 212 = .ok (.iconst 0, 1) := by decide +kernel
theorem dX9_tell_213 : decode cX9_tell 213 = .ok (.bastore, 1) := by decide +kernel
theorem dX9_tell_214 : decode cX9_tell 214 = .ok (.iinc 2 1, 3) := by decide +kernel
theorem dX9_tell_217 : decode cX9_tell 217 = .ok (.goto (-16), 3) := by decide +kernel
theorem dX9_tell_220 : decode cX9_tell 220 = .ok (.iconst 0, 1) := by decide +kernel
theorem dX9_tell_221 : decode cX9_tell 221 = .ok (.ireturn, 1) := by decide +kernel
theorem dX9_fault_0 : decode cX9_fault 0 = .ok (.aload_n 0, 1) := by decide +kernel
theorem dX9_fault_1 : decode cX9_fault 1 = .ok (.iconst 0, 1) := by decide +kernel
theorem dX9_fault_2 : decode cX9_fault 2 = .ok (.putfield 130, 3) := by decide +kernel
theorem dX9_fault_5 : decode cX9_fault 5 = .ok (.aload_n 0, 1) := by decide +kernel
theorem dX9_fault_6 : decode cX9_fault 6 = .ok (.getfield 84, 3) := by decide +kernel
theorem dX9_fault_9 : decode cX9_fault 9 = .ok (.ireturn, 1) := by decide +kernel
theorem dX9_seamBy_0 : decode cX9_seamBy 0 = .ok (.lconst 0, 1) := by decide +kernel
theorem dX9_seamBy_1 : decode cX9_seamBy 1 = .ok (.lstore_n 3, 1) := by decide +kernel
theorem dX9_seamBy_2 : decode cX9_seamBy 2 = .ok (.iconst 0, 1) := by decide +kernel
theorem dX9_seamBy_3 : decode cX9_seamBy 3 = .ok (.istore 5, 2) := by decide +kernel
theorem dX9_seamBy_5 : decode cX9_seamBy 5 = .ok (.iload 5, 2) := by decide +kernel
theorem dX9_seamBy_7 : decode cX9_seamBy 7 = .ok (.iload_n 2, 1) := by decide +kernel
theorem dX9_seamBy_8 : decode cX9_seamBy 8 = .ok (.if_icmp .gt 89, 3) := by decide +kernel
theorem dX9_seamBy_11 : decode cX9_seamBy 11 = .ok (.iload 5, 2) := by decide +kernel
theorem dX9_seamBy_13 : decode cX9_seamBy 13 = .ok (.ifCond .ne 28, 3) := by decide +kernel
theorem dX9_seamBy_16 : decode cX9_seamBy 16 = .ok (.iload_n 1, 1) := by decide +kernel
theorem dX9_seamBy_17 : decode cX9_seamBy 17 = .ok (.i2l, 1) := by decide +kernel
theorem dX9_seamBy_18 : decode cX9_seamBy 18 = .ok (.aload_n 0, 1) := by decide +kernel
theorem dX9_seamBy_19 : decode cX9_seamBy 19 = .ok (.getfield 43, 3) := by decide +kernel
theorem dX9_seamBy_22 : decode cX9_seamBy 22 = .ok (.iconst 0, 1) := by decide +kernel
theorem dX9_seamBy_23 : decode cX9_seamBy 23 = .ok (.iaload, 1) := by decide +kernel
theorem dX9_seamBy_24 : decode cX9_seamBy 24 = .ok (.i2l, 1) := by decide +kernel
theorem dX9_seamBy_25 : decode cX9_seamBy 25 = .ok (.invokestatic 133, 3) := by decide +kernel
theorem dX9_seamBy_28 : decode cX9_seamBy 28 = .ok (.lconst 1, 1) := by decide +kernel
theorem dX9_seamBy_29 : decode cX9_seamBy 29 = .ok (.ladd, 1) := by decide +kernel
theorem dX9_seamBy_30 : decode cX9_seamBy 30 = .ok (.aload_n 0, 1) := by decide +kernel
theorem dX9_seamBy_31 : decode cX9_seamBy 31 = .ok (.getfield 43, 3) := by decide +kernel
theorem dX9_seamBy_34 : decode cX9_seamBy 34 = .ok (.iconst 0, 1) := by decide +kernel
theorem dX9_seamBy_35 : decode cX9_seamBy 35 = .ok (.iaload, 1) := by decide +kernel
theorem dX9_seamBy_36 : decode cX9_seamBy 36 = .ok (.i2l, 1) := by decide +kernel
theorem dX9_seamBy_37 : decode cX9_seamBy 37 = .ok (.lmul, 1) := by decide +kernel
theorem dX9_seamBy_38 : decode cX9_seamBy 38 = .ok (.goto 4, 3) := by decide +kernel
theorem dX9_seamBy_41 : decode cX9_seamBy 41 = .ok (.lload_n 3, 1) := by decide +kernel
theorem dX9_seamBy_42 : decode cX9_seamBy 42 = .ok (.lstore 6, 2) := by decide +kernel
theorem dX9_seamBy_44 : decode cX9_seamBy 44 = .ok (.lload 6, 2) := by decide +kernel
theorem dX9_seamBy_46 : decode cX9_seamBy 46 = .ok (.aload_n 0, 1) := by decide +kernel
theorem dX9_seamBy_47 : decode cX9_seamBy 47 = .ok (.getfield 47, 3) := by decide +kernel
theorem dX9_seamBy_50 : decode cX9_seamBy 50 = .ok (.iload 5, 2) := by decide +kernel
theorem dX9_seamBy_52 : decode cX9_seamBy 52 = .ok (.iaload, 1) := by decide +kernel
theorem dX9_seamBy_53 : decode cX9_seamBy 53 = .ok (.i2l, 1) := by decide +kernel
theorem dX9_seamBy_54 : decode cX9_seamBy 54 = .ok (.aload_n 0, 1) := by decide +kernel
theorem dX9_seamBy_55 : decode cX9_seamBy 55 = .ok (.getfield 43, 3) := by decide +kernel
theorem dX9_seamBy_58 : decode cX9_seamBy 58 = .ok (.iload 5, 2) := by decide +kernel
theorem dX9_seamBy_60 : decode cX9_seamBy 60 = .ok (.iaload, 1) := by decide +kernel
theorem dX9_seamBy_61 : decode cX9_seamBy 61 = .ok (.i2l, 1) := by decide +kernel
theorem dX9_seamBy_62 : decode cX9_seamBy 62 = .ok (.lmul, 1) := by decide +kernel
theorem dX9_seamBy_63 : decode cX9_seamBy 63 = .ok (.lsub, 1) := by decide +kernel
theorem dX9_seamBy_64 : decode cX9_seamBy 64 = .ok (.lstore_n 3, 1) := by decide +kernel
theorem dX9_seamBy_65 : decode cX9_seamBy 65 = .ok (.iload 5, 2) := by decide +kernel
theorem dX9_seamBy_67 : decode cX9_seamBy 67 = .ok (.iconst 1, 1) := by decide +kernel
theorem dX9_seamBy_68 : decode cX9_seamBy 68 = .ok (.iadd, 1) := by decide +kernel
theorem dX9_seamBy_69 : decode cX9_seamBy 69 = .ok (.aload_n 0, 1) := by decide +kernel
theorem dX9_seamBy_70 : decode cX9_seamBy 70 = .ok (.getfield 127, 3) := by decide +kernel
theorem dX9_seamBy_73 : decode cX9_seamBy 73 = .ok (.if_icmp .ge 18, 3) := by decide +kernel
theorem dX9_seamBy_76 : decode cX9_seamBy 76 = .ok (.lload_n 3, 1) := by decide +kernel
theorem dX9_seamBy_77 : decode cX9_seamBy 77 = .ok (.aload_n 0, 1) := by decide +kernel
theorem dX9_seamBy_78 : decode cX9_seamBy 78 = .ok (.getfield 43, 3) := by decide +kernel
theorem dX9_seamBy_81 : decode cX9_seamBy 81 = .ok (.iload 5, 2) := by decide +kernel
theorem dX9_seamBy_83 : decode cX9_seamBy 83 = .ok (.iconst 1, 1) := by decide +kernel
theorem dX9_seamBy_84 : decode cX9_seamBy 84 = .ok (.iadd, 1) := by decide +kernel
theorem dX9_seamBy_85 : decode cX9_seamBy 85 = .ok (.iaload, 1) := by decide +kernel
theorem dX9_seamBy_86 : decode cX9_seamBy 86 = .ok (.invokestatic 281, 3) := by decide +kernel
theorem dX9_seamBy_89 : decode cX9_seamBy 89 = .ok (.i2l, 1) := by decide +kernel
theorem dX9_seamBy_90 : decode cX9_seamBy 90 = .ok (.lstore_n 3, 1) := by decide +kernel
theorem dX9_seamBy_91 : decode cX9_seamBy 91 = .ok (.iinc 5 1, 3) := by decide +kernel
theorem dX9_seamBy_94 : decode cX9_seamBy 94 = .ok (.goto (-89), 3) := by decide +kernel
theorem dX9_seamBy_97 : decode cX9_seamBy 97 = .ok (.lload_n 3, 1) := by decide +kernel
theorem dX9_seamBy_98 : decode cX9_seamBy 98 = .ok (.l2i, 1) := by decide +kernel
theorem dX9_seamBy_99 : decode cX9_seamBy 99 = .ok (.ireturn, 1) := by decide +kernel
theorem dX9_tierBy_0 : decode cX9_tierBy 0 = .ok (.iconst 0, 1) := by decide +kernel
theorem dX9_tierBy_1 : decode cX9_tierBy 1 = .ok (.istore_n 3, 1) := by decide +kernel
theorem dX9_tierBy_2 : decode cX9_tierBy 2 = .ok (.iload_n 3, 1) := by decide +kernel
theorem dX9_tierBy_3 : decode cX9_tierBy 3 = .ok (.aload_n 0, 1) := by decide +kernel
theorem dX9_tierBy_4 : decode cX9_tierBy 4 = .ok (.getfield 127, 3) := by decide +kernel
theorem dX9_tierBy_7 : decode cX9_tierBy 7 = .ok (.if_icmp .ge 21, 3) := by decide +kernel
theorem dX9_tierBy_10 : decode cX9_tierBy 10 = .ok (.iload_n 2, 1) := by decide +kernel
theorem dX9_tierBy_11 : decode cX9_tierBy 11 = .ok (.aload_n 0, 1) := by decide +kernel
theorem dX9_tierBy_12 : decode cX9_tierBy 12 = .ok (.iload_n 1, 1) := by decide +kernel
theorem dX9_tierBy_13 : decode cX9_tierBy 13 = .ok (.iload_n 3, 1) := by decide +kernel
theorem dX9_tierBy_14 : decode cX9_tierBy 14 = .ok (.invokevirtual 285, 3) := by decide +kernel
theorem dX9_tierBy_17 : decode cX9_tierBy 17 = .ok (.if_icmp .lt 5, 3) := by decide +kernel
theorem dX9_tierBy_20 : decode cX9_tierBy 20 = .ok (.iload_n 3, 1) := by decide +kernel
theorem dX9_tierBy_21 : decode cX9_tierBy 21 = .ok (.ireturn, 1) := by decide +kernel
theorem dX9_tierBy_22 : decode cX9_tierBy 22 = .ok (.iinc 3 1, 3) := by decide +kernel
theorem dX9_tierBy_25 : decode cX9_tierBy 25 = .ok (.goto (-23), 3) := by decide +kernel
theorem dX9_tierBy_28 : decode cX9_tierBy 28 = .ok (.iconst (-1), 1) := by decide +kernel
theorem dX9_tierBy_29 : decode cX9_tierBy 29 = .ok (.ireturn, 1) := by decide +kernel
theorem dX9_lastSeam_0 : decode cX9_lastSeam 0 = .ok (.aload_n 0, 1) := by decide +kernel
theorem dX9_lastSeam_1 : decode cX9_lastSeam 1 = .ok (.aload_n 0, 1) := by decide +kernel
theorem dX9_lastSeam_2 : decode cX9_lastSeam 2 = .ok (.getfield 60, 3) := by decide +kernel
theorem dX9_lastSeam_5 : decode cX9_lastSeam 5 = .ok (.iload_n 1, 1) := by decide +kernel
theorem dX9_lastSeam_6 : decode cX9_lastSeam 6 = .ok (.iaload, 1) := by decide +kernel
theorem dX9_lastSeam_7 : decode cX9_lastSeam 7 = .ok (.aload_n 0, 1) := by decide +kernel
theorem dX9_lastSeam_8 : decode cX9_lastSeam 8 = .ok (.getfield 127, 3) := by decide +kernel
theorem dX9_lastSeam_11 : decode cX9_lastSeam 11 = .ok (.iconst 1, 1) := by decide +kernel
theorem dX9_lastSeam_12 : decode cX9_lastSeam 12 = .ok (.isub, 1) := by decide +kernel
theorem dX9_lastSeam_13 : decode cX9_lastSeam 13 = .ok (.invokevirtual 285, 3) := by decide +kernel
theorem dX9_lastSeam_16 : decode cX9_lastSeam 16 = .ok (.ireturn, 1) := by decide +kernel
theorem dX9_placeOf_0 : decode cX9_placeOf 0 = .ok (.iconst 0, 1) := by decide +kernel
theorem dX9_placeOf_1 : decode cX9_placeOf 1 = .ok (.istore 4, 2) := by decide +kernel
theorem dX9_placeOf_3 : decode cX9_placeOf 3 = .ok (.aload_n 0, 1) := by decide +kernel
theorem dX9_placeOf_4 : decode cX9_placeOf 4 = .ok (.getfield 278, 3) := by decide +kernel
theorem dX9_placeOf_7 : decode cX9_placeOf 7 = .ok (.istore 5, 2) := by decide +kernel
theorem dX9_placeOf_9 : decode cX9_placeOf 9 = .ok (.iload 4, 2) := by decide +kernel
theorem dX9_placeOf_11 : decode cX9_placeOf 11 = .ok (.iload 5, 2) := by decide +kernel
theorem dX9_placeOf_13 : decode cX9_placeOf 13 = .ok (.if_icmp .ge 87, 3) := by decide +kernel
theorem dX9_placeOf_16 : decode cX9_placeOf 16 = .ok (.iload 4, 2) := by decide +kernel
theorem dX9_placeOf_18 : decode cX9_placeOf 18 = .ok (.iload 5, 2) := by decide +kernel
theorem dX9_placeOf_20 : decode cX9_placeOf 20 = .ok (.iadd, 1) := by decide +kernel
theorem dX9_placeOf_21 : decode cX9_placeOf 21 = .ok (.iconst 2, 1) := by decide +kernel
theorem dX9_placeOf_22 : decode cX9_placeOf 22 = .ok (.idiv, 1) := by decide +kernel
theorem dX9_placeOf_23 : decode cX9_placeOf 23 = .ok (.istore 6, 2) := by decide +kernel
theorem dX9_placeOf_25 : decode cX9_placeOf 25 = .ok (.aload_n 0, 1) := by decide +kernel
theorem dX9_placeOf_26 : decode cX9_placeOf 26 = .ok (.getfield 72, 3) := by decide +kernel
theorem dX9_placeOf_29 : decode cX9_placeOf 29 = .ok (.iload 6, 2) := by decide +kernel
theorem dX9_placeOf_31 : decode cX9_placeOf 31 = .ok (.iaload, 1) := by decide +kernel
theorem dX9_placeOf_32 : decode cX9_placeOf 32 = .ok (.iload_n 1, 1) := by decide +kernel
theorem dX9_placeOf_33 : decode cX9_placeOf 33 = .ok (.if_icmp .lt 27, 3) := by decide +kernel
theorem dX9_placeOf_36 : decode cX9_placeOf 36 = .ok (.aload_n 0, 1) := by decide +kernel
theorem dX9_placeOf_37 : decode cX9_placeOf 37 = .ok (.getfield 72, 3) := by decide +kernel
theorem dX9_placeOf_40 : decode cX9_placeOf 40 = .ok (.iload 6, 2) := by decide +kernel
theorem dX9_placeOf_42 : decode cX9_placeOf 42 = .ok (.iaload, 1) := by decide +kernel
theorem dX9_placeOf_43 : decode cX9_placeOf 43 = .ok (.iload_n 1, 1) := by decide +kernel
theorem dX9_placeOf_44 : decode cX9_placeOf 44 = .ok (.if_icmp .ne 20, 3) := by decide +kernel
theorem dX9_placeOf_47 : decode cX9_placeOf 47 = .ok (.aload_n 0, 1) := by decide +kernel
theorem dX9_placeOf_48 : decode cX9_placeOf 48 = .ok (.getfield 75, 3) := by decide +kernel
theorem dX9_placeOf_51 : decode cX9_placeOf 51 = .ok (.iload 6, 2) := by decide +kernel
theorem dX9_placeOf_53 : decode cX9_placeOf 53 = .ok (.iaload, 1) := by decide +kernel
theorem dX9_placeOf_54 : decode cX9_placeOf 54 = .ok (.i2l, 1) := by decide +kernel
theorem dX9_placeOf_55 : decode cX9_placeOf 55 = .ok (.lload_n 2, 1) := by decide +kernel
theorem dX9_placeOf_56 : decode cX9_placeOf 56 = .ok (.lcmp, 1) := by decide +kernel
theorem dX9_placeOf_57 : decode cX9_placeOf 57 = .ok (.ifCond .ge 7, 3) := by decide +kernel
theorem dX9_placeOf_60 : decode cX9_placeOf 60 = .ok (.iconst 1, 1) := by decide +kernel
theorem dX9_placeOf_61 : decode cX9_placeOf 61 = .ok (.goto 4, 3) := by decide +kernel
theorem dX9_placeOf_64 : decode cX9_placeOf 64 = .ok (.iconst 0, 1) := by decide +kernel
theorem dX9_placeOf_65 : decode cX9_placeOf 65 = .ok (.istore 7, 2) := by decide +kernel
theorem dX9_placeOf_67 : decode cX9_placeOf 67 = .ok (.iload 7, 2) := by decide +kernel
theorem dX9_placeOf_69 : decode cX9_placeOf 69 = .ok (.ifCond .eq 10, 3) := by decide +kernel
theorem dX9_placeOf_72 : decode cX9_placeOf 72 = .ok (.iload 6, 2) := by decide +kernel
theorem dX9_placeOf_74 : decode cX9_placeOf 74 = .ok (.iconst 1, 1) := by decide +kernel
theorem dX9_placeOf_75 : decode cX9_placeOf 75 = .ok (.iadd, 1) := by decide +kernel
theorem dX9_placeOf_76 : decode cX9_placeOf 76 = .ok (.goto 5, 3) := by decide +kernel
theorem dX9_placeOf_79 : decode cX9_placeOf 79 = .ok (.iload 4, 2) := by decide +kernel
theorem dX9_placeOf_81 : decode cX9_placeOf 81 = .ok (.istore 4, 2) := by decide +kernel
theorem dX9_placeOf_83 : decode cX9_placeOf 83 = .ok (.iload 7, 2) := by decide +kernel
theorem dX9_placeOf_85 : decode cX9_placeOf 85 = .ok (.ifCond .eq 8, 3) := by decide +kernel
theorem dX9_placeOf_88 : decode cX9_placeOf 88 = .ok (.iload 5, 2) := by decide +kernel
theorem dX9_placeOf_90 : decode cX9_placeOf 90 = .ok (.goto 5, 3) := by decide +kernel
theorem dX9_placeOf_93 : decode cX9_placeOf 93 = .ok (.iload 6, 2) := by decide +kernel
theorem dX9_placeOf_95 : decode cX9_placeOf 95 = .ok (.istore 5, 2) := by decide +kernel
theorem dX9_placeOf_97 : decode cX9_placeOf 97 = .ok (.goto (-88), 3) := by decide +kernel
theorem dX9_placeOf_100 : decode cX9_placeOf 100 = .ok (.iload 4, 2) := by decide +kernel
theorem dX9_placeOf_102 : decode cX9_placeOf 102 = .ok (.ireturn, 1) := by decide +kernel
theorem dX9_firstOf_0 : decode cX9_firstOf 0 = .ok (.aload_n 0, 1) := by decide +kernel
theorem dX9_firstOf_1 : decode cX9_firstOf 1 = .ok (.iload_n 1, 1) := by decide +kernel
theorem dX9_firstOf_2 : decode cX9_firstOf 2 = .ok (.ldc2_w 288, 3) := by decide +kernel
theorem dX9_firstOf_5 : decode cX9_firstOf 5 = .ok (.invokevirtual 290, 3) := by decide +kernel
theorem dX9_firstOf_8 : decode cX9_firstOf 8 = .ok (.ireturn, 1) := by decide +kernel
theorem dX9_behindOf_0 : decode cX9_behindOf 0 = .ok (.aload_n 0, 1) := by decide +kernel
theorem dX9_behindOf_1 : decode cX9_behindOf 1 = .ok (.iload_n 1, 1) := by decide +kernel
theorem dX9_behindOf_2 : decode cX9_behindOf 2 = .ok (.ldc2_w 294, 3) := by decide +kernel
theorem dX9_behindOf_5 : decode cX9_behindOf 5 = .ok (.invokevirtual 290, 3) := by decide +kernel
theorem dX9_behindOf_8 : decode cX9_behindOf 8 = .ok (.ireturn, 1) := by decide +kernel
theorem dX9_longer_0 : decode cX9_longer 0 = .ok (.iconst 2, 1) := by decide +kernel
theorem dX9_longer_1 : decode cX9_longer 1 = .ok (.aload_n 0, 1) := by decide +kernel
theorem dX9_longer_2 : decode cX9_longer 2 = .ok (.arraylength, 1) := by decide +kernel
theorem dX9_longer_3 : decode cX9_longer 3 = .ok (.imul, 1) := by decide +kernel
theorem dX9_longer_4 : decode cX9_longer 4 = .ok (.newarray .int, 2) := by decide +kernel
theorem dX9_longer_6 : decode cX9_longer 6 = .ok (.astore_n 1, 1) := by decide +kernel
theorem dX9_longer_7 : decode cX9_longer 7 = .ok (.iconst 0, 1) := by decide +kernel
theorem dX9_longer_8 : decode cX9_longer 8 = .ok (.istore_n 2, 1) := by decide +kernel
theorem dX9_longer_9 : decode cX9_longer 9 = .ok (.iload_n 2, 1) := by decide +kernel
theorem dX9_longer_10 : decode cX9_longer 10 = .ok (.aload_n 0, 1) := by decide +kernel
theorem dX9_longer_11 : decode cX9_longer 11 = .ok (.arraylength, 1) := by decide +kernel
theorem dX9_longer_12 : decode cX9_longer 12 = .ok (.if_icmp .ge 15, 3) := by decide +kernel
theorem dX9_longer_15 : decode cX9_longer 15 = .ok (.aload_n 1, 1) := by decide +kernel
theorem dX9_longer_16 : decode cX9_longer 16 = .ok (.iload_n 2, 1) := by decide +kernel
theorem dX9_longer_17 : decode cX9_longer 17 = .ok (.aload_n 0, 1) := by decide +kernel
theorem dX9_longer_18 : decode cX9_longer 18 = .ok (.iload_n 2, 1) := by decide +kernel
theorem dX9_longer_19 : decode cX9_longer 19 = .ok (.iaload, 1) := by decide +kernel
theorem dX9_longer_20 : decode cX9_longer 20 = .ok (.iastore, 1) := by decide +kernel
theorem dX9_longer_21 : decode cX9_longer 21 = .ok (.iinc 2 1, 3) := by decide +kernel
theorem dX9_longer_24 : decode cX9_longer 24 = .ok (.goto (-15), 3) := by decide +kernel
theorem dX9_longer_27 : decode cX9_longer 27 = .ok (.aload_n 1, 1) := by decide +kernel
theorem dX9_longer_28 : decode cX9_longer 28 = .ok (.areturn, 1) := by decide +kernel
theorem dX9_comes_0 : decode cX9_comes 0 = .ok (.aload_n 0, 1) := by decide +kernel
theorem dX9_comes_1 : decode cX9_comes 1 = .ok (.getfield 278, 3) := by decide +kernel
theorem dX9_comes_4 : decode cX9_comes 4 = .ok (.aload_n 0, 1) := by decide +kernel
theorem dX9_comes_5 : decode cX9_comes 5 = .ok (.getfield 72, 3) := by decide +kernel
theorem dX9_comes_8 : decode cX9_comes 8 = .ok (.arraylength, 1) := by decide +kernel
theorem dX9_comes_9 : decode cX9_comes 9 = .ok (.if_icmp .ne 36, 3) := by decide +kernel
theorem dX9_comes_12 : decode cX9_comes 12 = .ok (.aload_n 0, 1) := by decide +kernel
theorem dX9_comes_13 : decode cX9_comes 13 = .ok (.aload_n 0, 1) := by decide +kernel
theorem dX9_comes_14 : decode cX9_comes 14 = .ok (.getfield 72, 3) := by decide +kernel
theorem dX9_comes_17 : decode cX9_comes 17 = .ok (.invokestatic 296, 3) := by decide +kernel
theorem dX9_comes_20 : decode cX9_comes 20 = .ok (.putfield 72, 3) := by decide +kernel
theorem dX9_comes_23 : decode cX9_comes 23 = .ok (.aload_n 0, 1) := by decide +kernel
theorem dX9_comes_24 : decode cX9_comes 24 = .ok (.aload_n 0, 1) := by decide +kernel
theorem dX9_comes_25 : decode cX9_comes 25 = .ok (.getfield 75, 3) := by decide +kernel
theorem dX9_comes_28 : decode cX9_comes 28 = .ok (.invokestatic 296, 3) := by decide +kernel
theorem dX9_comes_31 : decode cX9_comes 31 = .ok (.putfield 75, 3) := by decide +kernel
theorem dX9_comes_34 : decode cX9_comes 34 = .ok (.aload_n 0, 1) := by decide +kernel
theorem dX9_comes_35 : decode cX9_comes 35 = .ok (.aload_n 0, 1) := by decide +kernel
theorem dX9_comes_36 : decode cX9_comes 36 = .ok (.getfield 78, 3) := by decide +kernel
theorem dX9_comes_39 : decode cX9_comes 39 = .ok (.invokestatic 296, 3) := by decide +kernel
theorem dX9_comes_42 : decode cX9_comes 42 = .ok (.putfield 78, 3) := by decide +kernel
theorem dX9_comes_45 : decode cX9_comes 45 = .ok (.aload_n 0, 1) := by decide +kernel
theorem dX9_comes_46 : decode cX9_comes 46 = .ok (.iload_n 1, 1) := by decide +kernel
theorem dX9_comes_47 : decode cX9_comes 47 = .ok (.iload_n 2, 1) := by decide +kernel
theorem dX9_comes_48 : decode cX9_comes 48 = .ok (.i2l, 1) := by decide +kernel
theorem dX9_comes_49 : decode cX9_comes 49 = .ok (.invokevirtual 290, 3) := by decide +kernel
theorem dX9_comes_52 : decode cX9_comes 52 = .ok (.istore 4, 2) := by decide +kernel
theorem dX9_comes_54 : decode cX9_comes 54 = .ok (.aload_n 0, 1) := by decide +kernel
theorem dX9_comes_55 : decode cX9_comes 55 = .ok (.getfield 278, 3) := by decide +kernel
theorem dX9_comes_58 : decode cX9_comes 58 = .ok (.istore 5, 2) := by decide +kernel
theorem dX9_comes_60 : decode cX9_comes 60 = .ok (.iload 5, 2) := by decide +kernel
theorem dX9_comes_62 : decode cX9_comes 62 = .ok (.iload 4, 2) := by decide +kernel
theorem dX9_comes_64 : decode cX9_comes 64 = .ok (.if_icmp .le 57, 3) := by decide +kernel
theorem dX9_comes_67 : decode cX9_comes 67 = .ok (.aload_n 0, 1) := by decide +kernel
theorem dX9_comes_68 : decode cX9_comes 68 = .ok (.getfield 72, 3) := by decide +kernel
theorem dX9_comes_71 : decode cX9_comes 71 = .ok (.iload 5, 2) := by decide +kernel
theorem dX9_comes_73 : decode cX9_comes 73 = .ok (.aload_n 0, 1) := by decide +kernel
theorem dX9_comes_74 : decode cX9_comes 74 = .ok (.getfield 72, 3) := by decide +kernel
theorem dX9_comes_77 : decode cX9_comes 77 = .ok (.iload 5, 2) := by decide +kernel
theorem dX9_comes_79 : decode cX9_comes 79 = .ok (.iconst 1, 1) := by decide +kernel
theorem dX9_comes_80 : decode cX9_comes 80 = .ok (.isub, 1) := by decide +kernel
theorem dX9_comes_81 : decode cX9_comes 81 = .ok (.iaload, 1) := by decide +kernel
theorem dX9_comes_82 : decode cX9_comes 82 = .ok (.iastore, 1) := by decide +kernel
theorem dX9_comes_83 : decode cX9_comes 83 = .ok (.aload_n 0, 1) := by decide +kernel
theorem dX9_comes_84 : decode cX9_comes 84 = .ok (.getfield 75, 3) := by decide +kernel
theorem dX9_comes_87 : decode cX9_comes 87 = .ok (.iload 5, 2) := by decide +kernel
theorem dX9_comes_89 : decode cX9_comes 89 = .ok (.aload_n 0, 1) := by decide +kernel
theorem dX9_comes_90 : decode cX9_comes 90 = .ok (.getfield 75, 3) := by decide +kernel
theorem dX9_comes_93 : decode cX9_comes 93 = .ok (.iload 5, 2) := by decide +kernel
theorem dX9_comes_95 : decode cX9_comes 95 = .ok (.iconst 1, 1) := by decide +kernel
theorem dX9_comes_96 : decode cX9_comes 96 = .ok (.isub, 1) := by decide +kernel
theorem dX9_comes_97 : decode cX9_comes 97 = .ok (.iaload, 1) := by decide +kernel
theorem dX9_comes_98 : decode cX9_comes 98 = .ok (.iastore, 1) := by decide +kernel
theorem dX9_comes_99 : decode cX9_comes 99 = .ok (.aload_n 0, 1) := by decide +kernel
theorem dX9_comes_100 : decode cX9_comes 100 = .ok (.getfield 78, 3) := by decide +kernel
theorem dX9_comes_103 : decode cX9_comes 103 = .ok (.iload 5, 2) := by decide +kernel
theorem dX9_comes_105 : decode cX9_comes 105 = .ok (.aload_n 0, 1) := by decide +kernel
theorem dX9_comes_106 : decode cX9_comes 106 = .ok (.getfield 78, 3) := by decide +kernel
theorem dX9_comes_109 : decode cX9_comes 109 = .ok (.iload 5, 2) := by decide +kernel
theorem dX9_comes_111 : decode cX9_comes 111 = .ok (.iconst 1, 1) := by decide +kernel
theorem dX9_comes_112 : decode cX9_comes 112 = .ok (.isub, 1) := by decide +kernel
theorem dX9_comes_113 : decode cX9_comes 113 = .ok (.iaload, 1) := by decide +kernel
theorem dX9_comes_114 : decode cX9_comes 114 = .ok (.iastore, 1) := by decide +kernel
theorem dX9_comes_115 : decode cX9_comes 115 = .ok (.iinc 5 (-1), 3) := by decide +kernel
theorem dX9_comes_118 : decode cX9_comes 118 = .ok (.goto (-58), 3) := by decide +kernel
theorem dX9_comes_121 : decode cX9_comes 121 = .ok (.aload_n 0, 1) := by decide +kernel
theorem dX9_comes_122 : decode cX9_comes 122 = .ok (.getfield 72, 3) := by decide +kernel
theorem dX9_comes_125 : decode cX9_comes 125 = .ok (.iload 4, 2) := by decide +kernel
theorem dX9_comes_127 : decode cX9_comes 127 = .ok (.iload_n 1, 1) := by decide +kernel
theorem dX9_comes_128 : decode cX9_comes 128 = .ok (.iastore, 1) := by decide +kernel
theorem dX9_comes_129 : decode cX9_comes 129 = .ok (.aload_n 0, 1) := by decide +kernel
theorem dX9_comes_130 : decode cX9_comes 130 = .ok (.getfield 75, 3) := by decide +kernel
theorem dX9_comes_133 : decode cX9_comes 133 = .ok (.iload 4, 2) := by decide +kernel
theorem dX9_comes_135 : decode cX9_comes 135 = .ok (.iload_n 2, 1) := by decide +kernel
theorem dX9_comes_136 : decode cX9_comes 136 = .ok (.iastore, 1) := by decide +kernel
theorem dX9_comes_137 : decode cX9_comes 137 = .ok (.aload_n 0, 1) := by decide +kernel
theorem dX9_comes_138 : decode cX9_comes 138 = .ok (.getfield 78, 3) := by decide +kernel
theorem dX9_comes_141 : decode cX9_comes 141 = .ok (.iload 4, 2) := by decide +kernel
theorem dX9_comes_143 : decode cX9_comes 143 = .ok (.iload_n 3, 1) := by decide +kernel
theorem dX9_comes_144 : decode cX9_comes 144 = .ok (.iastore, 1) := by decide +kernel
theorem dX9_comes_145 : decode cX9_comes 145 = .ok (.aload_n 0, 1) := by decide +kernel
theorem dX9_comes_146 : decode cX9_comes 146 = .ok (.dup, 1) := by decide +kernel
theorem dX9_comes_147 : decode cX9_comes 147 = .ok (.getfield 278, 3) := by decide +kernel
theorem dX9_comes_150 : decode cX9_comes 150 = .ok (.iconst 1, 1) := by decide +kernel
theorem dX9_comes_151 : decode cX9_comes 151 = .ok (.iadd, 1) := by decide +kernel
theorem dX9_comes_152 : decode cX9_comes 152 = .ok (.putfield 278, 3) := by decide +kernel
theorem dX9_comes_155 : decode cX9_comes 155 = .ok (.return_, 1) := by decide +kernel
theorem dX9_goes_0 : decode cX9_goes 0 = .ok (.iload_n 2, 1) := by decide +kernel
theorem dX9_goes_1 : decode cX9_goes 1 = .ok (.iload_n 1, 1) := by decide +kernel
theorem dX9_goes_2 : decode cX9_goes 2 = .ok (.isub, 1) := by decide +kernel
theorem dX9_goes_3 : decode cX9_goes 3 = .ok (.istore_n 3, 1) := by decide +kernel
theorem dX9_goes_4 : decode cX9_goes 4 = .ok (.aload_n 0, 1) := by decide +kernel
theorem dX9_goes_5 : decode cX9_goes 5 = .ok (.dup, 1) := by decide +kernel
theorem dX9_goes_6 : decode cX9_goes 6 = .ok (.getfield 278, 3) := by decide +kernel
theorem dX9_goes_9 : decode cX9_goes 9 = .ok (.iload_n 3, 1) := by decide +kernel
theorem dX9_goes_10 : decode cX9_goes 10 = .ok (.isub, 1) := by decide +kernel
theorem dX9_goes_11 : decode cX9_goes 11 = .ok (.putfield 278, 3) := by decide +kernel
theorem dX9_goes_14 : decode cX9_goes 14 = .ok (.iload_n 1, 1) := by decide +kernel
theorem dX9_goes_15 : decode cX9_goes 15 = .ok (.istore 4, 2) := by decide +kernel
theorem dX9_goes_17 : decode cX9_goes 17 = .ok (.iload 4, 2) := by decide +kernel
theorem dX9_goes_19 : decode cX9_goes 19 = .ok (.aload_n 0, 1) := by decide +kernel
theorem dX9_goes_20 : decode cX9_goes 20 = .ok (.getfield 278, 3) := by decide +kernel
theorem dX9_goes_23 : decode cX9_goes 23 = .ok (.if_icmp .ge 61, 3) := by decide +kernel
theorem dX9_goes_26 : decode cX9_goes 26 = .ok (.iload_n 3, 1) := by decide +kernel
theorem dX9_goes_27 : decode cX9_goes 27 = .ok (.ifCond .le 57, 3) := by decide +kernel
theorem dX9_goes_30 : decode cX9_goes 30 = .ok (.aload_n 0, 1) := by decide +kernel
theorem dX9_goes_31 : decode cX9_goes 31 = .ok (.getfield 72, 3) := by decide +kernel
theorem dX9_goes_34 : decode cX9_goes 34 = .ok (.iload 4, 2) := by decide +kernel
theorem dX9_goes_36 : decode cX9_goes 36 = .ok (.aload_n 0, 1) := by decide +kernel
theorem dX9_goes_37 : decode cX9_goes 37 = .ok (.getfield 72, 3) := by decide +kernel
theorem dX9_goes_40 : decode cX9_goes 40 = .ok (.iload 4, 2) := by decide +kernel
theorem dX9_goes_42 : decode cX9_goes 42 = .ok (.iload_n 3, 1) := by decide +kernel
theorem dX9_goes_43 : decode cX9_goes 43 = .ok (.iadd, 1) := by decide +kernel
theorem dX9_goes_44 : decode cX9_goes 44 = .ok (.iaload, 1) := by decide +kernel
theorem dX9_goes_45 : decode cX9_goes 45 = .ok (.iastore, 1) := by decide +kernel
theorem dX9_goes_46 : decode cX9_goes 46 = .ok (.aload_n 0, 1) := by decide +kernel
theorem dX9_goes_47 : decode cX9_goes 47 = .ok (.getfield 75, 3) := by decide +kernel
theorem dX9_goes_50 : decode cX9_goes 50 = .ok (.iload 4, 2) := by decide +kernel
theorem dX9_goes_52 : decode cX9_goes 52 = .ok (.aload_n 0, 1) := by decide +kernel
theorem dX9_goes_53 : decode cX9_goes 53 = .ok (.getfield 75, 3) := by decide +kernel
theorem dX9_goes_56 : decode cX9_goes 56 = .ok (.iload 4, 2) := by decide +kernel
theorem dX9_goes_58 : decode cX9_goes 58 = .ok (.iload_n 3, 1) := by decide +kernel
theorem dX9_goes_59 : decode cX9_goes 59 = .ok (.iadd, 1) := by decide +kernel
theorem dX9_goes_60 : decode cX9_goes 60 = .ok (.iaload, 1) := by decide +kernel
theorem dX9_goes_61 : decode cX9_goes 61 = .ok (.iastore, 1) := by decide +kernel
theorem dX9_goes_62 : decode cX9_goes 62 = .ok (.aload_n 0, 1) := by decide +kernel
theorem dX9_goes_63 : decode cX9_goes 63 = .ok (.getfield 78, 3) := by decide +kernel
theorem dX9_goes_66 : decode cX9_goes 66 = .ok (.iload 4, 2) := by decide +kernel
theorem dX9_goes_68 : decode cX9_goes 68 = .ok (.aload_n 0, 1) := by decide +kernel
theorem dX9_goes_69 : decode cX9_goes 69 = .ok (.getfield 78, 3) := by decide +kernel
theorem dX9_goes_72 : decode cX9_goes 72 = .ok (.iload 4, 2) := by decide +kernel
theorem dX9_goes_74 : decode cX9_goes 74 = .ok (.iload_n 3, 1) := by decide +kernel
theorem dX9_goes_75 : decode cX9_goes 75 = .ok (.iadd, 1) := by decide +kernel
theorem dX9_goes_76 : decode cX9_goes 76 = .ok (.iaload, 1) := by decide +kernel
theorem dX9_goes_77 : decode cX9_goes 77 = .ok (.iastore, 1) := by decide +kernel
theorem dX9_goes_78 : decode cX9_goes 78 = .ok (.iinc 4 1, 3) := by decide +kernel
theorem dX9_goes_81 : decode cX9_goes 81 = .ok (.goto (-64), 3) := by decide +kernel
theorem dX9_goes_84 : decode cX9_goes 84 = .ok (.iload_n 3, 1) := by decide +kernel
theorem dX9_goes_85 : decode cX9_goes 85 = .ok (.ireturn, 1) := by decide +kernel
theorem dX9_series_0 : decode cX9_series 0 = .ok (.iconst 0, 1) := by decide +kernel
theorem dX9_series_1 : decode cX9_series 1 = .ok (.istore_n 1, 1) := by decide +kernel
theorem dX9_series_2 : decode cX9_series 2 = .ok (.iconst 0, 1) := by decide +kernel
theorem dX9_series_3 : decode cX9_series 3 = .ok (.istore_n 2, 1) := by decide +kernel
theorem dX9_series_4 : decode cX9_series 4 = .ok (.iload_n 2, 1) := by decide +kernel
theorem dX9_series_5 : decode cX9_series 5 = .ok (.bipush 10, 2) := by decide +kernel
theorem dX9_series_7 : decode cX9_series 7 = .ok (.if_icmp .ge 26, 3) := by decide +kernel
theorem dX9_series_10 : decode cX9_series 10 = .ok (.iload_n 1, 1) := by decide +kernel
theorem dX9_series_11 : decode cX9_series 11 = .ok (.aload_n 0, 1) := by decide +kernel
theorem dX9_series_12 : decode cX9_series 12 = .ok (.getfield 56, 3) := by decide +kernel
theorem dX9_series_15 : decode cX9_series 15 = .ok (.iload_n 2, 1) := by decide +kernel
theorem dX9_series_16 : decode cX9_series 16 = .ok (.baload, 1) := by decide +kernel
theorem dX9_series_17 : decode cX9_series 17 = .ok (.ifCond .eq 7, 3) := by decide +kernel
theorem dX9_series_20 : decode cX9_series 20 = .ok (.iconst 1, 1) := by decide +kernel
theorem dX9_series_21 : decode cX9_series 21 = .ok (.goto 4, 3) := by decide +kernel
theorem dX9_series_24 : decode cX9_series 24 = .ok (.iconst 0, 1) := by decide +kernel
theorem dX9_series_25 : decode cX9_series 25 = .ok (.iadd, 1) := by decide +kernel
theorem dX9_series_26 : decode cX9_series 26 = .ok (.istore_n 1, 1) := by decide +kernel
theorem dX9_series_27 : decode cX9_series 27 = .ok (.iinc 2 1, 3) := by decide +kernel
theorem dX9_series_30 : decode cX9_series 30 = .ok (.goto (-26), 3) := by decide +kernel
theorem dX9_series_33 : decode cX9_series 33 = .ok (.iload_n 1, 1) := by decide +kernel
theorem dX9_series_34 : decode cX9_series 34 = .ok (.ireturn, 1) := by decide +kernel
theorem dX9_leaves_0 : decode cX9_leaves 0 = .ok (.aload_n 0, 1) := by decide +kernel
theorem dX9_leaves_1 : decode cX9_leaves 1 = .ok (.getfield 56, 3) := by decide +kernel
theorem dX9_leaves_4 : decode cX9_leaves 4 = .ok (.iload_n 1, 1) := by decide +kernel
theorem dX9_leaves_5 : decode cX9_leaves 5 = .ok (.iconst 0, 1) := by decide +kernel
theorem dX9_leaves_6 : decode cX9_leaves 6 = .ok (.bastore, 1) := by decide +kernel
theorem dX9_leaves_7 : decode cX9_leaves 7 = .ok (.aload_n 0, 1) := by decide +kernel
theorem dX9_leaves_8 : decode cX9_leaves 8 = .ok (.aload_n 0, 1) := by decide +kernel
theorem dX9_leaves_9 : decode cX9_leaves 9 = .ok (.iload_n 1, 1) := by decide +kernel
theorem dX9_leaves_10 : decode cX9_leaves 10 = .ok (.invokevirtual 300, 3) := by decide +kernel
theorem dX9_leaves_13 : decode cX9_leaves 13 = .ok (.aload_n 0, 1) := by decide +kernel
theorem dX9_leaves_14 : decode cX9_leaves 14 = .ok (.iload_n 1, 1) := by decide +kernel
theorem dX9_leaves_15 : decode cX9_leaves 15 = .ok (.invokevirtual 303, 3) := by decide +kernel
theorem dX9_leaves_18 : decode cX9_leaves 18 = .ok (.invokevirtual 306, 3) := by decide +kernel
theorem dX9_leaves_21 : decode cX9_leaves 21 = .ok (.ireturn, 1) := by decide +kernel
theorem dX9_oldest_0 : decode cX9_oldest 0 = .ok (.iconst (-1), 1) := by decide +kernel
theorem dX9_oldest_1 : decode cX9_oldest 1 = .ok (.istore_n 1, 1) := by decide +kernel
theorem dX9_oldest_2 : decode cX9_oldest 2 = .ok (.iconst 0, 1) := by decide +kernel
theorem dX9_oldest_3 : decode cX9_oldest 3 = .ok (.istore_n 2, 1) := by decide +kernel
theorem dX9_oldest_4 : decode cX9_oldest 4 = .ok (.iload_n 2, 1) := by decide +kernel
theorem dX9_oldest_5 : decode cX9_oldest 5 = .ok (.bipush 10, 2) := by decide +kernel
theorem dX9_oldest_7 : decode cX9_oldest 7 = .ok (.if_icmp .ge 40, 3) := by decide +kernel
theorem dX9_oldest_10 : decode cX9_oldest 10 = .ok (.aload_n 0, 1) := by decide +kernel
theorem dX9_oldest_11 : decode cX9_oldest 11 = .ok (.getfield 56, 3) := by decide +kernel
theorem dX9_oldest_14 : decode cX9_oldest 14 = .ok (.iload_n 2, 1) := by decide +kernel
theorem dX9_oldest_15 : decode cX9_oldest 15 = .ok (.baload, 1) := by decide +kernel
theorem dX9_oldest_16 : decode cX9_oldest 16 = .ok (.ifCond .eq 25, 3) := by decide +kernel
theorem dX9_oldest_19 : decode cX9_oldest 19 = .ok (.iload_n 1, 1) := by decide +kernel
theorem dX9_oldest_20 : decode cX9_oldest 20 = .ok (.iconst (-1), 1) := by decide +kernel
theorem dX9_oldest_21 : decode cX9_oldest 21 = .ok (.if_icmp .eq 18, 3) := by decide +kernel
theorem dX9_oldest_24 : decode cX9_oldest 24 = .ok (.aload_n 0, 1) := by decide +kernel
theorem dX9_oldest_25 : decode cX9_oldest 25 = .ok (.getfield 69, 3) := by decide +kernel
theorem dX9_oldest_28 : decode cX9_oldest 28 = .ok (.iload_n 2, 1) := by decide +kernel
theorem dX9_oldest_29 : decode cX9_oldest 29 = .ok (.iaload, 1) := by decide +kernel
theorem dX9_oldest_30 : decode cX9_oldest 30 = .ok (.aload_n 0, 1) := by decide +kernel
theorem dX9_oldest_31 : decode cX9_oldest 31 = .ok (.getfield 69, 3) := by decide +kernel
theorem dX9_oldest_34 : decode cX9_oldest 34 = .ok (.iload_n 1, 1) := by decide +kernel
theorem dX9_oldest_35 : decode cX9_oldest 35 = .ok (.iaload, 1) := by decide +kernel
theorem dX9_oldest_36 : decode cX9_oldest 36 = .ok (.if_icmp .ge 5, 3) := by decide +kernel
theorem dX9_oldest_39 : decode cX9_oldest 39 = .ok (.iload_n 2, 1) := by decide +kernel
theorem dX9_oldest_40 : decode cX9_oldest 40 = .ok (.istore_n 1, 1) := by decide +kernel
theorem dX9_oldest_41 : decode cX9_oldest 41 = .ok (.iinc 2 1, 3) := by decide +kernel
theorem dX9_oldest_44 : decode cX9_oldest 44 = .ok (.goto (-40), 3) := by decide +kernel
theorem dX9_oldest_47 : decode cX9_oldest 47 = .ok (.iload_n 1, 1) := by decide +kernel
theorem dX9_oldest_48 : decode cX9_oldest 48 = .ok (.ireturn, 1) := by decide +kernel
theorem dX9_rises_0 : decode cX9_rises 0 = .ok (.aload_n 0, 1) := by decide +kernel
theorem dX9_rises_1 : decode cX9_rises 1 = .ok (.getfield 56, 3) := by decide +kernel
theorem dX9_rises_4 : decode cX9_rises 4 = .ok (.iload_n 1, 1) := by decide +kernel
theorem dX9_rises_5 : decode cX9_rises 5 = .ok (.baload, 1) := by decide +kernel
theorem dX9_rises_6 : decode cX9_rises 6 = .ok (.ifCond .ne 61, 3) := by decide +kernel
theorem dX9_rises_9 : decode cX9_rises 9 = .ok (.aload_n 0, 1) := by decide +kernel
theorem dX9_rises_10 : decode cX9_rises 10 = .ok (.invokevirtual 309, 3) := by decide +kernel
theorem dX9_rises_13 : decode cX9_rises 13 = .ok (.aload_n 0, 1) := by decide +kernel
theorem dX9_rises_14 : decode cX9_rises 14 = .ok (.getfield 53, 3) := by decide +kernel
theorem dX9_rises_17 : decode cX9_rises 17 = .ok (.if_icmp .ne 22, 3) := by decide +kernel
theorem dX9_rises_20 : decode cX9_rises 20 = .ok (.aload_n 0, 1) := by decide +kernel
theorem dX9_rises_21 : decode cX9_rises 21 = .ok (.aload_n 0, 1) := by decide +kernel
theorem dX9_rises_22 : decode cX9_rises 22 = .ok (.invokevirtual 312, 3) := by decide +kernel
theorem dX9_rises_25 : decode cX9_rises 25 = .ok (.invokevirtual 315, 3) := by decide +kernel
theorem dX9_rises_28 : decode cX9_rises 28 = .ok (.istore_n 3, 1) := by decide +kernel
theorem dX9_rises_29 : decode cX9_rises 29 = .ok (.aload_n 0, 1) := by decide +kernel
theorem dX9_rises_30 : decode cX9_rises 30 = .ok (.dup, 1) := by decide +kernel
theorem dX9_rises_31 : decode cX9_rises 31 = .ok (.getfield 318, 3) := by decide +kernel
theorem dX9_rises_34 : decode cX9_rises 34 = .ok (.iconst 1, 1) := by decide +kernel
theorem dX9_rises_35 : decode cX9_rises 35 = .ok (.iadd, 1) := by decide +kernel
theorem dX9_rises_36 : decode cX9_rises 36 = .ok (.putfield 318, 3) := by decide +kernel
theorem dX9_rises_39 : decode cX9_rises 39 = .ok (.aload_n 0, 1) := by decide +kernel
theorem dX9_rises_40 : decode cX9_rises 40 = .ok (.getfield 56, 3) := by decide +kernel
theorem dX9_rises_43 : decode cX9_rises 43 = .ok (.iload_n 1, 1) := by decide +kernel
theorem dX9_rises_44 : decode cX9_rises 44 = .ok (.iconst 1, 1) := by decide +kernel
theorem dX9_rises_45 : decode cX9_rises 45 = .ok (.bastore, 1) := by decide +kernel
theorem dX9_rises_46 : decode cX9_rises 46 = .ok (.aload_n 0, 1) := by decide +kernel
theorem dX9_rises_47 : decode cX9_rises 47 = .ok (.getfield 60, 3) := by decide +kernel
theorem dX9_rises_50 : decode cX9_rises 50 = .ok (.iload_n 1, 1) := by decide +kernel
theorem dX9_rises_51 : decode cX9_rises 51 = .ok (.iload_n 2, 1) := by decide +kernel
theorem dX9_rises_52 : decode cX9_rises 52 = .ok (.iastore, 1) := by decide +kernel
theorem dX9_rises_53 : decode cX9_rises 53 = .ok (.aload_n 0, 1) := by decide +kernel
theorem dX9_rises_54 : decode cX9_rises 54 = .ok (.getfield 63, 3) := by decide +kernel
theorem dX9_rises_57 : decode cX9_rises 57 = .ok (.iload_n 1, 1) := by decide +kernel
theorem dX9_rises_58 : decode cX9_rises 58 = .ok (.iconst 0, 1) := by decide +kernel
theorem dX9_rises_59 : decode cX9_rises 59 = .ok (.iastore, 1) := by decide +kernel
theorem dX9_rises_60 : decode cX9_rises 60 = .ok (.aload_n 0, 1) := by decide +kernel
theorem dX9_rises_61 : decode cX9_rises 61 = .ok (.getfield 66, 3) := by decide +kernel
theorem dX9_rises_64 : decode cX9_rises 64 = .ok (.iload_n 1, 1) := by decide +kernel
theorem dX9_rises_65 : decode cX9_rises 65 = .ok (.iconst 0, 1) := by decide +kernel
theorem dX9_rises_66 : decode cX9_rises 66 = .ok (.iastore, 1) := by decide +kernel
theorem dX9_rises_67 : decode cX9_rises 67 = .ok (.aload_n 0, 1) := by decide +kernel
theorem dX9_rises_68 : decode cX9_rises 68 = .ok (.getfield 60, 3) := by decide +kernel
theorem dX9_rises_71 : decode cX9_rises 71 = .ok (.iload_n 1, 1) := by decide +kernel
theorem dX9_rises_72 : decode cX9_rises 72 = .ok (.aload_n 0, 1) := by decide +kernel
theorem dX9_rises_73 : decode cX9_rises 73 = .ok (.getfield 60, 3) := by decide +kernel
theorem dX9_rises_76 : decode cX9_rises 76 = .ok (.iload_n 1, 1) := by decide +kernel
theorem dX9_rises_77 : decode cX9_rises 77 = .ok (.iaload, 1) := by decide +kernel
theorem dX9_rises_78 : decode cX9_rises 78 = .ok (.iload_n 2, 1) := by decide +kernel
theorem dX9_rises_79 : decode cX9_rises 79 = .ok (.invokestatic 321, 3) := by decide +kernel
theorem dX9_rises_82 : decode cX9_rises 82 = .ok (.iastore, 1) := by decide +kernel
theorem dX9_rises_83 : decode cX9_rises 83 = .ok (.aload_n 0, 1) := by decide +kernel
theorem dX9_rises_84 : decode cX9_rises 84 = .ok (.aload_n 0, 1) := by decide +kernel
theorem dX9_rises_85 : decode cX9_rises 85 = .ok (.iload_n 1, 1) := by decide +kernel
theorem dX9_rises_86 : decode cX9_rises 86 = .ok (.invokevirtual 300, 3) := by decide +kernel
theorem dX9_rises_89 : decode cX9_rises 89 = .ok (.aload_n 0, 1) := by decide +kernel
theorem dX9_rises_90 : decode cX9_rises 90 = .ok (.iload_n 1, 1) := by decide +kernel
theorem dX9_rises_91 : decode cX9_rises 91 = .ok (.aload_n 0, 1) := by decide +kernel
theorem dX9_rises_92 : decode cX9_rises 92 = .ok (.iload_n 1, 1) := by decide +kernel
theorem dX9_rises_93 : decode cX9_rises 93 = .ok (.invokevirtual 324, 3) := by decide +kernel
theorem dX9_rises_96 : decode cX9_rises 96 = .ok (.i2l, 1) := by decide +kernel
theorem dX9_rises_97 : decode cX9_rises 97 = .ok (.invokevirtual 290, 3) := by decide +kernel
theorem dX9_rises_100 : decode cX9_rises 100 = .ok (.invokevirtual 306, 3) := by decide +kernel
theorem dX9_rises_103 : decode cX9_rises 103 = .ok (.istore_n 3, 1) := by decide +kernel
theorem dX9_rises_104 : decode cX9_rises 104 = .ok (.aload_n 0, 1) := by decide +kernel
theorem dX9_rises_105 : decode cX9_rises 105 = .ok (.getfield 66, 3) := by decide +kernel
theorem dX9_rises_108 : decode cX9_rises 108 = .ok (.iload_n 1, 1) := by decide +kernel
theorem dX9_rises_109 : decode cX9_rises 109 = .ok (.dup2, 1) := by decide +kernel
theorem dX9_rises_110 : decode cX9_rises 110 = .ok (.iaload, 1) := by decide +kernel
theorem dX9_rises_111 : decode cX9_rises 111 = .ok (.iload_n 3, 1) := by decide +kernel
theorem dX9_rises_112 : decode cX9_rises 112 = .ok (.iadd, 1) := by decide +kernel
theorem dX9_rises_113 : decode cX9_rises 113 = .ok (.iastore, 1) := by decide +kernel
theorem dX9_rises_114 : decode cX9_rises 114 = .ok (.aload_n 0, 1) := by decide +kernel
theorem dX9_rises_115 : decode cX9_rises 115 = .ok (.dup, 1) := by decide +kernel
theorem dX9_rises_116 : decode cX9_rises 116 = .ok (.getfield 327, 3) := by decide +kernel
theorem dX9_rises_119 : decode cX9_rises 119 = .ok (.iload_n 3, 1) := by decide +kernel
theorem dX9_rises_120 : decode cX9_rises 120 = .ok (.iadd, 1) := by decide +kernel
theorem dX9_rises_121 : decode cX9_rises 121 = .ok (.putfield 327, 3) := by decide +kernel
theorem dX9_rises_124 : decode cX9_rises 124 = .ok (.aload_n 0, 1) := by decide +kernel
theorem dX9_rises_125 : decode cX9_rises 125 = .ok (.dup, 1) := by decide +kernel
theorem dX9_rises_126 : decode cX9_rises 126 = .ok (.getfield 330, 3) := by decide +kernel
theorem dX9_rises_129 : decode cX9_rises 129 = .ok (.iconst 1, 1) := by decide +kernel
theorem dX9_rises_130 : decode cX9_rises 130 = .ok (.iadd, 1) := by decide +kernel
theorem dX9_rises_131 : decode cX9_rises 131 = .ok (.putfield 330, 3) := by decide +kernel
theorem dX9_rises_134 : decode cX9_rises 134 = .ok (.aload_n 0, 1) := by decide +kernel
theorem dX9_rises_135 : decode cX9_rises 135 = .ok (.getfield 69, 3) := by decide +kernel
theorem dX9_rises_138 : decode cX9_rises 138 = .ok (.iload_n 1, 1) := by decide +kernel
theorem dX9_rises_139 : decode cX9_rises 139 = .ok (.aload_n 0, 1) := by decide +kernel
theorem dX9_rises_140 : decode cX9_rises 140 = .ok (.getfield 330, 3) := by decide +kernel
theorem dX9_rises_143 : decode cX9_rises 143 = .ok (.iastore, 1) := by decide +kernel
theorem dX9_rises_144 : decode cX9_rises 144 = .ok (.return_, 1) := by decide +kernel
theorem dX9_isLate_0 : decode cX9_isLate 0 = .ok (.aload_n 0, 1) := by decide +kernel
theorem dX9_isLate_1 : decode cX9_isLate 1 = .ok (.getfield 56, 3) := by decide +kernel
theorem dX9_isLate_4 : decode cX9_isLate 4 = .ok (.iload_n 1, 1) := by decide +kernel
theorem dX9_isLate_5 : decode cX9_isLate 5 = .ok (.baload, 1) := by decide +kernel
theorem dX9_isLate_6 : decode cX9_isLate 6 = .ok (.ifCond .eq 16, 3) := by decide +kernel
theorem dX9_isLate_9 : decode cX9_isLate 9 = .ok (.iload_n 2, 1) := by decide +kernel
theorem dX9_isLate_10 : decode cX9_isLate 10 = .ok (.aload_n 0, 1) := by decide +kernel
theorem dX9_isLate_11 : decode cX9_isLate 11 = .ok (.iload_n 1, 1) := by decide +kernel
theorem dX9_isLate_12 : decode cX9_isLate 12 = .ok (.invokevirtual 324, 3) := by decide +kernel
theorem dX9_isLate_15 : decode cX9_isLate 15 = .ok (.if_icmp .ge 7, 3) := by decide +kernel
theorem dX9_isLate_18 : decode cX9_isLate 18 = .ok (.iconst 1, 1) := by decide +kernel
theorem dX9_isLate_19 : decode cX9_isLate 19 = .ok (.goto 4, 3) := by decide +kernel
theorem dX9_isLate_22 : decode cX9_isLate 22 = .ok (.iconst 0, 1) := by decide +kernel
theorem dX9_isLate_23 : decode cX9_isLate 23 = .ok (.ireturn, 1) := by decide +kernel
theorem dX9_isId_0 : decode cX9_isId 0 = .ok (.iload_n 0, 1) := by decide +kernel
theorem dX9_isId_1 : decode cX9_isId 1 = .ok (.i2l, 1) := by decide +kernel
theorem dX9_isId_2 : decode cX9_isId 2 = .ok (.lconst 0, 1) := by decide +kernel
theorem dX9_isId_3 : decode cX9_isId 3 = .ok (.ldc2_w 333, 3) := by decide +kernel
theorem dX9_isId_6 : decode cX9_isId 6 = .ok (.invokestatic 210, 3) := by decide +kernel
theorem dX9_isId_9 : decode cX9_isId 9 = .ok (.ireturn, 1) := by decide +kernel
theorem dX9_isTime_0 : decode cX9_isTime 0 = .ok (.lload_n 0, 1) := by decide +kernel
theorem dX9_isTime_1 : decode cX9_isTime 1 = .ok (.ldc2_w 335, 3) := by decide +kernel
theorem dX9_isTime_4 : decode cX9_isTime 4 = .ok (.ldc2_w 337, 3) := by decide +kernel
theorem dX9_isTime_7 : decode cX9_isTime 7 = .ok (.invokestatic 210, 3) := by decide +kernel
theorem dX9_isTime_10 : decode cX9_isTime 10 = .ok (.ireturn, 1) := by decide +kernel
theorem dX9_isValue_0 : decode cX9_isValue 0 = .ok (.lload_n 0, 1) := by decide +kernel
theorem dX9_isValue_1 : decode cX9_isValue 1 = .ok (.ldc2_w 339, 3) := by decide +kernel
theorem dX9_isValue_4 : decode cX9_isValue 4 = .ok (.ldc2_w 341, 3) := by decide +kernel
theorem dX9_isValue_7 : decode cX9_isValue 7 = .ok (.invokestatic 210, 3) := by decide +kernel
theorem dX9_isValue_10 : decode cX9_isValue 10 = .ok (.ireturn, 1) := by decide +kernel
theorem dX9_puts_0 : decode cX9_puts 0 = .ok (.aload_n 0, 1) := by decide +kernel
theorem dX9_puts_1 : decode cX9_puts 1 = .ok (.iload_n 1, 1) := by decide +kernel
theorem dX9_puts_2 : decode cX9_puts 2 = .ok (.iload_n 2, 1) := by decide +kernel
theorem dX9_puts_3 : decode cX9_puts 3 = .ok (.invokevirtual 343, 3) := by decide +kernel
theorem dX9_puts_6 : decode cX9_puts 6 = .ok (.aload_n 0, 1) := by decide +kernel
theorem dX9_puts_7 : decode cX9_puts 7 = .ok (.iload_n 1, 1) := by decide +kernel
theorem dX9_puts_8 : decode cX9_puts 8 = .ok (.iload_n 2, 1) := by decide +kernel
theorem dX9_puts_9 : decode cX9_puts 9 = .ok (.iload_n 3, 1) := by decide +kernel
theorem dX9_puts_10 : decode cX9_puts 10 = .ok (.invokevirtual 347, 3) := by decide +kernel
theorem dX9_puts_13 : decode cX9_puts 13 = .ok (.return_, 1) := by decide +kernel
theorem dX9_refuse_0 : decode cX9_refuse 0 = .ok (.aload_n 0, 1) := by decide +kernel
theorem dX9_refuse_1 : decode cX9_refuse 1 = .ok (.iload_n 1, 1) := by decide +kernel
theorem dX9_refuse_2 : decode cX9_refuse 2 = .ok (.putfield 351, 3) := by decide +kernel
theorem dX9_refuse_5 : decode cX9_refuse 5 = .ok (.iconst (-1), 1) := by decide +kernel
theorem dX9_refuse_6 : decode cX9_refuse 6 = .ok (.ireturn, 1) := by decide +kernel
theorem dX9_fine_0 : decode cX9_fine 0 = .ok (.aload_n 0, 1) := by decide +kernel
theorem dX9_fine_1 : decode cX9_fine 1 = .ok (.iconst 0, 1) := by decide +kernel
theorem dX9_fine_2 : decode cX9_fine 2 = .ok (.putfield 351, 3) := by decide +kernel
theorem dX9_fine_5 : decode cX9_fine 5 = .ok (.aload_n 0, 1) := by decide +kernel
theorem dX9_fine_6 : decode cX9_fine 6 = .ok (.iconst 0, 1) := by decide +kernel
theorem dX9_fine_7 : decode cX9_fine 7 = .ok (.putfield 354, 3) := by decide +kernel
theorem dX9_fine_10 : decode cX9_fine 10 = .ok (.aload_n 0, 1) := by decide +kernel
theorem dX9_fine_11 : decode cX9_fine 11 = .ok (.iconst (-1), 1) := by decide +kernel
theorem dX9_fine_12 : decode cX9_fine 12 = .ok (.putfield 96, 3) := by decide +kernel
theorem dX9_fine_15 : decode cX9_fine 15 = .ok (.aload_n 0, 1) := by decide +kernel
theorem dX9_fine_16 : decode cX9_fine 16 = .ok (.iconst (-1), 1) := by decide +kernel
theorem dX9_fine_17 : decode cX9_fine 17 = .ok (.putfield 99, 3) := by decide +kernel
theorem dX9_fine_20 : decode cX9_fine 20 = .ok (.return_, 1) := by decide +kernel
theorem dX9_isLateBy_0 : decode cX9_isLateBy 0 = .ok (.aload_n 0, 1) := by decide +kernel
theorem dX9_isLateBy_1 : decode cX9_isLateBy 1 = .ok (.aload_n 0, 1) := by decide +kernel
theorem dX9_isLateBy_2 : decode cX9_isLateBy 2 = .ok (.iload_n 1, 1) := by decide +kernel
theorem dX9_isLateBy_3 : decode cX9_isLateBy 3 = .ok (.invokevirtual 324, 3) := by decide +kernel
theorem dX9_isLateBy_6 : decode cX9_isLateBy 6 = .ok (.iload_n 2, 1) := by decide +kernel
theorem dX9_isLateBy_7 : decode cX9_isLateBy 7 = .ok (.isub, 1) := by decide +kernel
theorem dX9_isLateBy_8 : decode cX9_isLateBy 8 = .ok (.putfield 96, 3) := by decide +kernel
theorem dX9_isLateBy_11 : decode cX9_isLateBy 11 = .ok (.return_, 1) := by decide +kernel
theorem dX9_put_0 : decode cX9_put 0 = .ok (.aload_n 0, 1) := by decide +kernel
theorem dX9_put_1 : decode cX9_put 1 = .ok (.iconst 0, 1) := by decide +kernel
theorem dX9_put_2 : decode cX9_put 2 = .ok (.putfield 130, 3) := by decide +kernel
theorem dX9_put_5 : decode cX9_put 5 = .ok (.aload_n 0, 1) := by decide +kernel
theorem dX9_put_6 : decode cX9_put 6 = .ok (.invokevirtual 357, 3) := by decide +kernel
theorem dX9_put_9 : decode cX9_put 9 = .ok (.iload_n 1, 1) := by decide +kernel
theorem dX9_put_10 : decode cX9_put 10 = .ok (.invokestatic 360, 3) := by decide +kernel
theorem dX9_put_13 : decode cX9_put 13 = .ok (.ifCond .eq 19, 3) := by decide +kernel
theorem dX9_put_16 : decode cX9_put 16 = .ok (.iload_n 2, 1) := by decide +kernel
theorem dX9_put_17 : decode cX9_put 17 = .ok (.i2l, 1) := by decide +kernel
theorem dX9_put_18 : decode cX9_put 18 = .ok (.invokestatic 363, 3) := by decide +kernel
theorem dX9_put_21 : decode cX9_put 21 = .ok (.ifCond .eq 11, 3) := by decide +kernel
theorem dX9_put_24 : decode cX9_put 24 = .ok (.iload_n 3, 1) := by decide +kernel
theorem dX9_put_25 : decode cX9_put 25 = .ok (.i2l, 1) := by decide +kernel
theorem dX9_put_26 : decode cX9_put 26 = .ok (.invokestatic 367, 3) := by decide +kernel
theorem dX9_put_29 : decode cX9_put 29 = .ok (.ifCond .ne 9, 3) := by decide +kernel
theorem dX9_put_32 : decode cX9_put 32 = .ok (.aload_n 0, 1) := by decide +kernel
theorem dX9_put_33 : decode cX9_put 33 = .ok (.iconst 1, 1) := by decide +kernel
theorem dX9_put_34 : decode cX9_put 34 = .ok (.invokevirtual 370, 3) := by decide +kernel
theorem dX9_put_37 : decode cX9_put 37 = .ok (.ireturn, 1) := by decide +kernel
theorem dX9_put_38 : decode cX9_put 38 = .ok (.aload_n 0, 1) := by decide +kernel
theorem dX9_put_39 : decode cX9_put 39 = .ok (.iload_n 1, 1) := by decide +kernel
theorem dX9_put_40 : decode cX9_put 40 = .ok (.iload_n 2, 1) := by decide +kernel
theorem dX9_put_41 : decode cX9_put 41 = .ok (.invokevirtual 373, 3) := by decide +kernel
theorem dX9_put_44 : decode cX9_put 44 = .ok (.ifCond .eq 35, 3) := by decide +kernel
theorem dX9_put_47 : decode cX9_put 47 = .ok (.aload_n 0, 1) := by decide +kernel
theorem dX9_put_48 : decode cX9_put 48 = .ok (.getfield 63, 3) := by decide +kernel
theorem dX9_put_51 : decode cX9_put 51 = .ok (.iload_n 1, 1) := by decide +kernel
theorem dX9_put_52 : decode cX9_put 52 = .ok (.dup2, 1) := by decide +kernel
theorem dX9_put_53 : decode cX9_put 53 = .ok (.iaload, 1) := by decide +kernel
theorem dX9_put_54 : decode cX9_put 54 = .ok (.iconst 1, 1) := by decide +kernel
theorem dX9_put_55 : decode cX9_put 55 = .ok (.iadd, 1) := by decide +kernel
theorem dX9_put_56 : decode cX9_put 56 = .ok (.iastore, 1) := by decide +kernel
theorem dX9_put_57 : decode cX9_put 57 = .ok (.aload_n 0, 1) := by decide +kernel
theorem dX9_put_58 : decode cX9_put 58 = .ok (.dup, 1) := by decide +kernel
theorem dX9_put_59 : decode cX9_put 59 = .ok (.getfield 377, 3) := by decide +kernel
theorem dX9_put_62 : decode cX9_put 62 = .ok (.iconst 1, 1) := by decide +kernel
theorem dX9_put_63 : decode cX9_put 63 = .ok (.iadd, 1) := by decide +kernel
theorem dX9_put_64 : decode cX9_put 64 = .ok (.putfield 377, 3) := by decide +kernel
theorem dX9_put_67 : decode cX9_put 67 = .ok (.aload_n 0, 1) := by decide +kernel
theorem dX9_put_68 : decode cX9_put 68 = .ok (.iload_n 1, 1) := by decide +kernel
theorem dX9_put_69 : decode cX9_put 69 = .ok (.iload_n 2, 1) := by decide +kernel
theorem dX9_put_70 : decode cX9_put 70 = .ok (.invokevirtual 380, 3) := by decide +kernel
theorem dX9_put_73 : decode cX9_put 73 = .ok (.aload_n 0, 1) := by decide +kernel
theorem dX9_put_74 : decode cX9_put 74 = .ok (.iconst 2, 1) := by decide +kernel
theorem dX9_put_75 : decode cX9_put 75 = .ok (.invokevirtual 370, 3) := by decide +kernel
theorem dX9_put_78 : decode cX9_put 78 = .ok (.ireturn, 1) := by decide +kernel
theorem dX9_put_79 : decode cX9_put 79 = .ok (.aload_n 0, 1) := by decide +kernel
theorem dX9_put_80 : decode cX9_put 80 = .ok (.iload_n 1, 1) := by decide +kernel
theorem dX9_put_81 : decode cX9_put 81 = .ok (.iload_n 2, 1) := by decide +kernel
theorem dX9_put_82 : decode cX9_put 82 = .ok (.iload_n 3, 1) := by decide +kernel
theorem dX9_put_83 : decode cX9_put 83 = .ok (.invokevirtual 383, 3) := by decide +kernel
theorem dX9_put_86 : decode cX9_put 86 = .ok (.aload_n 0, 1) := by decide +kernel
theorem dX9_put_87 : decode cX9_put 87 = .ok (.aload_n 0, 1) := by decide +kernel
theorem dX9_put_88 : decode cX9_put 88 = .ok (.getfield 60, 3) := by decide +kernel
theorem dX9_put_91 : decode cX9_put 91 = .ok (.iload_n 1, 1) := by decide +kernel
theorem dX9_put_92 : decode cX9_put 92 = .ok (.iaload, 1) := by decide +kernel
theorem dX9_put_93 : decode cX9_put 93 = .ok (.iload_n 2, 1) := by decide +kernel
theorem dX9_put_94 : decode cX9_put 94 = .ok (.invokevirtual 386, 3) := by decide +kernel
theorem dX9_put_97 : decode cX9_put 97 = .ok (.ireturn, 1) := by decide +kernel
theorem dX9_tick_0 : decode cX9_tick 0 = .ok (.aload_n 0, 1) := by decide +kernel
theorem dX9_tick_1 : decode cX9_tick 1 = .ok (.iconst 0, 1) := by decide +kernel
theorem dX9_tick_2 : decode cX9_tick 2 = .ok (.putfield 130, 3) := by decide +kernel
theorem dX9_tick_5 : decode cX9_tick 5 = .ok (.aload_n 0, 1) := by decide +kernel
theorem dX9_tick_6 : decode cX9_tick 6 = .ok (.invokevirtual 357, 3) := by decide +kernel
theorem dX9_tick_9 : decode cX9_tick 9 = .ok (.iload_n 1, 1) := by decide +kernel
theorem dX9_tick_10 : decode cX9_tick 10 = .ok (.invokestatic 360, 3) := by decide +kernel
theorem dX9_tick_13 : decode cX9_tick 13 = .ok (.ifCond .eq 11, 3) := by decide +kernel
theorem dX9_tick_16 : decode cX9_tick 16 = .ok (.iload_n 2, 1) := by decide +kernel
theorem dX9_tick_17 : decode cX9_tick 17 = .ok (.i2l, 1) := by decide +kernel
theorem dX9_tick_18 : decode cX9_tick 18 = .ok (.invokestatic 363, 3) := by decide +kernel
theorem dX9_tick_21 : decode cX9_tick 21 = .ok (.ifCond .ne 9, 3) := by decide +kernel
theorem dX9_tick_24 : decode cX9_tick 24 = .ok (.aload_n 0, 1) := by decide +kernel
theorem dX9_tick_25 : decode cX9_tick 25 = .ok (.iconst 1, 1) := by decide +kernel
theorem dX9_tick_26 : decode cX9_tick 26 = .ok (.invokevirtual 370, 3) := by decide +kernel
theorem dX9_tick_29 : decode cX9_tick 29 = .ok (.ireturn, 1) := by decide +kernel
theorem dX9_tick_30 : decode cX9_tick 30 = .ok (.aload_n 0, 1) := by decide +kernel
theorem dX9_tick_31 : decode cX9_tick 31 = .ok (.iload_n 1, 1) := by decide +kernel
theorem dX9_tick_32 : decode cX9_tick 32 = .ok (.iload_n 2, 1) := by decide +kernel
theorem dX9_tick_33 : decode cX9_tick 33 = .ok (.invokevirtual 343, 3) := by decide +kernel
theorem dX9_tick_36 : decode cX9_tick 36 = .ok (.aload_n 0, 1) := by decide +kernel
theorem dX9_tick_37 : decode cX9_tick 37 = .ok (.iload_n 1, 1) := by decide +kernel
theorem dX9_tick_38 : decode cX9_tick 38 = .ok (.invokevirtual 389, 3) := by decide +kernel
theorem dX9_tick_41 : decode cX9_tick 41 = .ok (.ireturn, 1) := by decide +kernel
theorem dX9_drop_0 : decode cX9_drop 0 = .ok (.aload_n 0, 1) := by decide +kernel
theorem dX9_drop_1 : decode cX9_drop 1 = .ok (.iconst 0, 1) := by decide +kernel
theorem dX9_drop_2 : decode cX9_drop 2 = .ok (.putfield 130, 3) := by decide +kernel
theorem dX9_drop_5 : decode cX9_drop 5 = .ok (.aload_n 0, 1) := by decide +kernel
theorem dX9_drop_6 : decode cX9_drop 6 = .ok (.invokevirtual 357, 3) := by decide +kernel
theorem dX9_drop_9 : decode cX9_drop 9 = .ok (.iload_n 1, 1) := by decide +kernel
theorem dX9_drop_10 : decode cX9_drop 10 = .ok (.invokestatic 360, 3) := by decide +kernel
theorem dX9_drop_13 : decode cX9_drop 13 = .ok (.ifCond .ne 9, 3) := by decide +kernel
theorem dX9_drop_16 : decode cX9_drop 16 = .ok (.aload_n 0, 1) := by decide +kernel
theorem dX9_drop_17 : decode cX9_drop 17 = .ok (.iconst 1, 1) := by decide +kernel
theorem dX9_drop_18 : decode cX9_drop 18 = .ok (.invokevirtual 370, 3) := by decide +kernel
theorem dX9_drop_21 : decode cX9_drop 21 = .ok (.ireturn, 1) := by decide +kernel
theorem dX9_drop_22 : decode cX9_drop 22 = .ok (.aload_n 0, 1) := by decide +kernel
theorem dX9_drop_23 : decode cX9_drop 23 = .ok (.getfield 56, 3) := by decide +kernel
theorem dX9_drop_26 : decode cX9_drop 26 = .ok (.iload_n 1, 1) := by decide +kernel
theorem dX9_drop_27 : decode cX9_drop 27 = .ok (.baload, 1) := by decide +kernel
theorem dX9_drop_28 : decode cX9_drop 28 = .ok (.ifCond .eq 11, 3) := by decide +kernel
theorem dX9_drop_31 : decode cX9_drop 31 = .ok (.aload_n 0, 1) := by decide +kernel
theorem dX9_drop_32 : decode cX9_drop 32 = .ok (.iload_n 1, 1) := by decide +kernel
theorem dX9_drop_33 : decode cX9_drop 33 = .ok (.invokevirtual 315, 3) := by decide +kernel
theorem dX9_drop_36 : decode cX9_drop 36 = .ok (.goto 8, 3) := by decide +kernel
theorem dX9_drop_39 : decode cX9_drop 39 = .ok (.aload_n 0, 1) := by decide +kernel
theorem dX9_drop_40 : decode cX9_drop 40 = .ok (.iconst 3, 1) := by decide +kernel
theorem dX9_drop_41 : decode cX9_drop 41 = .ok (.invokevirtual 370, 3) := by decide +kernel
theorem dX9_drop_44 : decode cX9_drop 44 = .ok (.ireturn, 1) := by decide +kernel
theorem dX9_sheet_0 : decode cX9_sheet 0 = .ok (.aload_n 0, 1) := by decide +kernel
theorem dX9_sheet_1 : decode cX9_sheet 1 = .ok (.iconst 0, 1) := by decide +kernel
theorem dX9_sheet_2 : decode cX9_sheet 2 = .ok (.putfield 130, 3) := by decide +kernel
theorem dX9_sheet_5 : decode cX9_sheet 5 = .ok (.aload_n 0, 1) := by decide +kernel
theorem dX9_sheet_6 : decode cX9_sheet 6 = .ok (.invokevirtual 357, 3) := by decide +kernel
theorem dX9_sheet_9 : decode cX9_sheet 9 = .ok (.iload_n 1, 1) := by decide +kernel
theorem dX9_sheet_10 : decode cX9_sheet 10 = .ok (.invokestatic 360, 3) := by decide +kernel
theorem dX9_sheet_13 : decode cX9_sheet 13 = .ok (.ifCond .eq 15, 3) := by decide +kernel
theorem dX9_sheet_16 : decode cX9_sheet 16 = .ok (.iload_n 2, 1) := by decide +kernel
theorem dX9_sheet_17 : decode cX9_sheet 17 = .ok (.i2l, 1) := by decide +kernel
theorem dX9_sheet_18 : decode cX9_sheet 18 = .ok (.lconst 0, 1) := by decide +kernel
theorem dX9_sheet_19 : decode cX9_sheet 19 = .ok (.ldc2_w 392, 3) := by decide +kernel
theorem dX9_sheet_22 : decode cX9_sheet 22 = .ok (.invokestatic 210, 3) := by decide +kernel
theorem dX9_sheet_25 : decode cX9_sheet 25 = .ok (.ifCond .ne 9, 3) := by decide +kernel
theorem dX9_sheet_28 : decode cX9_sheet 28 = .ok (.aload_n 0, 1) := by decide +kernel
theorem dX9_sheet_29 : decode cX9_sheet 29 = .ok (.iconst 1, 1) := by decide +kernel
theorem dX9_sheet_30 : decode cX9_sheet 30 = .ok (.invokevirtual 370, 3) := by decide +kernel
theorem dX9_sheet_33 : decode cX9_sheet 33 = .ok (.ireturn, 1) := by decide +kernel
theorem dX9_sheet_34 : decode cX9_sheet 34 = .ok (.iconst 0, 1) := by decide +kernel
theorem dX9_sheet_35 : decode cX9_sheet 35 = .ok (.istore 7, 2) := by decide +kernel
theorem dX9_sheet_37 : decode cX9_sheet 37 = .ok (.iconst 0, 1) := by decide +kernel
theorem dX9_sheet_38 : decode cX9_sheet 38 = .ok (.istore 8, 2) := by decide +kernel
theorem dX9_sheet_40 : decode cX9_sheet 40 = .ok (.iload 8, 2) := by decide +kernel
theorem dX9_sheet_42 : decode cX9_sheet 42 = .ok (.iload_n 2, 1) := by decide +kernel
theorem dX9_sheet_43 : decode cX9_sheet 43 = .ok (.if_icmp .ge 101, 3) := by decide +kernel
theorem dX9_sheet_46 : decode cX9_sheet 46 = .ok (.iload 4, 2) := by decide +kernel
theorem dX9_sheet_48 : decode cX9_sheet 48 = .ok (.i2l, 1) := by decide +kernel
theorem dX9_sheet_49 : decode cX9_sheet 49 = .ok (.iload 8, 2) := by decide +kernel
theorem dX9_sheet_51 : decode cX9_sheet 51 = .ok (.i2l, 1) := by decide +kernel
theorem dX9_sheet_52 : decode cX9_sheet 52 = .ok (.lmul, 1) := by decide +kernel
theorem dX9_sheet_53 : decode cX9_sheet 53 = .ok (.iload_n 3, 1) := by decide +kernel
theorem dX9_sheet_54 : decode cX9_sheet 54 = .ok (.i2l, 1) := by decide +kernel
theorem dX9_sheet_55 : decode cX9_sheet 55 = .ok (.ladd, 1) := by decide +kernel
theorem dX9_sheet_56 : decode cX9_sheet 56 = .ok (.lstore 9, 2) := by decide +kernel
theorem dX9_sheet_58 : decode cX9_sheet 58 = .ok (.iload 6, 2) := by decide +kernel
theorem dX9_sheet_60 : decode cX9_sheet 60 = .ok (.i2l, 1) := by decide +kernel
theorem dX9_sheet_61 : decode cX9_sheet 61 = .ok (.iload 8, 2) := by decide +kernel
theorem dX9_sheet_63 : decode cX9_sheet 63 = .ok (.i2l, 1) := by decide +kernel
theorem dX9_sheet_64 : decode cX9_sheet 64 = .ok (.lmul, 1) := by decide +kernel
theorem dX9_sheet_65 : decode cX9_sheet 65 = .ok (.iload 5, 2) := by decide +kernel
theorem dX9_sheet_67 : decode cX9_sheet 67 = .ok (.i2l, 1) := by decide +kernel
theorem dX9_sheet_68 : decode cX9_sheet 68 = .ok (.ladd, 1) := by decide +kernel
theorem dX9_sheet_69 : decode cX9_sheet 69 = .ok (.lstore 11, 2) := by decide +kernel
theorem dX9_sheet_71 : decode cX9_sheet 71 = .ok (.lload 9, 2) := by decide +kernel
theorem dX9_sheet_73 : decode cX9_sheet 73 = .ok (.invokestatic 363, 3) := by decide +kernel
theorem dX9_sheet_76 : decode cX9_sheet 76 = .ok (.ifCond .eq 62, 3) := by decide +kernel
theorem dX9_sheet_79 : decode cX9_sheet 79 = .ok (.lload 11, 2) := by decide +kernel
theorem dX9_sheet_81 : decode cX9_sheet 81 = .ok (.invokestatic 367, 3) := by decide +kernel
theorem dX9_sheet_84 : decode cX9_sheet 84 = .ok (.ifCond .ne 6, 3) := by decide +kernel
theorem dX9_sheet_87 : decode cX9_sheet 87 = .ok (.goto 51, 3) := by decide +kernel
theorem dX9_sheet_90 : decode cX9_sheet 90 = .ok (.aload_n 0, 1) := by decide +kernel
theorem dX9_sheet_91 : decode cX9_sheet 91 = .ok (.iload_n 1, 1) := by decide +kernel
theorem dX9_sheet_92 : decode cX9_sheet 92 = .ok (.lload 9, 2) := by decide +kernel
theorem dX9_sheet_94 : decode cX9_sheet 94 = .ok (.l2i, 1) := by decide +kernel
theorem dX9_sheet_95 : decode cX9_sheet 95 = .ok (.invokevirtual 373, 3) := by decide +kernel
theorem dX9_sheet_98 : decode cX9_sheet 98 = .ok (.ifCond .eq 26, 3) := by decide +kernel
theorem dX9_sheet_101 : decode cX9_sheet 101 = .ok (.aload_n 0, 1) := by decide +kernel
theorem dX9_sheet_102 : decode cX9_sheet 102 = .ok (.getfield 63, 3) := by decide +kernel
theorem dX9_sheet_105 : decode cX9_sheet 105 = .ok (.iload_n 1, 1) := by decide +kernel
theorem dX9_sheet_106 : decode cX9_sheet 106 = .ok (.dup2, 1) := by decide +kernel
theorem dX9_sheet_107 : decode cX9_sheet 107 = .ok (.iaload, 1) := by decide +kernel
theorem dX9_sheet_108 : decode cX9_sheet 108 = .ok (.iconst 1, 1) := by decide +kernel
theorem dX9_sheet_109 : decode cX9_sheet 109 = .ok (.iadd, 1) := by decide +kernel
theorem dX9_sheet_110 : decode cX9_sheet 110 = .ok (.iastore, 1) := by decide +kernel
theorem dX9_sheet_111 : decode cX9_sheet 111 = .ok (.aload_n 0, 1) := by decide +kernel
theorem dX9_sheet_112 : decode cX9_sheet 112 = .ok (.dup, 1) := by decide +kernel
theorem dX9_sheet_113 : decode cX9_sheet 113 = .ok (.getfield 377, 3) := by decide +kernel
theorem dX9_sheet_116 : decode cX9_sheet 116 = .ok (.iconst 1, 1) := by decide +kernel
theorem dX9_sheet_117 : decode cX9_sheet 117 = .ok (.iadd, 1) := by decide +kernel
theorem dX9_sheet_118 : decode cX9_sheet 118 = .ok (.putfield 377, 3) := by decide +kernel
theorem dX9_sheet_121 : decode cX9_sheet 121 = .ok (.goto 17, 3) := by decide +kernel
theorem dX9_sheet_124 : decode cX9_sheet 124 = .ok (.aload_n 0, 1) := by decide +kernel
theorem dX9_sheet_125 : decode cX9_sheet 125 = .ok (.iload_n 1, 1) := by decide +kernel
theorem dX9_sheet_126 : decode cX9_sheet 126 = .ok (.lload 9, 2) := by decide +kernel
theorem dX9_sheet_128 : decode cX9_sheet 128 = .ok (.l2i, 1) := by decide +kernel
theorem dX9_sheet_129 : decode cX9_sheet 129 = .ok (.lload 11, 2) := by decide +kernel
theorem dX9_sheet_131 : decode cX9_sheet 131 = .ok (.l2i, 1) := by decide +kernel
theorem dX9_sheet_132 : decode cX9_sheet 132 = .ok (.invokevirtual 383, 3) := by decide +kernel
theorem dX9_sheet_135 : decode cX9_sheet 135 = .ok (.iinc 7 1, 3) := by decide +kernel
theorem dX9_sheet_138 : decode cX9_sheet 138 = .ok (.iinc 8 1, 3) := by decide +kernel
theorem dX9_sheet_141 : decode cX9_sheet 141 = .ok (.goto (-101), 3) := by decide +kernel
theorem dX9_sheet_144 : decode cX9_sheet 144 = .ok (.iload 7, 2) := by decide +kernel
theorem dX9_sheet_146 : decode cX9_sheet 146 = .ok (.ireturn, 1) := by decide +kernel
theorem dX9_why_0 : decode cX9_why 0 = .ok (.aload_n 0, 1) := by decide +kernel
theorem dX9_why_1 : decode cX9_why 1 = .ok (.iconst 0, 1) := by decide +kernel
theorem dX9_why_2 : decode cX9_why 2 = .ok (.putfield 130, 3) := by decide +kernel
theorem dX9_why_5 : decode cX9_why 5 = .ok (.iload_n 1, 1) := by decide +kernel
theorem dX9_why_6 : decode cX9_why 6 = .ok (.tableswitch 50 0 3 #[30, 35, 40, 45], 30) := by decide +kernel
theorem dX9_why_36 : decode cX9_why 36 = .ok (.aload_n 0, 1) := by decide +kernel
theorem dX9_why_37 : decode cX9_why 37 = .ok (.getfield 351, 3) := by decide +kernel
theorem dX9_why_40 : decode cX9_why 40 = .ok (.ireturn, 1) := by decide +kernel
theorem dX9_why_41 : decode cX9_why 41 = .ok (.aload_n 0, 1) := by decide +kernel
theorem dX9_why_42 : decode cX9_why 42 = .ok (.getfield 354, 3) := by decide +kernel
theorem dX9_why_45 : decode cX9_why 45 = .ok (.ireturn, 1) := by decide +kernel
theorem dX9_why_46 : decode cX9_why 46 = .ok (.aload_n 0, 1) := by decide +kernel
theorem dX9_why_47 : decode cX9_why 47 = .ok (.getfield 96, 3) := by decide +kernel
theorem dX9_why_50 : decode cX9_why 50 = .ok (.ireturn, 1) := by decide +kernel
theorem dX9_why_51 : decode cX9_why 51 = .ok (.aload_n 0, 1) := by decide +kernel
theorem dX9_why_52 : decode cX9_why 52 = .ok (.getfield 99, 3) := by decide +kernel
theorem dX9_why_55 : decode cX9_why 55 = .ok (.ireturn, 1) := by decide +kernel
theorem dX9_why_56 : decode cX9_why 56 = .ok (.aload_n 0, 1) := by decide +kernel
theorem dX9_why_57 : decode cX9_why 57 = .ok (.iconst 1, 1) := by decide +kernel
theorem dX9_why_58 : decode cX9_why 58 = .ok (.invokevirtual 263, 3) := by decide +kernel
theorem dX9_why_61 : decode cX9_why 61 = .ok (.ireturn, 1) := by decide +kernel
theorem dX9_readLine_0 : decode cX9_readLine 0 = .ok (.aload_n 0, 1) := by decide +kernel
theorem dX9_readLine_1 : decode cX9_readLine 1 = .ok (.aload_n 0, 1) := by decide +kernel
theorem dX9_readLine_2 : decode cX9_readLine 2 = .ok (.getfield 40, 3) := by decide +kernel
theorem dX9_readLine_5 : decode cX9_readLine 5 = .ok (.invokevirtual 235, 3) := by decide +kernel
theorem dX9_readLine_8 : decode cX9_readLine 8 = .ok (.istore_n 1, 1) := by decide +kernel
theorem dX9_readLine_9 : decode cX9_readLine 9 = .ok (.iload_n 1, 1) := by decide +kernel
theorem dX9_readLine_10 : decode cX9_readLine 10 = .ok (.iconst (-1), 1) := by decide +kernel
theorem dX9_readLine_11 : decode cX9_readLine 11 = .ok (.if_icmp .ne 8, 3) := by decide +kernel
theorem dX9_readLine_14 : decode cX9_readLine 14 = .ok (.aload_n 0, 1) := by decide +kernel
theorem dX9_readLine_15 : decode cX9_readLine 15 = .ok (.iconst 1, 1) := by decide +kernel
theorem dX9_readLine_16 : decode cX9_readLine 16 = .ok (.invokevirtual 203, 3) := by decide +kernel
theorem dX9_readLine_19 : decode cX9_readLine 19 = .ok (.aload_n 0, 1) := by decide +kernel
theorem dX9_readLine_20 : decode cX9_readLine 20 = .ok (.invokevirtual 207, 3) := by decide +kernel
theorem dX9_readLine_23 : decode cX9_readLine 23 = .ok (.aload_n 0, 1) := by decide +kernel
theorem dX9_readLine_24 : decode cX9_readLine 24 = .ok (.iconst 0, 1) := by decide +kernel
theorem dX9_readLine_25 : decode cX9_readLine 25 = .ok (.bipush 9, 2) := by decide +kernel
theorem dX9_readLine_27 : decode cX9_readLine 27 = .ok (.invokevirtual 254, 3) := by decide +kernel
theorem dX9_readLine_30 : decode cX9_readLine 30 = .ok (.istore_n 2, 1) := by decide +kernel
theorem dX9_readLine_31 : decode cX9_readLine 31 = .ok (.iload_n 1, 1) := by decide +kernel
theorem dX9_readLine_32 : decode cX9_readLine 32 = .ok (.iconst 2, 1) := by decide +kernel
theorem dX9_readLine_33 : decode cX9_readLine 33 = .ok (.if_icmp .ge 16, 3) := by decide +kernel
theorem dX9_readLine_36 : decode cX9_readLine 36 = .ok (.aload_n 0, 1) := by decide +kernel
theorem dX9_readLine_37 : decode cX9_readLine 37 = .ok (.ldc_w 394, 3) := by decide +kernel
theorem dX9_readLine_40 : decode cX9_readLine 40 = .ok (.ldc_w 395, 3) := by decide +kernel
theorem dX9_readLine_43 : decode cX9_readLine 43 = .ok (.invokevirtual 240, 3) := by decide +kernel
theorem dX9_readLine_46 : decode cX9_readLine 46 = .ok (.goto 4, 3) := by decide +kernel
theorem dX9_readLine_49 : decode cX9_readLine 49 = .ok (.iconst 0, 1) := by decide +kernel
theorem dX9_readLine_50 : decode cX9_readLine 50 = .ok (.istore_n 3, 1) := by decide +kernel
theorem dX9_readLine_51 : decode cX9_readLine 51 = .ok (.iload_n 1, 1) := by decide +kernel
theorem dX9_readLine_52 : decode cX9_readLine 52 = .ok (.ifCond .ne 16, 3) := by decide +kernel
theorem dX9_readLine_55 : decode cX9_readLine 55 = .ok (.aload_n 0, 1) := by decide +kernel
theorem dX9_readLine_56 : decode cX9_readLine 56 = .ok (.sipush (-10000), 3) := by decide +kernel
theorem dX9_readLine_59 : decode cX9_readLine 59 = .ok (.sipush 10000, 3) := by decide +kernel
theorem dX9_readLine_62 : decode cX9_readLine 62 = .ok (.invokevirtual 240, 3) := by decide +kernel
theorem dX9_readLine_65 : decode cX9_readLine 65 = .ok (.goto 4, 3) := by decide +kernel
theorem dX9_readLine_68 : decode cX9_readLine 68 = .ok (.iconst 0, 1) := by decide +kernel
theorem dX9_readLine_69 : decode cX9_readLine 69 = .ok (.istore 4, 2) := by decide +kernel
theorem dX9_readLine_71 : decode cX9_readLine 71 = .ok (.aload_n 0, 1) := by decide +kernel
theorem dX9_readLine_72 : decode cX9_readLine 72 = .ok (.bipush 59, 2) := by decide +kernel
theorem dX9_readLine_74 : decode cX9_readLine 74 = .ok (.invokevirtual 232, 3) := by decide +kernel
theorem dX9_readLine_77 : decode cX9_readLine 77 = .ok (.aload_n 0, 1) := by decide +kernel
theorem dX9_readLine_78 : decode cX9_readLine 78 = .ok (.getfield 179, 3) := by decide +kernel
theorem dX9_readLine_81 : decode cX9_readLine 81 = .ok (.ifCond .eq 4, 3) := by decide +kernel
theorem dX9_readLine_84 : decode cX9_readLine 84 = .ok (.return_, 1) := by decide +kernel
theorem dX9_readLine_85 : decode cX9_readLine 85 = .ok (.aload_n 0, 1) := by decide +kernel
theorem dX9_readLine_86 : decode cX9_readLine 86 = .ok (.getfield 102, 3) := by decide +kernel
theorem dX9_readLine_89 : decode cX9_readLine 89 = .ok (.iconst 4, 1) := by decide +kernel
theorem dX9_readLine_90 : decode cX9_readLine 90 = .ok (.aload_n 0, 1) := by decide +kernel
theorem dX9_readLine_91 : decode cX9_readLine 91 = .ok (.getfield 396, 3) := by decide +kernel
theorem dX9_readLine_94 : decode cX9_readLine 94 = .ok (.imul, 1) := by decide +kernel
theorem dX9_readLine_95 : decode cX9_readLine 95 = .ok (.iload_n 1, 1) := by decide +kernel
theorem dX9_readLine_96 : decode cX9_readLine 96 = .ok (.iastore, 1) := by decide +kernel
theorem dX9_readLine_97 : decode cX9_readLine 97 = .ok (.aload_n 0, 1) := by decide +kernel
theorem dX9_readLine_98 : decode cX9_readLine 98 = .ok (.getfield 102, 3) := by decide +kernel
theorem dX9_readLine_101 : decode cX9_readLine 101 = .ok (.iconst 4, 1) := by decide +kernel
theorem dX9_readLine_102 : decode cX9_readLine 102 = .ok (.aload_n 0, 1) := by decide +kernel
theorem dX9_readLine_103 : decode cX9_readLine 103 = .ok (.getfield 396, 3) := by decide +kernel
theorem dX9_readLine_106 : decode cX9_readLine 106 = .ok (.imul, 1) := by decide +kernel
theorem dX9_readLine_107 : decode cX9_readLine 107 = .ok (.iconst 1, 1) := by decide +kernel
theorem dX9_readLine_108 : decode cX9_readLine 108 = .ok (.iadd, 1) := by decide +kernel
theorem dX9_readLine_109 : decode cX9_readLine 109 = .ok (.iload_n 2, 1) := by decide +kernel
theorem dX9_readLine_110 : decode cX9_readLine 110 = .ok (.iastore, 1) := by decide +kernel
theorem dX9_readLine_111 : decode cX9_readLine 111 = .ok (.aload_n 0, 1) := by decide +kernel
theorem dX9_readLine_112 : decode cX9_readLine 112 = .ok (.getfield 102, 3) := by decide +kernel
theorem dX9_readLine_115 : decode cX9_readLine 115 = .ok (.iconst 4, 1) := by decide +kernel
theorem dX9_readLine_116 : decode cX9_readLine 116 = .ok (.aload_n 0, 1) := by decide +kernel
theorem dX9_readLine_117 : decode cX9_readLine 117 = .ok (.getfield 396, 3) := by decide +kernel
theorem dX9_readLine_120 : decode cX9_readLine 120 = .ok (.imul, 1) := by decide +kernel
theorem dX9_readLine_121 : decode cX9_readLine 121 = .ok (.iconst 2, 1) := by decide +kernel
theorem dX9_readLine_122 : decode cX9_readLine 122 = .ok (.iadd, 1) := by decide +kernel
theorem dX9_readLine_123 : decode cX9_readLine 123 = .ok (.iload_n 3, 1) := by decide +kernel
theorem dX9_readLine_124 : decode cX9_readLine 124 = .ok (.iastore, 1) := by decide +kernel
theorem dX9_readLine_125 : decode cX9_readLine 125 = .ok (.aload_n 0, 1) := by decide +kernel
theorem dX9_readLine_126 : decode cX9_readLine 126 = .ok (.getfield 102, 3) := by decide +kernel
theorem dX9_readLine_129 : decode cX9_readLine 129 = .ok (.iconst 4, 1) := by decide +kernel
theorem dX9_readLine_130 : decode cX9_readLine 130 = .ok (.aload_n 0, 1) := by decide +kernel
theorem dX9_readLine_131 : decode cX9_readLine 131 = .ok (.getfield 396, 3) := by decide +kernel
theorem dX9_readLine_134 : decode cX9_readLine 134 = .ok (.imul, 1) := by decide +kernel
theorem dX9_readLine_135 : decode cX9_readLine 135 = .ok (.iconst 3, 1) := by decide +kernel
theorem dX9_readLine_136 : decode cX9_readLine 136 = .ok (.iadd, 1) := by decide +kernel
theorem dX9_readLine_137 : decode cX9_readLine 137 = .ok (.iload 4, 2) := by decide +kernel
theorem dX9_readLine_139 : decode cX9_readLine 139 = .ok (.iastore, 1) := by decide +kernel
theorem dX9_readLine_140 : decode cX9_readLine 140 = .ok (.aload_n 0, 1) := by decide +kernel
theorem dX9_readLine_141 : decode cX9_readLine 141 = .ok (.dup, 1) := by decide +kernel
theorem dX9_readLine_142 : decode cX9_readLine 142 = .ok (.getfield 396, 3) := by decide +kernel
theorem dX9_readLine_145 : decode cX9_readLine 145 = .ok (.iconst 1, 1) := by decide +kernel
theorem dX9_readLine_146 : decode cX9_readLine 146 = .ok (.iadd, 1) := by decide +kernel
theorem dX9_readLine_147 : decode cX9_readLine 147 = .ok (.putfield 396, 3) := by decide +kernel
theorem dX9_readLine_150 : decode cX9_readLine 150 = .ok (.return_, 1) := by decide +kernel
theorem dX9_copies_0 : decode cX9_copies 0 = .ok (.iconst 0, 1) := by decide +kernel
theorem dX9_copies_1 : decode cX9_copies 1 = .ok (.istore_n 3, 1) := by decide +kernel
theorem dX9_copies_2 : decode cX9_copies 2 = .ok (.iload_n 3, 1) := by decide +kernel
theorem dX9_copies_3 : decode cX9_copies 3 = .ok (.iload_n 2, 1) := by decide +kernel
theorem dX9_copies_4 : decode cX9_copies 4 = .ok (.if_icmp .ge 15, 3) := by decide +kernel
theorem dX9_copies_7 : decode cX9_copies 7 = .ok (.aload_n 0, 1) := by decide +kernel
theorem dX9_copies_8 : decode cX9_copies 8 = .ok (.iload_n 3, 1) := by decide +kernel
theorem dX9_copies_9 : decode cX9_copies 9 = .ok (.aload_n 1, 1) := by decide +kernel
theorem dX9_copies_10 : decode cX9_copies 10 = .ok (.iload_n 3, 1) := by decide +kernel
theorem dX9_copies_11 : decode cX9_copies 11 = .ok (.iaload, 1) := by decide +kernel
theorem dX9_copies_12 : decode cX9_copies 12 = .ok (.iastore, 1) := by decide +kernel
theorem dX9_copies_13 : decode cX9_copies 13 = .ok (.iinc 3 1, 3) := by decide +kernel
theorem dX9_copies_16 : decode cX9_copies 16 = .ok (.goto (-14), 3) := by decide +kernel
theorem dX9_copies_19 : decode cX9_copies 19 = .ok (.return_, 1) := by decide +kernel
theorem dX9_laysAside_0 : decode cX9_laysAside 0 = .ok (.aload_n 0, 1) := by decide +kernel
theorem dX9_laysAside_1 : decode cX9_laysAside 1 = .ok (.getfield 105, 3) := by decide +kernel
theorem dX9_laysAside_4 : decode cX9_laysAside 4 = .ok (.arraylength, 1) := by decide +kernel
theorem dX9_laysAside_5 : decode cX9_laysAside 5 = .ok (.aload_n 0, 1) := by decide +kernel
theorem dX9_laysAside_6 : decode cX9_laysAside 6 = .ok (.getfield 278, 3) := by decide +kernel
theorem dX9_laysAside_9 : decode cX9_laysAside 9 = .ok (.if_icmp .ge 39, 3) := by decide +kernel
theorem dX9_laysAside_12 : decode cX9_laysAside 12 = .ok (.aload_n 0, 1) := by decide +kernel
theorem dX9_laysAside_13 : decode cX9_laysAside 13 = .ok (.aload_n 0, 1) := by decide +kernel
theorem dX9_laysAside_14 : decode cX9_laysAside 14 = .ok (.getfield 105, 3) := by decide +kernel
theorem dX9_laysAside_17 : decode cX9_laysAside 17 = .ok (.invokestatic 296, 3) := by decide +kernel
theorem dX9_laysAside_20 : decode cX9_laysAside 20 = .ok (.putfield 105, 3) := by decide +kernel
theorem dX9_laysAside_23 : decode cX9_laysAside 23 = .ok (.aload_n 0, 1) := by decide +kernel
theorem dX9_laysAside_24 : decode cX9_laysAside 24 = .ok (.aload_n 0, 1) := by decide +kernel
theorem dX9_laysAside_25 : decode cX9_laysAside 25 = .ok (.getfield 108, 3) := by decide +kernel
theorem dX9_laysAside_28 : decode cX9_laysAside 28 = .ok (.invokestatic 296, 3) := by decide +kernel
theorem dX9_laysAside_31 : decode cX9_laysAside 31 = .ok (.putfield 108, 3) := by decide +kernel
theorem dX9_laysAside_34 : decode cX9_laysAside 34 = .ok (.aload_n 0, 1) := by decide +kernel
theorem dX9_laysAside_35 : decode cX9_laysAside 35 = .ok (.aload_n 0, 1) := by decide +kernel
theorem dX9_laysAside_36 : decode cX9_laysAside 36 = .ok (.getfield 111, 3) := by decide +kernel
theorem dX9_laysAside_39 : decode cX9_laysAside 39 = .ok (.invokestatic 296, 3) := by decide +kernel
theorem dX9_laysAside_42 : decode cX9_laysAside 42 = .ok (.putfield 111, 3) := by decide +kernel
theorem dX9_laysAside_45 : decode cX9_laysAside 45 = .ok (.goto (-45), 3) := by decide +kernel
theorem dX9_laysAside_48 : decode cX9_laysAside 48 = .ok (.aload_n 0, 1) := by decide +kernel
theorem dX9_laysAside_49 : decode cX9_laysAside 49 = .ok (.getfield 105, 3) := by decide +kernel
theorem dX9_laysAside_52 : decode cX9_laysAside 52 = .ok (.aload_n 0, 1) := by decide +kernel
theorem dX9_laysAside_53 : decode cX9_laysAside 53 = .ok (.getfield 72, 3) := by decide +kernel
theorem dX9_laysAside_56 : decode cX9_laysAside 56 = .ok (.aload_n 0, 1) := by decide +kernel
theorem dX9_laysAside_57 : decode cX9_laysAside 57 = .ok (.getfield 278, 3) := by decide +kernel
theorem dX9_laysAside_60 : decode cX9_laysAside 60 = .ok (.invokestatic 399, 3) := by decide +kernel
theorem dX9_laysAside_63 : decode cX9_laysAside 63 = .ok (.aload_n 0, 1) := by decide +kernel
theorem dX9_laysAside_64 : decode cX9_laysAside 64 = .ok (.getfield 108, 3) := by decide +kernel
theorem dX9_laysAside_67 : decode cX9_laysAside 67 = .ok (.aload_n 0, 1) := by decide +kernel
theorem dX9_laysAside_68 : decode cX9_laysAside 68 = .ok (.getfield 75, 3) := by decide +kernel
theorem dX9_laysAside_71 : decode cX9_laysAside 71 = .ok (.aload_n 0, 1) := by decide +kernel
theorem dX9_laysAside_72 : decode cX9_laysAside 72 = .ok (.getfield 278, 3) := by decide +kernel
theorem dX9_laysAside_75 : decode cX9_laysAside 75 = .ok (.invokestatic 399, 3) := by decide +kernel
theorem dX9_laysAside_78 : decode cX9_laysAside 78 = .ok (.aload_n 0, 1) := by decide +kernel
theorem dX9_laysAside_79 : decode cX9_laysAside 79 = .ok (.getfield 111, 3) := by decide +kernel
theorem dX9_laysAside_82 : decode cX9_laysAside 82 = .ok (.aload_n 0, 1) := by decide +kernel
theorem dX9_laysAside_83 : decode cX9_laysAside 83 = .ok (.getfield 78, 3) := by decide +kernel
theorem dX9_laysAside_86 : decode cX9_laysAside 86 = .ok (.aload_n 0, 1) := by decide +kernel
theorem dX9_laysAside_87 : decode cX9_laysAside 87 = .ok (.getfield 278, 3) := by decide +kernel
theorem dX9_laysAside_90 : decode cX9_laysAside 90 = .ok (.invokestatic 399, 3) := by decide +kernel
theorem dX9_laysAside_93 : decode cX9_laysAside 93 = .ok (.iconst 0, 1) := by decide +kernel
theorem dX9_laysAside_94 : decode cX9_laysAside 94 = .ok (.istore_n 1, 1) := by decide +kernel
theorem dX9_laysAside_95 : decode cX9_laysAside 95 = .ok (.iload_n 1, 1) := by decide +kernel
theorem dX9_laysAside_96 : decode cX9_laysAside 96 = .ok (.bipush 10, 2) := by decide +kernel
theorem dX9_laysAside_98 : decode cX9_laysAside 98 = .ok (.if_icmp .ge 83, 3) := by decide +kernel
theorem dX9_laysAside_101 : decode cX9_laysAside 101 = .ok (.aload_n 0, 1) := by decide +kernel
theorem dX9_laysAside_102 : decode cX9_laysAside 102 = .ok (.getfield 114, 3) := by decide +kernel
theorem dX9_laysAside_105 : decode cX9_laysAside 105 = .ok (.iload_n 1, 1) := by decide +kernel
theorem dX9_laysAside_106 : decode cX9_laysAside 106 = .ok (.aload_n 0, 1) := by decide +kernel
theorem dX9_laysAside_107 : decode cX9_laysAside 107 = .ok (.getfield 56, 3) := by decide +kernel
theorem dX9_laysAside_110 : decode cX9_laysAside 110 = .ok (.iload_n 1, 1) := by decide +kernel
theorem dX9_laysAside_111 : decode cX9_laysAside 111 = .ok (.baload, 1) := by decide +kernel
theorem dX9_laysAside_112 : decode cX9_laysAside 112 = .ok (.bastore, 1) := by decide +kernel
theorem dX9_laysAside_113 : decode cX9_laysAside 113 = .ok (.aload_n 0, 1) := by decide +kernel
theorem dX9_laysAside_114 : decode cX9_laysAside 114 = .ok (.getfield 117, 3) := by decide +kernel
theorem dX9_laysAside_117 : decode cX9_laysAside 117 = .ok (.iconst 4, 1) := by decide +kernel
theorem dX9_laysAside_118 : decode cX9_laysAside 118 = .ok (.iload_n 1, 1) := by decide +kernel
theorem dX9_laysAside_119 : decode cX9_laysAside 119 = .ok (.imul, 1) := by decide +kernel
theorem dX9_laysAside_120 : decode cX9_laysAside 120 = .ok (.aload_n 0, 1) := by decide +kernel
theorem dX9_laysAside_121 : decode cX9_laysAside 121 = .ok (.getfield 60, 3) := by decide +kernel
theorem dX9_laysAside_124 : decode cX9_laysAside 124 = .ok (.iload_n 1, 1) := by decide +kernel
theorem dX9_laysAside_125 : decode cX9_laysAside 125 = .ok (.iaload, 1) := by decide +kernel
theorem dX9_laysAside_126 : decode cX9_laysAside 126 = .ok (.iastore, 1) := by decide +kernel
theorem dX9_laysAside_127 : decode cX9_laysAside 127 = .ok (.aload_n 0, 1) := by decide +kernel
theorem dX9_laysAside_128 : decode cX9_laysAside 128 = .ok (.getfield 117, 3) := by decide +kernel
theorem dX9_laysAside_131 : decode cX9_laysAside 131 = .ok (.iconst 4, 1) := by decide +kernel
theorem dX9_laysAside_132 : decode cX9_laysAside 132 = .ok (.iload_n 1, 1) := by decide +kernel
theorem dX9_laysAside_133 : decode cX9_laysAside 133 = .ok (.imul, 1) := by decide +kernel
theorem dX9_laysAside_134 : decode cX9_laysAside 134 = .ok (.iconst 1, 1) := by decide +kernel
theorem dX9_laysAside_135 : decode cX9_laysAside 135 = .ok (.iadd, 1) := by decide +kernel
theorem dX9_laysAside_136 : decode cX9_laysAside 136 = .ok (.aload_n 0, 1) := by decide +kernel
theorem dX9_laysAside_137 : decode cX9_laysAside 137 = .ok (.getfield 63, 3) := by decide +kernel
theorem dX9_laysAside_140 : decode cX9_laysAside 140 = .ok (.iload_n 1, 1) := by decide +kernel
theorem dX9_laysAside_141 : decode cX9_laysAside 141 = .ok (.iaload, 1) := by decide +kernel
theorem dX9_laysAside_142 : decode cX9_laysAside 142 = .ok (.iastore, 1) := by decide +kernel
theorem dX9_laysAside_143 : decode cX9_laysAside 143 = .ok (.aload_n 0, 1) := by decide +kernel
theorem dX9_laysAside_144 : decode cX9_laysAside 144 = .ok (.getfield 117, 3) := by decide +kernel
theorem dX9_laysAside_147 : decode cX9_laysAside 147 = .ok (.iconst 4, 1) := by decide +kernel
theorem dX9_laysAside_148 : decode cX9_laysAside 148 = .ok (.iload_n 1, 1) := by decide +kernel
theorem dX9_laysAside_149 : decode cX9_laysAside 149 = .ok (.imul, 1) := by decide +kernel
theorem dX9_laysAside_150 : decode cX9_laysAside 150 = .ok (.iconst 2, 1) := by decide +kernel
theorem dX9_laysAside_151 : decode cX9_laysAside 151 = .ok (.iadd, 1) := by decide +kernel
theorem dX9_laysAside_152 : decode cX9_laysAside 152 = .ok (.aload_n 0, 1) := by decide +kernel
theorem dX9_laysAside_153 : decode cX9_laysAside 153 = .ok (.getfield 66, 3) := by decide +kernel
theorem dX9_laysAside_156 : decode cX9_laysAside 156 = .ok (.iload_n 1, 1) := by decide +kernel
theorem dX9_laysAside_157 : decode cX9_laysAside 157 = .ok (.iaload, 1) := by decide +kernel
theorem dX9_laysAside_158 : decode cX9_laysAside 158 = .ok (.iastore, 1) := by decide +kernel
theorem dX9_laysAside_159 : decode cX9_laysAside 159 = .ok (.aload_n 0, 1) := by decide +kernel
theorem dX9_laysAside_160 : decode cX9_laysAside 160 = .ok (.getfield 117, 3) := by decide +kernel
theorem dX9_laysAside_163 : decode cX9_laysAside 163 = .ok (.iconst 4, 1) := by decide +kernel
theorem dX9_laysAside_164 : decode cX9_laysAside 164 = .ok (.iload_n 1, 1) := by decide +kernel
theorem dX9_laysAside_165 : decode cX9_laysAside 165 = .ok (.imul, 1) := by decide +kernel
theorem dX9_laysAside_166 : decode cX9_laysAside 166 = .ok (.iconst 3, 1) := by decide +kernel
theorem dX9_laysAside_167 : decode cX9_laysAside 167 = .ok (.iadd, 1) := by decide +kernel
theorem dX9_laysAside_168 : decode cX9_laysAside 168 = .ok (.aload_n 0, 1) := by decide +kernel
theorem dX9_laysAside_169 : decode cX9_laysAside 169 = .ok (.getfield 69, 3) := by decide +kernel
theorem dX9_laysAside_172 : decode cX9_laysAside 172 = .ok (.iload_n 1, 1) := by decide +kernel
theorem dX9_laysAside_173 : decode cX9_laysAside 173 = .ok (.iaload, 1) := by decide +kernel
theorem dX9_laysAside_174 : decode cX9_laysAside 174 = .ok (.iastore, 1) := by decide +kernel
theorem dX9_laysAside_175 : decode cX9_laysAside 175 = .ok (.iinc 1 1, 3) := by decide +kernel
theorem dX9_laysAside_178 : decode cX9_laysAside 178 = .ok (.goto (-83), 3) := by decide +kernel
theorem dX9_laysAside_181 : decode cX9_laysAside 181 = .ok (.aload_n 0, 1) := by decide +kernel
theorem dX9_laysAside_182 : decode cX9_laysAside 182 = .ok (.getfield 117, 3) := by decide +kernel
theorem dX9_laysAside_185 : decode cX9_laysAside 185 = .ok (.bipush 40, 2) := by decide +kernel
theorem dX9_laysAside_187 : decode cX9_laysAside 187 = .ok (.aload_n 0, 1) := by decide +kernel
theorem dX9_laysAside_188 : decode cX9_laysAside 188 = .ok (.getfield 278, 3) := by decide +kernel
theorem dX9_laysAside_191 : decode cX9_laysAside 191 = .ok (.iastore, 1) := by decide +kernel
theorem dX9_laysAside_192 : decode cX9_laysAside 192 = .ok (.aload_n 0, 1) := by decide +kernel
theorem dX9_laysAside_193 : decode cX9_laysAside 193 = .ok (.getfield 117, 3) := by decide +kernel
theorem dX9_laysAside_196 : decode cX9_laysAside 196 = .ok (.bipush 41, 2) := by decide +kernel
theorem dX9_laysAside_198 : decode cX9_laysAside 198 = .ok (.aload_n 0, 1) := by decide +kernel
theorem dX9_laysAside_199 : decode cX9_laysAside 199 = .ok (.getfield 330, 3) := by decide +kernel
theorem dX9_laysAside_202 : decode cX9_laysAside 202 = .ok (.iastore, 1) := by decide +kernel
theorem dX9_laysAside_203 : decode cX9_laysAside 203 = .ok (.aload_n 0, 1) := by decide +kernel
theorem dX9_laysAside_204 : decode cX9_laysAside 204 = .ok (.getfield 117, 3) := by decide +kernel
theorem dX9_laysAside_207 : decode cX9_laysAside 207 = .ok (.bipush 42, 2) := by decide +kernel
theorem dX9_laysAside_209 : decode cX9_laysAside 209 = .ok (.aload_n 0, 1) := by decide +kernel
theorem dX9_laysAside_210 : decode cX9_laysAside 210 = .ok (.getfield 318, 3) := by decide +kernel
theorem dX9_laysAside_213 : decode cX9_laysAside 213 = .ok (.iastore, 1) := by decide +kernel
theorem dX9_laysAside_214 : decode cX9_laysAside 214 = .ok (.aload_n 0, 1) := by decide +kernel
theorem dX9_laysAside_215 : decode cX9_laysAside 215 = .ok (.getfield 117, 3) := by decide +kernel
theorem dX9_laysAside_218 : decode cX9_laysAside 218 = .ok (.bipush 43, 2) := by decide +kernel
theorem dX9_laysAside_220 : decode cX9_laysAside 220 = .ok (.aload_n 0, 1) := by decide +kernel
theorem dX9_laysAside_221 : decode cX9_laysAside 221 = .ok (.getfield 327, 3) := by decide +kernel
theorem dX9_laysAside_224 : decode cX9_laysAside 224 = .ok (.iastore, 1) := by decide +kernel
theorem dX9_laysAside_225 : decode cX9_laysAside 225 = .ok (.return_, 1) := by decide +kernel
theorem dX9_takesBack_0 : decode cX9_takesBack 0 = .ok (.aload_n 0, 1) := by decide +kernel
theorem dX9_takesBack_1 : decode cX9_takesBack 1 = .ok (.aload_n 0, 1) := by decide +kernel
theorem dX9_takesBack_2 : decode cX9_takesBack 2 = .ok (.getfield 117, 3) := by decide +kernel
theorem dX9_takesBack_5 : decode cX9_takesBack 5 = .ok (.bipush 40, 2) := by decide +kernel
theorem dX9_takesBack_7 : decode cX9_takesBack 7 = .ok (.iaload, 1) := by decide +kernel
theorem dX9_takesBack_8 : decode cX9_takesBack 8 = .ok (.putfield 278, 3) := by decide +kernel
theorem dX9_takesBack_11 : decode cX9_takesBack 11 = .ok (.aload_n 0, 1) := by decide +kernel
theorem dX9_takesBack_12 : decode cX9_takesBack 12 = .ok (.aload_n 0, 1) := by decide +kernel
theorem dX9_takesBack_13 : decode cX9_takesBack 13 = .ok (.getfield 117, 3) := by decide +kernel
theorem dX9_takesBack_16 : decode cX9_takesBack 16 = .ok (.bipush 41, 2) := by decide +kernel
theorem dX9_takesBack_18 : decode cX9_takesBack 18 = .ok (.iaload, 1) := by decide +kernel
theorem dX9_takesBack_19 : decode cX9_takesBack 19 = .ok (.putfield 330, 3) := by decide +kernel
theorem dX9_takesBack_22 : decode cX9_takesBack 22 = .ok (.aload_n 0, 1) := by decide +kernel
theorem dX9_takesBack_23 : decode cX9_takesBack 23 = .ok (.aload_n 0, 1) := by decide +kernel
theorem dX9_takesBack_24 : decode cX9_takesBack 24 = .ok (.getfield 117, 3) := by decide +kernel
theorem dX9_takesBack_27 : decode cX9_takesBack 27 = .ok (.bipush 42, 2) := by decide +kernel
theorem dX9_takesBack_29 : decode cX9_takesBack 29 = .ok (.iaload, 1) := by decide +kernel
theorem dX9_takesBack_30 : decode cX9_takesBack 30 = .ok (.putfield 318, 3) := by decide +kernel
theorem dX9_takesBack_33 : decode cX9_takesBack 33 = .ok (.aload_n 0, 1) := by decide +kernel
theorem dX9_takesBack_34 : decode cX9_takesBack 34 = .ok (.aload_n 0, 1) := by decide +kernel
theorem dX9_takesBack_35 : decode cX9_takesBack 35 = .ok (.getfield 117, 3) := by decide +kernel
theorem dX9_takesBack_38 : decode cX9_takesBack 38 = .ok (.bipush 43, 2) := by decide +kernel
theorem dX9_takesBack_40 : decode cX9_takesBack 40 = .ok (.iaload, 1) := by decide +kernel
theorem dX9_takesBack_41 : decode cX9_takesBack 41 = .ok (.putfield 327, 3) := by decide +kernel
theorem dX9_takesBack_44 : decode cX9_takesBack 44 = .ok (.aload_n 0, 1) := by decide +kernel
theorem dX9_takesBack_45 : decode cX9_takesBack 45 = .ok (.getfield 72, 3) := by decide +kernel
theorem dX9_takesBack_48 : decode cX9_takesBack 48 = .ok (.aload_n 0, 1) := by decide +kernel
theorem dX9_takesBack_49 : decode cX9_takesBack 49 = .ok (.getfield 105, 3) := by decide +kernel
theorem dX9_takesBack_52 : decode cX9_takesBack 52 = .ok (.aload_n 0, 1) := by decide +kernel
theorem dX9_takesBack_53 : decode cX9_takesBack 53 = .ok (.getfield 278, 3) := by decide +kernel
theorem dX9_takesBack_56 : decode cX9_takesBack 56 = .ok (.invokestatic 399, 3) := by decide +kernel
theorem dX9_takesBack_59 : decode cX9_takesBack 59 = .ok (.aload_n 0, 1) := by decide +kernel
theorem dX9_takesBack_60 : decode cX9_takesBack 60 = .ok (.getfield 75, 3) := by decide +kernel
theorem dX9_takesBack_63 : decode cX9_takesBack 63 = .ok (.aload_n 0, 1) := by decide +kernel
theorem dX9_takesBack_64 : decode cX9_takesBack 64 = .ok (.getfield 108, 3) := by decide +kernel
theorem dX9_takesBack_67 : decode cX9_takesBack 67 = .ok (.aload_n 0, 1) := by decide +kernel
theorem dX9_takesBack_68 : decode cX9_takesBack 68 = .ok (.getfield 278, 3) := by decide +kernel
theorem dX9_takesBack_71 : decode cX9_takesBack 71 = .ok (.invokestatic 399, 3) := by decide +kernel
theorem dX9_takesBack_74 : decode cX9_takesBack 74 = .ok (.aload_n 0, 1) := by decide +kernel
theorem dX9_takesBack_75 : decode cX9_takesBack 75 = .ok (.getfield 78, 3) := by decide +kernel
theorem dX9_takesBack_78 : decode cX9_takesBack 78 = .ok (.aload_n 0, 1) := by decide +kernel
theorem dX9_takesBack_79 : decode cX9_takesBack 79 = .ok (.getfield 111, 3) := by decide +kernel
theorem dX9_takesBack_82 : decode cX9_takesBack 82 = .ok (.aload_n 0, 1) := by decide +kernel
theorem dX9_takesBack_83 : decode cX9_takesBack 83 = .ok (.getfield 278, 3) := by decide +kernel
theorem dX9_takesBack_86 : decode cX9_takesBack 86 = .ok (.invokestatic 399, 3) := by decide +kernel
theorem dX9_takesBack_89 : decode cX9_takesBack 89 = .ok (.iconst 0, 1) := by decide +kernel
theorem dX9_takesBack_90 : decode cX9_takesBack 90 = .ok (.istore_n 1, 1) := by decide +kernel
theorem dX9_takesBack_91 : decode cX9_takesBack 91 = .ok (.iload_n 1, 1) := by decide +kernel
theorem dX9_takesBack_92 : decode cX9_takesBack 92 = .ok (.bipush 10, 2) := by decide +kernel
theorem dX9_takesBack_94 : decode cX9_takesBack 94 = .ok (.if_icmp .ge 83, 3) := by decide +kernel
theorem dX9_takesBack_97 : decode cX9_takesBack 97 = .ok (.aload_n 0, 1) := by decide +kernel
theorem dX9_takesBack_98 : decode cX9_takesBack 98 = .ok (.getfield 56, 3) := by decide +kernel
theorem dX9_takesBack_101 : decode cX9_takesBack 101 = .ok (.iload_n 1, 1) := by decide +kernel
theorem dX9_takesBack_102 : decode cX9_takesBack 102 = .ok (.aload_n 0, 1) := by decide +kernel
theorem dX9_takesBack_103 : decode cX9_takesBack 103 = .ok (.getfield 114, 3) := by decide +kernel
theorem dX9_takesBack_106 : decode cX9_takesBack 106 = .ok (.iload_n 1, 1) := by decide +kernel
theorem dX9_takesBack_107 : decode cX9_takesBack 107 = .ok (.baload, 1) := by decide +kernel
theorem dX9_takesBack_108 : decode cX9_takesBack 108 = .ok (.bastore, 1) := by decide +kernel
theorem dX9_takesBack_109 : decode cX9_takesBack 109 = .ok (.aload_n 0, 1) := by decide +kernel
theorem dX9_takesBack_110 : decode cX9_takesBack 110 = .ok (.getfield 60, 3) := by decide +kernel
theorem dX9_takesBack_113 : decode cX9_takesBack 113 = .ok (.iload_n 1, 1) := by decide +kernel
theorem dX9_takesBack_114 : decode cX9_takesBack 114 = .ok (.aload_n 0, 1) := by decide +kernel
theorem dX9_takesBack_115 : decode cX9_takesBack 115 = .ok (.getfield 117, 3) := by decide +kernel
theorem dX9_takesBack_118 : decode cX9_takesBack 118 = .ok (.iconst 4, 1) := by decide +kernel
theorem dX9_takesBack_119 : decode cX9_takesBack 119 = .ok (.iload_n 1, 1) := by decide +kernel
theorem dX9_takesBack_120 : decode cX9_takesBack 120 = .ok (.imul, 1) := by decide +kernel
theorem dX9_takesBack_121 : decode cX9_takesBack 121 = .ok (.iaload, 1) := by decide +kernel
theorem dX9_takesBack_122 : decode cX9_takesBack 122 = .ok (.iastore, 1) := by decide +kernel
theorem dX9_takesBack_123 : decode cX9_takesBack 123 = .ok (.aload_n 0, 1) := by decide +kernel
theorem dX9_takesBack_124 : decode cX9_takesBack 124 = .ok (.getfield 63, 3) := by decide +kernel
theorem dX9_takesBack_127 : decode cX9_takesBack 127 = .ok (.iload_n 1, 1) := by decide +kernel
theorem dX9_takesBack_128 : decode cX9_takesBack 128 = .ok (.aload_n 0, 1) := by decide +kernel
theorem dX9_takesBack_129 : decode cX9_takesBack 129 = .ok (.getfield 117, 3) := by decide +kernel
theorem dX9_takesBack_132 : decode cX9_takesBack 132 = .ok (.iconst 4, 1) := by decide +kernel
theorem dX9_takesBack_133 : decode cX9_takesBack 133 = .ok (.iload_n 1, 1) := by decide +kernel
theorem dX9_takesBack_134 : decode cX9_takesBack 134 = .ok (.imul, 1) := by decide +kernel
theorem dX9_takesBack_135 : decode cX9_takesBack 135 = .ok (.iconst 1, 1) := by decide +kernel
theorem dX9_takesBack_136 : decode cX9_takesBack 136 = .ok (.iadd, 1) := by decide +kernel
theorem dX9_takesBack_137 : decode cX9_takesBack 137 = .ok (.iaload, 1) := by decide +kernel
theorem dX9_takesBack_138 : decode cX9_takesBack 138 = .ok (.iastore, 1) := by decide +kernel
theorem dX9_takesBack_139 : decode cX9_takesBack 139 = .ok (.aload_n 0, 1) := by decide +kernel
theorem dX9_takesBack_140 : decode cX9_takesBack 140 = .ok (.getfield 66, 3) := by decide +kernel
theorem dX9_takesBack_143 : decode cX9_takesBack 143 = .ok (.iload_n 1, 1) := by decide +kernel
theorem dX9_takesBack_144 : decode cX9_takesBack 144 = .ok (.aload_n 0, 1) := by decide +kernel
theorem dX9_takesBack_145 : decode cX9_takesBack 145 = .ok (.getfield 117, 3) := by decide +kernel
theorem dX9_takesBack_148 : decode cX9_takesBack 148 = .ok (.iconst 4, 1) := by decide +kernel
theorem dX9_takesBack_149 : decode cX9_takesBack 149 = .ok (.iload_n 1, 1) := by decide +kernel
theorem dX9_takesBack_150 : decode cX9_takesBack 150 = .ok (.imul, 1) := by decide +kernel
theorem dX9_takesBack_151 : decode cX9_takesBack 151 = .ok (.iconst 2, 1) := by decide +kernel
theorem dX9_takesBack_152 : decode cX9_takesBack 152 = .ok (.iadd, 1) := by decide +kernel
theorem dX9_takesBack_153 : decode cX9_takesBack 153 = .ok (.iaload, 1) := by decide +kernel
theorem dX9_takesBack_154 : decode cX9_takesBack 154 = .ok (.iastore, 1) := by decide +kernel
theorem dX9_takesBack_155 : decode cX9_takesBack 155 = .ok (.aload_n 0, 1) := by decide +kernel
theorem dX9_takesBack_156 : decode cX9_takesBack 156 = .ok (.getfield 69, 3) := by decide +kernel
theorem dX9_takesBack_159 : decode cX9_takesBack 159 = .ok (.iload_n 1, 1) := by decide +kernel
theorem dX9_takesBack_160 : decode cX9_takesBack 160 = .ok (.aload_n 0, 1) := by decide +kernel
theorem dX9_takesBack_161 : decode cX9_takesBack 161 = .ok (.getfield 117, 3) := by decide +kernel
theorem dX9_takesBack_164 : decode cX9_takesBack 164 = .ok (.iconst 4, 1) := by decide +kernel
theorem dX9_takesBack_165 : decode cX9_takesBack 165 = .ok (.iload_n 1, 1) := by decide +kernel
theorem dX9_takesBack_166 : decode cX9_takesBack 166 = .ok (.imul, 1) := by decide +kernel
theorem dX9_takesBack_167 : decode cX9_takesBack 167 = .ok (.iconst 3, 1) := by decide +kernel
theorem dX9_takesBack_168 : decode cX9_takesBack 168 = .ok (.iadd, 1) := by decide +kernel
theorem dX9_takesBack_169 : decode cX9_takesBack 169 = .ok (.iaload, 1) := by decide +kernel
theorem dX9_takesBack_170 : decode cX9_takesBack 170 = .ok (.iastore, 1) := by decide +kernel
theorem dX9_takesBack_171 : decode cX9_takesBack 171 = .ok (.iinc 1 1, 3) := by decide +kernel
theorem dX9_takesBack_174 : decode cX9_takesBack 174 = .ok (.goto (-83), 3) := by decide +kernel
theorem dX9_takesBack_177 : decode cX9_takesBack 177 = .ok (.return_, 1) := by decide +kernel
theorem dX9_does_0 : decode cX9_does 0 = .ok (.iload_n 1, 1) := by decide +kernel
theorem dX9_does_1 : decode cX9_does 1 = .ok (.iconst 2, 1) := by decide +kernel
theorem dX9_does_2 : decode cX9_does 2 = .ok (.if_icmp .ne 14, 3) := by decide +kernel
theorem dX9_does_5 : decode cX9_does 5 = .ok (.aload_n 0, 1) := by decide +kernel
theorem dX9_does_6 : decode cX9_does 6 = .ok (.getfield 56, 3) := by decide +kernel
theorem dX9_does_9 : decode cX9_does 9 = .ok (.iload_n 2, 1) := by decide +kernel
theorem dX9_does_10 : decode cX9_does 10 = .ok (.baload, 1) := by decide +kernel
theorem dX9_does_11 : decode cX9_does 11 = .ok (.ifCond .ne 5, 3) := by decide +kernel
theorem dX9_does_14 : decode cX9_does 14 = .ok (.iconst 3, 1) := by decide +kernel
theorem dX9_does_15 : decode cX9_does 15 = .ok (.ireturn, 1) := by decide +kernel
theorem dX9_does_16 : decode cX9_does 16 = .ok (.iload_n 1, 1) := by decide +kernel
theorem dX9_does_17 : decode cX9_does 17 = .ok (.ifCond .ne 20, 3) := by decide +kernel
theorem dX9_does_20 : decode cX9_does 20 = .ok (.aload_n 0, 1) := by decide +kernel
theorem dX9_does_21 : decode cX9_does 21 = .ok (.iload_n 2, 1) := by decide +kernel
theorem dX9_does_22 : decode cX9_does 22 = .ok (.iload_n 3, 1) := by decide +kernel
theorem dX9_does_23 : decode cX9_does 23 = .ok (.invokevirtual 373, 3) := by decide +kernel
theorem dX9_does_26 : decode cX9_does 26 = .ok (.ifCond .eq 11, 3) := by decide +kernel
theorem dX9_does_29 : decode cX9_does 29 = .ok (.aload_n 0, 1) := by decide +kernel
theorem dX9_does_30 : decode cX9_does 30 = .ok (.iload_n 2, 1) := by decide +kernel
theorem dX9_does_31 : decode cX9_does 31 = .ok (.iload_n 3, 1) := by decide +kernel
theorem dX9_does_32 : decode cX9_does 32 = .ok (.invokevirtual 380, 3) := by decide +kernel
theorem dX9_does_35 : decode cX9_does 35 = .ok (.iconst 2, 1) := by decide +kernel
theorem dX9_does_36 : decode cX9_does 36 = .ok (.ireturn, 1) := by decide +kernel
theorem dX9_does_37 : decode cX9_does 37 = .ok (.iload_n 1, 1) := by decide +kernel
theorem dX9_does_38 : decode cX9_does 38 = .ok (.ifCond .ne 11, 3) := by decide +kernel
theorem dX9_does_41 : decode cX9_does 41 = .ok (.aload_n 0, 1) := by decide +kernel
theorem dX9_does_42 : decode cX9_does 42 = .ok (.iload_n 2, 1) := by decide +kernel
theorem dX9_does_43 : decode cX9_does 43 = .ok (.iload_n 3, 1) := by decide +kernel
theorem dX9_does_44 : decode cX9_does 44 = .ok (.iload 4, 2) := by decide +kernel
theorem dX9_does_46 : decode cX9_does 46 = .ok (.invokevirtual 383, 3) := by decide +kernel
theorem dX9_does_49 : decode cX9_does 49 = .ok (.iload_n 1, 1) := by decide +kernel
theorem dX9_does_50 : decode cX9_does 50 = .ok (.iconst 1, 1) := by decide +kernel
theorem dX9_does_51 : decode cX9_does 51 = .ok (.if_icmp .ne 9, 3) := by decide +kernel
theorem dX9_does_54 : decode cX9_does 54 = .ok (.aload_n 0, 1) := by decide +kernel
theorem dX9_does_55 : decode cX9_does 55 = .ok (.iload_n 2, 1) := by decide +kernel
theorem dX9_does_56 : decode cX9_does 56 = .ok (.iload_n 3, 1) := by decide +kernel
theorem dX9_does_57 : decode cX9_does 57 = .ok (.invokevirtual 343, 3) := by decide +kernel
theorem dX9_does_60 : decode cX9_does 60 = .ok (.iload_n 1, 1) := by decide +kernel
theorem dX9_does_61 : decode cX9_does 61 = .ok (.iconst 2, 1) := by decide +kernel
theorem dX9_does_62 : decode cX9_does 62 = .ok (.if_icmp .ne 10, 3) := by decide +kernel
theorem dX9_does_65 : decode cX9_does 65 = .ok (.aload_n 0, 1) := by decide +kernel
theorem dX9_does_66 : decode cX9_does 66 = .ok (.iload_n 2, 1) := by decide +kernel
theorem dX9_does_67 : decode cX9_does 67 = .ok (.invokevirtual 315, 3) := by decide +kernel
theorem dX9_does_70 : decode cX9_does 70 = .ok (.istore 5, 2) := by decide +kernel
theorem dX9_does_72 : decode cX9_does 72 = .ok (.iconst 0, 1) := by decide +kernel
theorem dX9_does_73 : decode cX9_does 73 = .ok (.ireturn, 1) := by decide +kernel
theorem dX9_batch_0 : decode cX9_batch 0 = .ok (.aload_n 0, 1) := by decide +kernel
theorem dX9_batch_1 : decode cX9_batch 1 = .ok (.iconst 0, 1) := by decide +kernel
theorem dX9_batch_2 : decode cX9_batch 2 = .ok (.putfield 130, 3) := by decide +kernel
theorem dX9_batch_5 : decode cX9_batch 5 = .ok (.iload_n 1, 1) := by decide +kernel
theorem dX9_batch_6 : decode cX9_batch 6 = .ok (.ifCond .lt 11, 3) := by decide +kernel
theorem dX9_batch_9 : decode cX9_batch 9 = .ok (.iload_n 1, 1) := by decide +kernel
theorem dX9_batch_10 : decode cX9_batch 10 = .ok (.aload_n 0, 1) := by decide +kernel
theorem dX9_batch_11 : decode cX9_batch 11 = .ok (.getfield 137, 3) := by decide +kernel
theorem dX9_batch_14 : decode cX9_batch 14 = .ok (.if_icmp .le 9, 3) := by decide +kernel
theorem dX9_batch_17 : decode cX9_batch 17 = .ok (.aload_n 0, 1) := by decide +kernel
theorem dX9_batch_18 : decode cX9_batch 18 = .ok (.iconst 1, 1) := by decide +kernel
theorem dX9_batch_19 : decode cX9_batch 19 = .ok (.invokevirtual 263, 3) := by decide +kernel
theorem dX9_batch_22 : decode cX9_batch 22 = .ok (.ireturn, 1) := by decide +kernel
theorem dX9_batch_23 : decode cX9_batch 23 = .ok (.aload_n 0, 1) := by decide +kernel
theorem dX9_batch_24 : decode cX9_batch 24 = .ok (.invokevirtual 357, 3) := by decide +kernel
theorem dX9_batch_27 : decode cX9_batch 27 = .ok (.aload_n 0, 1) := by decide +kernel
theorem dX9_batch_28 : decode cX9_batch 28 = .ok (.iload_n 1, 1) := by decide +kernel
theorem dX9_batch_29 : decode cX9_batch 29 = .ok (.invokevirtual 266, 3) := by decide +kernel
theorem dX9_batch_32 : decode cX9_batch 32 = .ok (.aload_n 0, 1) := by decide +kernel
theorem dX9_batch_33 : decode cX9_batch 33 = .ok (.iconst 0, 1) := by decide +kernel
theorem dX9_batch_34 : decode cX9_batch 34 = .ok (.putfield 396, 3) := by decide +kernel
theorem dX9_batch_37 : decode cX9_batch 37 = .ok (.aload_n 0, 1) := by decide +kernel
theorem dX9_batch_38 : decode cX9_batch 38 = .ok (.getfield 179, 3) := by decide +kernel
theorem dX9_batch_41 : decode cX9_batch 41 = .ok (.ifCond .ne 17, 3) := by decide +kernel
theorem dX9_batch_44 : decode cX9_batch 44 = .ok (.aload_n 0, 1) := by decide +kernel
theorem dX9_batch_45 : decode cX9_batch 45 = .ok (.getfield 153, 3) := by decide +kernel
theorem dX9_batch_48 : decode cX9_batch 48 = .ok (.ifCond .eq 10, 3) := by decide +kernel
theorem dX9_batch_51 : decode cX9_batch 51 = .ok (.aload_n 0, 1) := by decide +kernel
theorem dX9_batch_52 : decode cX9_batch 52 = .ok (.invokevirtual 403, 3) := by decide +kernel
theorem dX9_batch_55 : decode cX9_batch 55 = .ok (.goto (-18), 3) := by decide +kernel
theorem dX9_batch_58 : decode cX9_batch 58 = .ok (.aload_n 0, 1) := by decide +kernel
theorem dX9_batch_59 : decode cX9_batch 59 = .ok (.invokevirtual 272, 3) := by decide +kernel
theorem dX9_batch_62 : decode cX9_batch 62 = .ok (.ifCond .eq 16, 3) := by decide +kernel
theorem dX9_batch_65 : decode cX9_batch 65 = .ok (.aload_n 0, 1) := by decide +kernel
theorem dX9_batch_66 : decode cX9_batch 66 = .ok (.iconst 1, 1) := by decide +kernel
theorem dX9_batch_67 : decode cX9_batch 67 = .ok (.invokevirtual 370, 3) := by decide +kernel
theorem dX9_batch_70 : decode cX9_batch 70 = .ok (.iconst 1, 1) := by decide +kernel
theorem dX9_batch_71 : decode cX9_batch 71 = .ok (.isub, 1) := by decide +kernel
theorem dX9_batch_72 : decode cX9_batch 72 = .ok (.aload_n 0, 1) := by decide +kernel
theorem dX9_batch_73 : decode cX9_batch 73 = .ok (.getfield 179, 3) := by decide +kernel
theorem dX9_batch_76 : decode cX9_batch 76 = .ok (.isub, 1) := by decide +kernel
theorem dX9_batch_77 : decode cX9_batch 77 = .ok (.ireturn, 1) := by decide +kernel
theorem dX9_batch_78 : decode cX9_batch 78 = .ok (.aload_n 0, 1) := by decide +kernel
theorem dX9_batch_79 : decode cX9_batch 79 = .ok (.invokevirtual 406, 3) := by decide +kernel
theorem dX9_batch_82 : decode cX9_batch 82 = .ok (.iconst 0, 1) := by decide +kernel
theorem dX9_batch_83 : decode cX9_batch 83 = .ok (.istore_n 2, 1) := by decide +kernel
theorem dX9_batch_84 : decode cX9_batch 84 = .ok (.iload_n 2, 1) := by decide +kernel
theorem dX9_batch_85 : decode cX9_batch 85 = .ok (.aload_n 0, 1) := by decide +kernel
theorem dX9_batch_86 : decode cX9_batch 86 = .ok (.getfield 396, 3) := by decide +kernel
theorem dX9_batch_89 : decode cX9_batch 89 = .ok (.if_icmp .ge 80, 3) := by decide +kernel
theorem dX9_batch_92 : decode cX9_batch 92 = .ok (.aload_n 0, 1) := by decide +kernel
theorem dX9_batch_93 : decode cX9_batch 93 = .ok (.aload_n 0, 1) := by decide +kernel
theorem dX9_batch_94 : decode cX9_batch 94 = .ok (.aload_n 0, 1) := by decide +kernel
theorem dX9_batch_95 : decode cX9_batch 95 = .ok (.getfield 102, 3) := by decide +kernel
theorem dX9_batch_98 : decode cX9_batch 98 = .ok (.iconst 4, 1) := by decide +kernel
theorem dX9_batch_99 : decode cX9_batch 99 = .ok (.iload_n 2, 1) := by decide +kernel
theorem dX9_batch_100 : decode cX9_batch 100 = .ok (.imul, 1) := by decide +kernel
theorem dX9_batch_101 : decode cX9_batch 101 = .ok (.iaload, 1) := by decide +kernel
theorem dX9_batch_102 : decode cX9_batch 102 = .ok (.aload_n 0, 1) := by decide +kernel
theorem dX9_batch_103 : decode cX9_batch 103 = .ok (.getfield 102, 3) := by decide +kernel
theorem dX9_batch_106 : decode cX9_batch 106 = .ok (.iconst 4, 1) := by decide +kernel
theorem dX9_batch_107 : decode cX9_batch 107 = .ok (.iload_n 2, 1) := by decide +kernel
theorem dX9_batch_108 : decode cX9_batch 108 = .ok (.imul, 1) := by decide +kernel
theorem dX9_batch_109 : decode cX9_batch 109 = .ok (.iconst 1, 1) := by decide +kernel
theorem dX9_batch_110 : decode cX9_batch 110 = .ok (.iadd, 1) := by decide +kernel
theorem dX9_batch_111 : decode cX9_batch 111 = .ok (.iaload, 1) := by decide +kernel
theorem dX9_batch_112 : decode cX9_batch 112 = .ok (.aload_n 0, 1) := by decide +kernel
theorem dX9_batch_113 : decode cX9_batch 113 = .ok (.getfield 102, 3) := by decide +kernel
theorem dX9_batch_116 : decode cX9_batch 116 = .ok (.iconst 4, 1) := by decide +kernel
theorem dX9_batch_117 : decode cX9_batch 117 = .ok (.iload_n 2, 1) := by decide +kernel
theorem dX9_batch_118 : decode cX9_batch 118 = .ok (.imul, 1) := by decide +kernel
theorem dX9_batch_119 : decode cX9_batch 119 = .ok (.iconst 2, 1) := by decide +kernel
theorem dX9_batch_120 : decode cX9_batch 120 = .ok (.iadd, 1) := by decide +kernel
theorem dX9_batch_121 : decode cX9_batch 121 = .ok (.iaload, 1) := by decide +kernel
theorem dX9_batch_122 : decode cX9_batch 122 = .ok (.aload_n 0, 1) := by decide +kernel
theorem dX9_batch_123 : decode cX9_batch 123 = .ok (.getfield 102, 3) := by decide +kernel
theorem dX9_batch_126 : decode cX9_batch 126 = .ok (.iconst 4, 1) := by decide +kernel
theorem dX9_batch_127 : decode cX9_batch 127 = .ok (.iload_n 2, 1) := by decide +kernel
theorem dX9_batch_128 : decode cX9_batch 128 = .ok (.imul, 1) := by decide +kernel
theorem dX9_batch_129 : decode cX9_batch 129 = .ok (.iconst 3, 1) := by decide +kernel
theorem dX9_batch_130 : decode cX9_batch 130 = .ok (.iadd, 1) := by decide +kernel
theorem dX9_batch_131 : decode cX9_batch 131 = .ok (.iaload, 1) := by decide +kernel
theorem dX9_batch_132 : decode cX9_batch 132 = .ok (.invokevirtual 409, 3) := by decide +kernel
theorem dX9_batch_135 : decode cX9_batch 135 = .ok (.putfield 354, 3) := by decide +kernel
theorem dX9_batch_138 : decode cX9_batch 138 = .ok (.aload_n 0, 1) := by decide +kernel
theorem dX9_batch_139 : decode cX9_batch 139 = .ok (.getfield 354, 3) := by decide +kernel
theorem dX9_batch_142 : decode cX9_batch 142 = .ok (.ifCond .ne 6, 3) := by decide +kernel
theorem dX9_batch_145 : decode cX9_batch 145 = .ok (.goto 18, 3) := by decide +kernel
theorem dX9_batch_148 : decode cX9_batch 148 = .ok (.aload_n 0, 1) := by decide +kernel
theorem dX9_batch_149 : decode cX9_batch 149 = .ok (.invokevirtual 413, 3) := by decide +kernel
theorem dX9_batch_152 : decode cX9_batch 152 = .ok (.aload_n 0, 1) := by decide +kernel
theorem dX9_batch_153 : decode cX9_batch 153 = .ok (.iload_n 2, 1) := by decide +kernel
theorem dX9_batch_154 : decode cX9_batch 154 = .ok (.putfield 99, 3) := by decide +kernel
theorem dX9_batch_157 : decode cX9_batch 157 = .ok (.aload_n 0, 1) := by decide +kernel
theorem dX9_batch_158 : decode cX9_batch 158 = .ok (.iconst 4, 1) := by decide +kernel
theorem dX9_batch_159 : decode cX9_batch 159 = .ok (.invokevirtual 370, 3) := by decide +kernel
theorem dX9_batch_162 : decode cX9_batch 162 = .ok (.ireturn, 1) := by decide +kernel
theorem dX9_batch_163 : decode cX9_batch 163 = .ok (.iinc 2 1, 3) := by decide +kernel
theorem dX9_batch_166 : decode cX9_batch 166 = .ok (.goto (-82), 3) := by decide +kernel
theorem dX9_batch_169 : decode cX9_batch 169 = .ok (.aload_n 0, 1) := by decide +kernel
theorem dX9_batch_170 : decode cX9_batch 170 = .ok (.getfield 396, 3) := by decide +kernel
theorem dX9_batch_173 : decode cX9_batch 173 = .ok (.ireturn, 1) := by decide +kernel
theorem dX9_bucketFrom_0 : decode cX9_bucketFrom 0 = .ok (.aload_n 0, 1) := by decide +kernel
theorem dX9_bucketFrom_1 : decode cX9_bucketFrom 1 = .ok (.getfield 72, 3) := by decide +kernel
theorem dX9_bucketFrom_4 : decode cX9_bucketFrom 4 = .ok (.iload_n 1, 1) := by decide +kernel
theorem dX9_bucketFrom_5 : decode cX9_bucketFrom 5 = .ok (.iaload, 1) := by decide +kernel
theorem dX9_bucketFrom_6 : decode cX9_bucketFrom 6 = .ok (.istore_n 2, 1) := by decide +kernel
theorem dX9_bucketFrom_7 : decode cX9_bucketFrom 7 = .ok (.aload_n 0, 1) := by decide +kernel
theorem dX9_bucketFrom_8 : decode cX9_bucketFrom 8 = .ok (.aload_n 0, 1) := by decide +kernel
theorem dX9_bucketFrom_9 : decode cX9_bucketFrom 9 = .ok (.aload_n 0, 1) := by decide +kernel
theorem dX9_bucketFrom_10 : decode cX9_bucketFrom 10 = .ok (.getfield 60, 3) := by decide +kernel
theorem dX9_bucketFrom_13 : decode cX9_bucketFrom 13 = .ok (.iload_n 2, 1) := by decide +kernel
theorem dX9_bucketFrom_14 : decode cX9_bucketFrom 14 = .ok (.iaload, 1) := by decide +kernel
theorem dX9_bucketFrom_15 : decode cX9_bucketFrom 15 = .ok (.aload_n 0, 1) := by decide +kernel
theorem dX9_bucketFrom_16 : decode cX9_bucketFrom 16 = .ok (.getfield 75, 3) := by decide +kernel
theorem dX9_bucketFrom_19 : decode cX9_bucketFrom 19 = .ok (.iload_n 1, 1) := by decide +kernel
theorem dX9_bucketFrom_20 : decode cX9_bucketFrom 20 = .ok (.iaload, 1) := by decide +kernel
theorem dX9_bucketFrom_21 : decode cX9_bucketFrom 21 = .ok (.invokevirtual 386, 3) := by decide +kernel
theorem dX9_bucketFrom_24 : decode cX9_bucketFrom 24 = .ok (.putfield 416, 3) := by decide +kernel
theorem dX9_bucketFrom_27 : decode cX9_bucketFrom 27 = .ok (.aload_n 0, 1) := by decide +kernel
theorem dX9_bucketFrom_28 : decode cX9_bucketFrom 28 = .ok (.aload_n 0, 1) := by decide +kernel
theorem dX9_bucketFrom_29 : decode cX9_bucketFrom 29 = .ok (.getfield 75, 3) := by decide +kernel
theorem dX9_bucketFrom_32 : decode cX9_bucketFrom 32 = .ok (.iload_n 1, 1) := by decide +kernel
theorem dX9_bucketFrom_33 : decode cX9_bucketFrom 33 = .ok (.iaload, 1) := by decide +kernel
theorem dX9_bucketFrom_34 : decode cX9_bucketFrom 34 = .ok (.i2l, 1) := by decide +kernel
theorem dX9_bucketFrom_35 : decode cX9_bucketFrom 35 = .ok (.aload_n 0, 1) := by decide +kernel
theorem dX9_bucketFrom_36 : decode cX9_bucketFrom 36 = .ok (.getfield 43, 3) := by decide +kernel
theorem dX9_bucketFrom_39 : decode cX9_bucketFrom 39 = .ok (.aload_n 0, 1) := by decide +kernel
theorem dX9_bucketFrom_40 : decode cX9_bucketFrom 40 = .ok (.getfield 416, 3) := by decide +kernel
theorem dX9_bucketFrom_43 : decode cX9_bucketFrom 43 = .ok (.iaload, 1) := by decide +kernel
theorem dX9_bucketFrom_44 : decode cX9_bucketFrom 44 = .ok (.invokestatic 281, 3) := by decide +kernel
theorem dX9_bucketFrom_47 : decode cX9_bucketFrom 47 = .ok (.putfield 418, 3) := by decide +kernel
theorem dX9_bucketFrom_50 : decode cX9_bucketFrom 50 = .ok (.aload_n 0, 1) := by decide +kernel
theorem dX9_bucketFrom_51 : decode cX9_bucketFrom 51 = .ok (.iconst 0, 1) := by decide +kernel
theorem dX9_bucketFrom_52 : decode cX9_bucketFrom 52 = .ok (.putfield 421, 3) := by decide +kernel
theorem dX9_bucketFrom_55 : decode cX9_bucketFrom 55 = .ok (.aload_n 0, 1) := by decide +kernel
theorem dX9_bucketFrom_56 : decode cX9_bucketFrom 56 = .ok (.lconst 0, 1) := by decide +kernel
theorem dX9_bucketFrom_57 : decode cX9_bucketFrom 57 = .ok (.putfield 423, 3) := by decide +kernel
theorem dX9_bucketFrom_60 : decode cX9_bucketFrom 60 = .ok (.aload_n 0, 1) := by decide +kernel
theorem dX9_bucketFrom_61 : decode cX9_bucketFrom 61 = .ok (.aload_n 0, 1) := by decide +kernel
theorem dX9_bucketFrom_62 : decode cX9_bucketFrom 62 = .ok (.getfield 78, 3) := by decide +kernel
theorem dX9_bucketFrom_65 : decode cX9_bucketFrom 65 = .ok (.iload_n 1, 1) := by decide +kernel
theorem dX9_bucketFrom_66 : decode cX9_bucketFrom 66 = .ok (.iaload, 1) := by decide +kernel
theorem dX9_bucketFrom_67 : decode cX9_bucketFrom 67 = .ok (.putfield 426, 3) := by decide +kernel
theorem dX9_bucketFrom_70 : decode cX9_bucketFrom 70 = .ok (.aload_n 0, 1) := by decide +kernel
theorem dX9_bucketFrom_71 : decode cX9_bucketFrom 71 = .ok (.aload_n 0, 1) := by decide +kernel
theorem dX9_bucketFrom_72 : decode cX9_bucketFrom 72 = .ok (.getfield 426, 3) := by decide +kernel
theorem dX9_bucketFrom_75 : decode cX9_bucketFrom 75 = .ok (.putfield 428, 3) := by decide +kernel
theorem dX9_bucketFrom_78 : decode cX9_bucketFrom 78 = .ok (.iload_n 1, 1) := by decide +kernel
theorem dX9_bucketFrom_79 : decode cX9_bucketFrom 79 = .ok (.istore_n 3, 1) := by decide +kernel
theorem dX9_bucketFrom_80 : decode cX9_bucketFrom 80 = .ok (.iload_n 3, 1) := by decide +kernel
theorem dX9_bucketFrom_81 : decode cX9_bucketFrom 81 = .ok (.aload_n 0, 1) := by decide +kernel
theorem dX9_bucketFrom_82 : decode cX9_bucketFrom 82 = .ok (.getfield 278, 3) := by decide +kernel
theorem dX9_bucketFrom_85 : decode cX9_bucketFrom 85 = .ok (.if_icmp .ge 102, 3) := by decide +kernel
theorem dX9_bucketFrom_88 : decode cX9_bucketFrom 88 = .ok (.aload_n 0, 1) := by decide +kernel
theorem dX9_bucketFrom_89 : decode cX9_bucketFrom 89 = .ok (.getfield 72, 3) := by decide +kernel
theorem dX9_bucketFrom_92 : decode cX9_bucketFrom 92 = .ok (.iload_n 3, 1) := by decide +kernel
theorem dX9_bucketFrom_93 : decode cX9_bucketFrom 93 = .ok (.iaload, 1) := by decide +kernel
theorem dX9_bucketFrom_94 : decode cX9_bucketFrom 94 = .ok (.iload_n 2, 1) := by decide +kernel
theorem dX9_bucketFrom_95 : decode cX9_bucketFrom 95 = .ok (.if_icmp .ne 92, 3) := by decide +kernel
theorem dX9_bucketFrom_98 : decode cX9_bucketFrom 98 = .ok (.aload_n 0, 1) := by decide +kernel
theorem dX9_bucketFrom_99 : decode cX9_bucketFrom 99 = .ok (.getfield 75, 3) := by decide +kernel
theorem dX9_bucketFrom_102 : decode cX9_bucketFrom 102 = .ok (.iload_n 3, 1) := by decide +kernel
theorem dX9_bucketFrom_103 : decode cX9_bucketFrom 103 = .ok (.iaload, 1) := by decide +kernel
theorem dX9_bucketFrom_104 : decode cX9_bucketFrom 104 = .ok (.aload_n 0, 1) := by decide +kernel
theorem dX9_bucketFrom_105 : decode cX9_bucketFrom 105 = .ok (.getfield 418, 3) := by decide +kernel
theorem dX9_bucketFrom_108 : decode cX9_bucketFrom 108 = .ok (.aload_n 0, 1) := by decide +kernel
theorem dX9_bucketFrom_109 : decode cX9_bucketFrom 109 = .ok (.getfield 43, 3) := by decide +kernel
theorem dX9_bucketFrom_112 : decode cX9_bucketFrom 112 = .ok (.aload_n 0, 1) := by decide +kernel
theorem dX9_bucketFrom_113 : decode cX9_bucketFrom 113 = .ok (.getfield 416, 3) := by decide +kernel
theorem dX9_bucketFrom_116 : decode cX9_bucketFrom 116 = .ok (.iaload, 1) := by decide +kernel
theorem dX9_bucketFrom_117 : decode cX9_bucketFrom 117 = .ok (.iadd, 1) := by decide +kernel
theorem dX9_bucketFrom_118 : decode cX9_bucketFrom 118 = .ok (.if_icmp .ge 69, 3) := by decide +kernel
theorem dX9_bucketFrom_121 : decode cX9_bucketFrom 121 = .ok (.aload_n 0, 1) := by decide +kernel
theorem dX9_bucketFrom_122 : decode cX9_bucketFrom 122 = .ok (.dup, 1) := by decide +kernel
theorem dX9_bucketFrom_123 : decode cX9_bucketFrom 123 = .ok (.getfield 421, 3) := by decide +kernel
theorem dX9_bucketFrom_126 : decode cX9_bucketFrom 126 = .ok (.iconst 1, 1) := by decide +kernel
theorem dX9_bucketFrom_127 : decode cX9_bucketFrom 127 = .ok (.iadd, 1) := by decide +kernel
theorem dX9_bucketFrom_128 : decode cX9_bucketFrom 128 = .ok (.putfield 421, 3) := by decide +kernel
theorem dX9_bucketFrom_131 : decode cX9_bucketFrom 131 = .ok (.aload_n 0, 1) := by decide +kernel
theorem dX9_bucketFrom_132 : decode cX9_bucketFrom 132 = .ok (.dup, 1) := by decide +kernel
theorem dX9_bucketFrom_133 : decode cX9_bucketFrom 133 = .ok (.getfield 423, 3) := by decide +kernel
theorem dX9_bucketFrom_136 : decode cX9_bucketFrom 136 = .ok (.aload_n 0, 1) := by decide +kernel
theorem dX9_bucketFrom_137 : decode cX9_bucketFrom 137 = .ok (.getfield 78, 3) := by decide +kernel
theorem dX9_bucketFrom_140 : decode cX9_bucketFrom 140 = .ok (.iload_n 3, 1) := by decide +kernel
theorem dX9_bucketFrom_141 : decode cX9_bucketFrom 141 = .ok (.iaload, 1) := by decide +kernel
theorem dX9_bucketFrom_142 : decode cX9_bucketFrom 142 = .ok (.i2l, 1) := by decide +kernel
theorem dX9_bucketFrom_143 : decode cX9_bucketFrom 143 = .ok (.ladd, 1) := by decide +kernel
theorem dX9_bucketFrom_144 : decode cX9_bucketFrom 144 = .ok (.putfield 423, 3) := by decide +kernel
theorem dX9_bucketFrom_147 : decode cX9_bucketFrom 147 = .ok (.aload_n 0, 1) := by decide +kernel
theorem dX9_bucketFrom_148 : decode cX9_bucketFrom 148 = .ok (.aload_n 0, 1) := by decide +kernel
theorem dX9_bucketFrom_149 : decode cX9_bucketFrom 149 = .ok (.getfield 426, 3) := by decide +kernel
theorem dX9_bucketFrom_152 : decode cX9_bucketFrom 152 = .ok (.aload_n 0, 1) := by decide +kernel
theorem dX9_bucketFrom_153 : decode cX9_bucketFrom 153 = .ok (.getfield 78, 3) := by decide +kernel
theorem dX9_bucketFrom_156 : decode cX9_bucketFrom 156 = .ok (.iload_n 3, 1) := by decide +kernel
theorem dX9_bucketFrom_157 : decode cX9_bucketFrom 157 = .ok (.iaload, 1) := by decide +kernel
theorem dX9_bucketFrom_158 : decode cX9_bucketFrom 158 = .ok (.invokestatic 167, 3) := by decide +kernel
theorem dX9_bucketFrom_161 : decode cX9_bucketFrom 161 = .ok (.putfield 426, 3) := by decide +kernel
theorem dX9_bucketFrom_164 : decode cX9_bucketFrom 164 = .ok (.aload_n 0, 1) := by decide +kernel
theorem dX9_bucketFrom_165 : decode cX9_bucketFrom 165 = .ok (.aload_n 0, 1) := by decide +kernel
theorem dX9_bucketFrom_166 : decode cX9_bucketFrom 166 = .ok (.getfield 428, 3) := by decide +kernel
theorem dX9_bucketFrom_169 : decode cX9_bucketFrom 169 = .ok (.aload_n 0, 1) := by decide +kernel
theorem dX9_bucketFrom_170 : decode cX9_bucketFrom 170 = .ok (.getfield 78, 3) := by decide +kernel
theorem dX9_bucketFrom_173 : decode cX9_bucketFrom 173 = .ok (.iload_n 3, 1) := by decide +kernel
theorem dX9_bucketFrom_174 : decode cX9_bucketFrom 174 = .ok (.iaload, 1) := by decide +kernel
theorem dX9_bucketFrom_175 : decode cX9_bucketFrom 175 = .ok (.invokestatic 321, 3) := by decide +kernel
theorem dX9_bucketFrom_178 : decode cX9_bucketFrom 178 = .ok (.putfield 428, 3) := by decide +kernel
theorem dX9_bucketFrom_181 : decode cX9_bucketFrom 181 = .ok (.iinc 3 1, 3) := by decide +kernel
theorem dX9_bucketFrom_184 : decode cX9_bucketFrom 184 = .ok (.goto (-104), 3) := by decide +kernel
theorem dX9_bucketFrom_187 : decode cX9_bucketFrom 187 = .ok (.iload_n 3, 1) := by decide +kernel
theorem dX9_bucketFrom_188 : decode cX9_bucketFrom 188 = .ok (.ireturn, 1) := by decide +kernel
theorem dX9_meanNow_0 : decode cX9_meanNow 0 = .ok (.aload_n 0, 1) := by decide +kernel
theorem dX9_meanNow_1 : decode cX9_meanNow 1 = .ok (.getfield 423, 3) := by decide +kernel
theorem dX9_meanNow_4 : decode cX9_meanNow 4 = .ok (.aload_n 0, 1) := by decide +kernel
theorem dX9_meanNow_5 : decode cX9_meanNow 5 = .ok (.getfield 421, 3) := by decide +kernel
theorem dX9_meanNow_8 : decode cX9_meanNow 8 = .ok (.i2l, 1) := by decide +kernel
theorem dX9_meanNow_9 : decode cX9_meanNow 9 = .ok (.invokestatic 133, 3) := by decide +kernel
theorem dX9_meanNow_12 : decode cX9_meanNow 12 = .ok (.l2i, 1) := by decide +kernel
theorem dX9_meanNow_13 : decode cX9_meanNow 13 = .ok (.ireturn, 1) := by decide +kernel
theorem dX9_allBuckets_0 : decode cX9_allBuckets 0 = .ok (.iconst 0, 1) := by decide +kernel
theorem dX9_allBuckets_1 : decode cX9_allBuckets 1 = .ok (.istore_n 2, 1) := by decide +kernel
theorem dX9_allBuckets_2 : decode cX9_allBuckets 2 = .ok (.aload_n 0, 1) := by decide +kernel
theorem dX9_allBuckets_3 : decode cX9_allBuckets 3 = .ok (.iload_n 1, 1) := by decide +kernel
theorem dX9_allBuckets_4 : decode cX9_allBuckets 4 = .ok (.invokevirtual 303, 3) := by decide +kernel
theorem dX9_allBuckets_7 : decode cX9_allBuckets 7 = .ok (.istore_n 3, 1) := by decide +kernel
theorem dX9_allBuckets_8 : decode cX9_allBuckets 8 = .ok (.aload_n 0, 1) := by decide +kernel
theorem dX9_allBuckets_9 : decode cX9_allBuckets 9 = .ok (.iload_n 1, 1) := by decide +kernel
theorem dX9_allBuckets_10 : decode cX9_allBuckets 10 = .ok (.invokevirtual 300, 3) := by decide +kernel
theorem dX9_allBuckets_13 : decode cX9_allBuckets 13 = .ok (.istore 4, 2) := by decide +kernel
theorem dX9_allBuckets_15 : decode cX9_allBuckets 15 = .ok (.iload 4, 2) := by decide +kernel
theorem dX9_allBuckets_17 : decode cX9_allBuckets 17 = .ok (.iload_n 3, 1) := by decide +kernel
theorem dX9_allBuckets_18 : decode cX9_allBuckets 18 = .ok (.if_icmp .ge 17, 3) := by decide +kernel
theorem dX9_allBuckets_21 : decode cX9_allBuckets 21 = .ok (.iinc 2 1, 3) := by decide +kernel
theorem dX9_allBuckets_24 : decode cX9_allBuckets 24 = .ok (.aload_n 0, 1) := by decide +kernel
theorem dX9_allBuckets_25 : decode cX9_allBuckets 25 = .ok (.iload 4, 2) := by decide +kernel
theorem dX9_allBuckets_27 : decode cX9_allBuckets 27 = .ok (.invokevirtual 430, 3) := by decide +kernel
theorem dX9_allBuckets_30 : decode cX9_allBuckets 30 = .ok (.istore 4, 2) := by decide +kernel
theorem dX9_allBuckets_32 : decode cX9_allBuckets 32 = .ok (.goto (-17), 3) := by decide +kernel
theorem dX9_allBuckets_35 : decode cX9_allBuckets 35 = .ok (.iload_n 2, 1) := by decide +kernel
theorem dX9_allBuckets_36 : decode cX9_allBuckets 36 = .ok (.ireturn, 1) := by decide +kernel
theorem dX9_tierFrom_0 : decode cX9_tierFrom 0 = .ok (.aload_n 0, 1) := by decide +kernel
theorem dX9_tierFrom_1 : decode cX9_tierFrom 1 = .ok (.iload_n 1, 1) := by decide +kernel
theorem dX9_tierFrom_2 : decode cX9_tierFrom 2 = .ok (.aload_n 0, 1) := by decide +kernel
theorem dX9_tierFrom_3 : decode cX9_tierFrom 3 = .ok (.aload_n 0, 1) := by decide +kernel
theorem dX9_tierFrom_4 : decode cX9_tierFrom 4 = .ok (.getfield 60, 3) := by decide +kernel
theorem dX9_tierFrom_7 : decode cX9_tierFrom 7 = .ok (.iload_n 1, 1) := by decide +kernel
theorem dX9_tierFrom_8 : decode cX9_tierFrom 8 = .ok (.iaload, 1) := by decide +kernel
theorem dX9_tierFrom_9 : decode cX9_tierFrom 9 = .ok (.iload_n 2, 1) := by decide +kernel
theorem dX9_tierFrom_10 : decode cX9_tierFrom 10 = .ok (.invokevirtual 285, 3) := by decide +kernel
theorem dX9_tierFrom_13 : decode cX9_tierFrom 13 = .ok (.i2l, 1) := by decide +kernel
theorem dX9_tierFrom_14 : decode cX9_tierFrom 14 = .ok (.invokevirtual 290, 3) := by decide +kernel
theorem dX9_tierFrom_17 : decode cX9_tierFrom 17 = .ok (.ireturn, 1) := by decide +kernel
theorem dX9_tierTo_0 : decode cX9_tierTo 0 = .ok (.iload_n 2, 1) := by decide +kernel
theorem dX9_tierTo_1 : decode cX9_tierTo 1 = .ok (.ifCond .ne 11, 3) := by decide +kernel
theorem dX9_tierTo_4 : decode cX9_tierTo 4 = .ok (.aload_n 0, 1) := by decide +kernel
theorem dX9_tierTo_5 : decode cX9_tierTo 5 = .ok (.iload_n 1, 1) := by decide +kernel
theorem dX9_tierTo_6 : decode cX9_tierTo 6 = .ok (.invokevirtual 303, 3) := by decide +kernel
theorem dX9_tierTo_9 : decode cX9_tierTo 9 = .ok (.goto 22, 3) := by decide +kernel
theorem dX9_tierTo_12 : decode cX9_tierTo 12 = .ok (.aload_n 0, 1) := by decide +kernel
theorem dX9_tierTo_13 : decode cX9_tierTo 13 = .ok (.iload_n 1, 1) := by decide +kernel
theorem dX9_tierTo_14 : decode cX9_tierTo 14 = .ok (.aload_n 0, 1) := by decide +kernel
theorem dX9_tierTo_15 : decode cX9_tierTo 15 = .ok (.aload_n 0, 1) := by decide +kernel
theorem dX9_tierTo_16 : decode cX9_tierTo 16 = .ok (.getfield 60, 3) := by decide +kernel
theorem dX9_tierTo_19 : decode cX9_tierTo 19 = .ok (.iload_n 1, 1) := by decide +kernel
theorem dX9_tierTo_20 : decode cX9_tierTo 20 = .ok (.iaload, 1) := by decide +kernel
theorem dX9_tierTo_21 : decode cX9_tierTo 21 = .ok (.iload_n 2, 1) := by decide +kernel
theorem dX9_tierTo_22 : decode cX9_tierTo 22 = .ok (.iconst 1, 1) := by decide +kernel
theorem dX9_tierTo_23 : decode cX9_tierTo 23 = .ok (.isub, 1) := by decide +kernel
theorem dX9_tierTo_24 : decode cX9_tierTo 24 = .ok (.invokevirtual 285, 3) := by decide +kernel
theorem dX9_tierTo_27 : decode cX9_tierTo 27 = .ok (.i2l, 1) := by decide +kernel
theorem dX9_tierTo_28 : decode cX9_tierTo 28 = .ok (.invokevirtual 290, 3) := by decide +kernel
theorem dX9_tierTo_31 : decode cX9_tierTo 31 = .ok (.ireturn, 1) := by decide +kernel
theorem dX9_bucketsIn_0 : decode cX9_bucketsIn 0 = .ok (.iconst 0, 1) := by decide +kernel
theorem dX9_bucketsIn_1 : decode cX9_bucketsIn 1 = .ok (.istore_n 3, 1) := by decide +kernel
theorem dX9_bucketsIn_2 : decode cX9_bucketsIn 2 = .ok (.aload_n 0, 1) := by decide +kernel
theorem dX9_bucketsIn_3 : decode cX9_bucketsIn 3 = .ok (.iload_n 1, 1) := by decide +kernel
theorem dX9_bucketsIn_4 : decode cX9_bucketsIn 4 = .ok (.iload_n 2, 1) := by decide +kernel
theorem dX9_bucketsIn_5 : decode cX9_bucketsIn 5 = .ok (.invokevirtual 433, 3) := by decide +kernel
theorem dX9_bucketsIn_8 : decode cX9_bucketsIn 8 = .ok (.istore 4, 2) := by decide +kernel
theorem dX9_bucketsIn_10 : decode cX9_bucketsIn 10 = .ok (.aload_n 0, 1) := by decide +kernel
theorem dX9_bucketsIn_11 : decode cX9_bucketsIn 11 = .ok (.iload_n 1, 1) := by decide +kernel
theorem dX9_bucketsIn_12 : decode cX9_bucketsIn 12 = .ok (.iload_n 2, 1) := by decide +kernel
theorem dX9_bucketsIn_13 : decode cX9_bucketsIn 13 = .ok (.invokevirtual 436, 3) := by decide +kernel
theorem dX9_bucketsIn_16 : decode cX9_bucketsIn 16 = .ok (.istore 5, 2) := by decide +kernel
theorem dX9_bucketsIn_18 : decode cX9_bucketsIn 18 = .ok (.iload 5, 2) := by decide +kernel
theorem dX9_bucketsIn_20 : decode cX9_bucketsIn 20 = .ok (.iload 4, 2) := by decide +kernel
theorem dX9_bucketsIn_22 : decode cX9_bucketsIn 22 = .ok (.if_icmp .ge 17, 3) := by decide +kernel
theorem dX9_bucketsIn_25 : decode cX9_bucketsIn 25 = .ok (.iinc 3 1, 3) := by decide +kernel
theorem dX9_bucketsIn_28 : decode cX9_bucketsIn 28 = .ok (.aload_n 0, 1) := by decide +kernel
theorem dX9_bucketsIn_29 : decode cX9_bucketsIn 29 = .ok (.iload 5, 2) := by decide +kernel
theorem dX9_bucketsIn_31 : decode cX9_bucketsIn 31 = .ok (.invokevirtual 430, 3) := by decide +kernel
theorem dX9_bucketsIn_34 : decode cX9_bucketsIn 34 = .ok (.istore 5, 2) := by decide +kernel
theorem dX9_bucketsIn_36 : decode cX9_bucketsIn 36 = .ok (.goto (-18), 3) := by decide +kernel
theorem dX9_bucketsIn_39 : decode cX9_bucketsIn 39 = .ok (.iload_n 3, 1) := by decide +kernel
theorem dX9_bucketsIn_40 : decode cX9_bucketsIn 40 = .ok (.ireturn, 1) := by decide +kernel
theorem dX9_count_0 : decode cX9_count 0 = .ok (.aload_n 0, 1) := by decide +kernel
theorem dX9_count_1 : decode cX9_count 1 = .ok (.iconst 0, 1) := by decide +kernel
theorem dX9_count_2 : decode cX9_count 2 = .ok (.putfield 130, 3) := by decide +kernel
theorem dX9_count_5 : decode cX9_count 5 = .ok (.iload_n 1, 1) := by decide +kernel
theorem dX9_count_6 : decode cX9_count 6 = .ok (.tableswitch 94 0 7 #[46, 51, 56, 69, 74, 79, 84, 89], 46) := by decide +kernel
theorem dX9_count_52 : decode cX9_count 52 = .ok (.aload_n 0, 1) := by decide +kernel
theorem dX9_count_53 : decode cX9_count 53 = .ok (.getfield 127, 3) := by decide +kernel
theorem dX9_count_56 : decode cX9_count 56 = .ok (.ireturn, 1) := by decide +kernel
theorem dX9_count_57 : decode cX9_count 57 = .ok (.aload_n 0, 1) := by decide +kernel
theorem dX9_count_58 : decode cX9_count 58 = .ok (.getfield 53, 3) := by decide +kernel
theorem dX9_count_61 : decode cX9_count 61 = .ok (.ireturn, 1) := by decide +kernel
theorem dX9_count_62 : decode cX9_count 62 = .ok (.aload_n 0, 1) := by decide +kernel
theorem dX9_count_63 : decode cX9_count 63 = .ok (.getfield 275, 3) := by decide +kernel
theorem dX9_count_66 : decode cX9_count 66 = .ok (.ifCond .le 7, 3) := by decide +kernel
theorem dX9_count_69 : decode cX9_count 69 = .ok (.iconst 1, 1) := by decide +kernel
theorem dX9_count_70 : decode cX9_count 70 = .ok (.goto 4, 3) := by decide +kernel
theorem dX9_count_73 : decode cX9_count 73 = .ok (.iconst 0, 1) := by decide +kernel
theorem dX9_count_74 : decode cX9_count 74 = .ok (.ireturn, 1) := by decide +kernel
theorem dX9_count_75 : decode cX9_count 75 = .ok (.aload_n 0, 1) := by decide +kernel
theorem dX9_count_76 : decode cX9_count 76 = .ok (.invokevirtual 309, 3) := by decide +kernel
theorem dX9_count_79 : decode cX9_count 79 = .ok (.ireturn, 1) := by decide +kernel
theorem dX9_count_80 : decode cX9_count 80 = .ok (.aload_n 0, 1) := by decide +kernel
theorem dX9_count_81 : decode cX9_count 81 = .ok (.getfield 137, 3) := by decide +kernel
theorem dX9_count_84 : decode cX9_count 84 = .ok (.ireturn, 1) := by decide +kernel
theorem dX9_count_85 : decode cX9_count 85 = .ok (.aload_n 0, 1) := by decide +kernel
theorem dX9_count_86 : decode cX9_count 86 = .ok (.getfield 318, 3) := by decide +kernel
theorem dX9_count_89 : decode cX9_count 89 = .ok (.ireturn, 1) := by decide +kernel
theorem dX9_count_90 : decode cX9_count 90 = .ok (.aload_n 0, 1) := by decide +kernel
theorem dX9_count_91 : decode cX9_count 91 = .ok (.getfield 377, 3) := by decide +kernel
theorem dX9_count_94 : decode cX9_count 94 = .ok (.ireturn, 1) := by decide +kernel
theorem dX9_count_95 : decode cX9_count 95 = .ok (.aload_n 0, 1) := by decide +kernel
theorem dX9_count_96 : decode cX9_count 96 = .ok (.getfield 327, 3) := by decide +kernel
theorem dX9_count_99 : decode cX9_count 99 = .ok (.ireturn, 1) := by decide +kernel
theorem dX9_count_100 : decode cX9_count 100 = .ok (.aload_n 0, 1) := by decide +kernel
theorem dX9_count_101 : decode cX9_count 101 = .ok (.iconst 1, 1) := by decide +kernel
theorem dX9_count_102 : decode cX9_count 102 = .ok (.invokevirtual 263, 3) := by decide +kernel
theorem dX9_count_105 : decode cX9_count 105 = .ok (.ireturn, 1) := by decide +kernel
theorem dX9_isTier_0 : decode cX9_isTier 0 = .ok (.iload_n 1, 1) := by decide +kernel
theorem dX9_isTier_1 : decode cX9_isTier 1 = .ok (.i2l, 1) := by decide +kernel
theorem dX9_isTier_2 : decode cX9_isTier 2 = .ok (.lconst 0, 1) := by decide +kernel
theorem dX9_isTier_3 : decode cX9_isTier 3 = .ok (.aload_n 0, 1) := by decide +kernel
theorem dX9_isTier_4 : decode cX9_isTier 4 = .ok (.getfield 127, 3) := by decide +kernel
theorem dX9_isTier_7 : decode cX9_isTier 7 = .ok (.iconst 1, 1) := by decide +kernel
theorem dX9_isTier_8 : decode cX9_isTier 8 = .ok (.isub, 1) := by decide +kernel
theorem dX9_isTier_9 : decode cX9_isTier 9 = .ok (.i2l, 1) := by decide +kernel
theorem dX9_isTier_10 : decode cX9_isTier 10 = .ok (.invokestatic 210, 3) := by decide +kernel
theorem dX9_isTier_13 : decode cX9_isTier 13 = .ok (.ireturn, 1) := by decide +kernel
theorem dX9_tier_0 : decode cX9_tier 0 = .ok (.aload_n 0, 1) := by decide +kernel
theorem dX9_tier_1 : decode cX9_tier 1 = .ok (.iconst 0, 1) := by decide +kernel
theorem dX9_tier_2 : decode cX9_tier 2 = .ok (.putfield 130, 3) := by decide +kernel
theorem dX9_tier_5 : decode cX9_tier 5 = .ok (.aload_n 0, 1) := by decide +kernel
theorem dX9_tier_6 : decode cX9_tier 6 = .ok (.iload_n 1, 1) := by decide +kernel
theorem dX9_tier_7 : decode cX9_tier 7 = .ok (.invokevirtual 439, 3) := by decide +kernel
theorem dX9_tier_10 : decode cX9_tier 10 = .ok (.ifCond .eq 35, 3) := by decide +kernel
theorem dX9_tier_13 : decode cX9_tier 13 = .ok (.iload_n 2, 1) := by decide +kernel
theorem dX9_tier_14 : decode cX9_tier 14 = .ok (.i2l, 1) := by decide +kernel
theorem dX9_tier_15 : decode cX9_tier 15 = .ok (.lconst 0, 1) := by decide +kernel
theorem dX9_tier_16 : decode cX9_tier 16 = .ok (.lconst 1, 1) := by decide +kernel
theorem dX9_tier_17 : decode cX9_tier 17 = .ok (.invokestatic 210, 3) := by decide +kernel
theorem dX9_tier_20 : decode cX9_tier 20 = .ok (.ifCond .eq 25, 3) := by decide +kernel
theorem dX9_tier_23 : decode cX9_tier 23 = .ok (.iload_n 2, 1) := by decide +kernel
theorem dX9_tier_24 : decode cX9_tier 24 = .ok (.ifCond .ne 12, 3) := by decide +kernel
theorem dX9_tier_27 : decode cX9_tier 27 = .ok (.aload_n 0, 1) := by decide +kernel
theorem dX9_tier_28 : decode cX9_tier 28 = .ok (.getfield 43, 3) := by decide +kernel
theorem dX9_tier_31 : decode cX9_tier 31 = .ok (.iload_n 1, 1) := by decide +kernel
theorem dX9_tier_32 : decode cX9_tier 32 = .ok (.iaload, 1) := by decide +kernel
theorem dX9_tier_33 : decode cX9_tier 33 = .ok (.goto 17, 3) := by decide +kernel
theorem dX9_tier_36 : decode cX9_tier 36 = .ok (.aload_n 0, 1) := by decide +kernel
theorem dX9_tier_37 : decode cX9_tier 37 = .ok (.getfield 47, 3) := by decide +kernel
theorem dX9_tier_40 : decode cX9_tier 40 = .ok (.iload_n 1, 1) := by decide +kernel
theorem dX9_tier_41 : decode cX9_tier 41 = .ok (.iaload, 1) := by decide +kernel
theorem dX9_tier_42 : decode cX9_tier 42 = .ok (.goto 8, 3) := by decide +kernel
theorem dX9_tier_45 : decode cX9_tier 45 = .ok (.aload_n 0, 1) := by decide +kernel
theorem dX9_tier_46 : decode cX9_tier 46 = .ok (.iconst 1, 1) := by decide +kernel
theorem dX9_tier_47 : decode cX9_tier 47 = .ok (.invokevirtual 263, 3) := by decide +kernel
theorem dX9_tier_50 : decode cX9_tier 50 = .ok (.ireturn, 1) := by decide +kernel
theorem dX9_used_0 : decode cX9_used 0 = .ok (.aload_n 0, 1) := by decide +kernel
theorem dX9_used_1 : decode cX9_used 1 = .ok (.iconst 0, 1) := by decide +kernel
theorem dX9_used_2 : decode cX9_used 2 = .ok (.putfield 130, 3) := by decide +kernel
theorem dX9_used_5 : decode cX9_used 5 = .ok (.iconst 0, 1) := by decide +kernel
theorem dX9_used_6 : decode cX9_used 6 = .ok (.istore_n 2, 1) := by decide +kernel
theorem dX9_used_7 : decode cX9_used 7 = .ok (.iload_n 2, 1) := by decide +kernel
theorem dX9_used_8 : decode cX9_used 8 = .ok (.bipush 10, 2) := by decide +kernel
theorem dX9_used_10 : decode cX9_used 10 = .ok (.if_icmp .ge 77, 3) := by decide +kernel
theorem dX9_used_13 : decode cX9_used 13 = .ok (.iconst 0, 1) := by decide +kernel
theorem dX9_used_14 : decode cX9_used 14 = .ok (.istore_n 3, 1) := by decide +kernel
theorem dX9_used_15 : decode cX9_used 15 = .ok (.iconst 0, 1) := by decide +kernel
theorem dX9_used_16 : decode cX9_used 16 = .ok (.istore 4, 2) := by decide +kernel
theorem dX9_used_18 : decode cX9_used 18 = .ok (.iload 4, 2) := by decide +kernel
theorem dX9_used_20 : decode cX9_used 20 = .ok (.bipush 10, 2) := by decide +kernel
theorem dX9_used_22 : decode cX9_used 22 = .ok (.if_icmp .ge 43, 3) := by decide +kernel
theorem dX9_used_25 : decode cX9_used 25 = .ok (.iload_n 3, 1) := by decide +kernel
theorem dX9_used_26 : decode cX9_used 26 = .ok (.aload_n 0, 1) := by decide +kernel
theorem dX9_used_27 : decode cX9_used 27 = .ok (.getfield 56, 3) := by decide +kernel
theorem dX9_used_30 : decode cX9_used 30 = .ok (.iload 4, 2) := by decide +kernel
theorem dX9_used_32 : decode cX9_used 32 = .ok (.baload, 1) := by decide +kernel
theorem dX9_used_33 : decode cX9_used 33 = .ok (.ifCond .eq 23, 3) := by decide +kernel
theorem dX9_used_36 : decode cX9_used 36 = .ok (.aload_n 0, 1) := by decide +kernel
theorem dX9_used_37 : decode cX9_used 37 = .ok (.getfield 69, 3) := by decide +kernel
theorem dX9_used_40 : decode cX9_used 40 = .ok (.iload 4, 2) := by decide +kernel
theorem dX9_used_42 : decode cX9_used 42 = .ok (.iaload, 1) := by decide +kernel
theorem dX9_used_43 : decode cX9_used 43 = .ok (.aload_n 0, 1) := by decide +kernel
theorem dX9_used_44 : decode cX9_used 44 = .ok (.getfield 69, 3) := by decide +kernel
theorem dX9_used_47 : decode cX9_used 47 = .ok (.iload_n 2, 1) := by decide +kernel
theorem dX9_used_48 : decode cX9_used 48 = .ok (.iaload, 1) := by decide +kernel
theorem dX9_used_49 : decode cX9_used 49 = .ok (.if_icmp .le 7, 3) := by decide +kernel
theorem dX9_used_52 : decode cX9_used 52 = .ok (.iconst 1, 1) := by decide +kernel
theorem dX9_used_53 : decode cX9_used 53 = .ok (.goto 4, 3) := by decide +kernel
theorem dX9_used_56 : decode cX9_used 56 = .ok (.iconst 0, 1) := by decide +kernel
theorem dX9_used_57 : decode cX9_used 57 = .ok (.iadd, 1) := by decide +kernel
theorem dX9_used_58 : decode cX9_used 58 = .ok (.istore_n 3, 1) := by decide +kernel
theorem dX9_used_59 : decode cX9_used 59 = .ok (.iinc 4 1, 3) := by decide +kernel
theorem dX9_used_62 : decode cX9_used 62 = .ok (.goto (-44), 3) := by decide +kernel
theorem dX9_used_65 : decode cX9_used 65 = .ok (.aload_n 0, 1) := by decide +kernel
theorem dX9_used_66 : decode cX9_used 66 = .ok (.getfield 56, 3) := by decide +kernel
theorem dX9_used_69 : decode cX9_used 69 = .ok (.iload_n 2, 1) := by decide +kernel
theorem dX9_used_70 : decode cX9_used 70 = .ok (.baload, 1) := by decide +kernel
theorem dX9_used_71 : decode cX9_used 71 = .ok (.ifCond .eq 10, 3) := by decide +kernel
theorem dX9_used_74 : decode cX9_used 74 = .ok (.iload_n 3, 1) := by decide +kernel
theorem dX9_used_75 : decode cX9_used 75 = .ok (.iload_n 1, 1) := by decide +kernel
theorem dX9_used_76 : decode cX9_used 76 = .ok (.if_icmp .ne 5, 3) := by decide +kernel
theorem dX9_used_79 : decode cX9_used 79 = .ok (.iload_n 2, 1) := by decide +kernel
theorem dX9_used_80 : decode cX9_used 80 = .ok (.ireturn, 1) := by decide +kernel
theorem dX9_used_81 : decode cX9_used 81 = .ok (.iinc 2 1, 3) := by decide +kernel
theorem dX9_used_84 : decode cX9_used 84 = .ok (.goto (-77), 3) := by decide +kernel
theorem dX9_used_87 : decode cX9_used 87 = .ok (.aload_n 0, 1) := by decide +kernel
theorem dX9_used_88 : decode cX9_used 88 = .ok (.iconst 1, 1) := by decide +kernel
theorem dX9_used_89 : decode cX9_used 89 = .ok (.invokevirtual 263, 3) := by decide +kernel
theorem dX9_used_92 : decode cX9_used 92 = .ok (.ireturn, 1) := by decide +kernel
theorem dX9_isSeries_0 : decode cX9_isSeries 0 = .ok (.iload_n 1, 1) := by decide +kernel
theorem dX9_isSeries_1 : decode cX9_isSeries 1 = .ok (.invokestatic 360, 3) := by decide +kernel
theorem dX9_isSeries_4 : decode cX9_isSeries 4 = .ok (.ifCond .eq 16, 3) := by decide +kernel
theorem dX9_isSeries_7 : decode cX9_isSeries 7 = .ok (.aload_n 0, 1) := by decide +kernel
theorem dX9_isSeries_8 : decode cX9_isSeries 8 = .ok (.getfield 56, 3) := by decide +kernel
theorem dX9_isSeries_11 : decode cX9_isSeries 11 = .ok (.iload_n 1, 1) := by decide +kernel
theorem dX9_isSeries_12 : decode cX9_isSeries 12 = .ok (.baload, 1) := by decide +kernel
theorem dX9_isSeries_13 : decode cX9_isSeries 13 = .ok (.ifCond .eq 7, 3) := by decide +kernel
theorem dX9_isSeries_16 : decode cX9_isSeries 16 = .ok (.iconst 1, 1) := by decide +kernel
theorem dX9_isSeries_17 : decode cX9_isSeries 17 = .ok (.goto 4, 3) := by decide +kernel
theorem dX9_isSeries_20 : decode cX9_isSeries 20 = .ok (.iconst 0, 1) := by decide +kernel
theorem dX9_isSeries_21 : decode cX9_isSeries 21 = .ok (.ireturn, 1) := by decide +kernel
theorem dX9_allBy_0 : decode cX9_allBy 0 = .ok (.aload_n 0, 1) := by decide +kernel
theorem dX9_allBy_1 : decode cX9_allBy 1 = .ok (.iload_n 1, 1) := by decide +kernel
theorem dX9_allBy_2 : decode cX9_allBy 2 = .ok (.invokevirtual 303, 3) := by decide +kernel
theorem dX9_allBy_5 : decode cX9_allBy 5 = .ok (.istore_n 3, 1) := by decide +kernel
theorem dX9_allBy_6 : decode cX9_allBy 6 = .ok (.iload_n 2, 1) := by decide +kernel
theorem dX9_allBy_7 : decode cX9_allBy 7 = .ok (.bipush 7, 2) := by decide +kernel
theorem dX9_allBy_9 : decode cX9_allBy 9 = .ok (.if_icmp .ne 7, 3) := by decide +kernel
theorem dX9_allBy_12 : decode cX9_allBy 12 = .ok (.lconst 0, 1) := by decide +kernel
theorem dX9_allBy_13 : decode cX9_allBy 13 = .ok (.goto 6, 3) := by decide +kernel
theorem dX9_allBy_16 : decode cX9_allBy 16 = .ok (.ldc2_w 442, 3) := by decide +kernel
theorem dX9_allBy_19 : decode cX9_allBy 19 = .ok (.lstore 4, 2) := by decide +kernel
theorem dX9_allBy_21 : decode cX9_allBy 21 = .ok (.aload_n 0, 1) := by decide +kernel
theorem dX9_allBy_22 : decode cX9_allBy 22 = .ok (.iload_n 1, 1) := by decide +kernel
theorem dX9_allBy_23 : decode cX9_allBy 23 = .ok (.invokevirtual 300, 3) := by decide +kernel
theorem dX9_allBy_26 : decode cX9_allBy 26 = .ok (.istore 6, 2) := by decide +kernel
theorem dX9_allBy_28 : decode cX9_allBy 28 = .ok (.iload 6, 2) := by decide +kernel
theorem dX9_allBy_30 : decode cX9_allBy 30 = .ok (.iload_n 3, 1) := by decide +kernel
theorem dX9_allBy_31 : decode cX9_allBy 31 = .ok (.if_icmp .ge 87, 3) := by decide +kernel
theorem dX9_allBy_34 : decode cX9_allBy 34 = .ok (.iload_n 2, 1) := by decide +kernel
theorem dX9_allBy_35 : decode cX9_allBy 35 = .ok (.bipush 7, 2) := by decide +kernel
theorem dX9_allBy_37 : decode cX9_allBy 37 = .ok (.if_icmp .ne 19, 3) := by decide +kernel
theorem dX9_allBy_40 : decode cX9_allBy 40 = .ok (.lload 4, 2) := by decide +kernel
theorem dX9_allBy_42 : decode cX9_allBy 42 = .ok (.aload_n 0, 1) := by decide +kernel
theorem dX9_allBy_43 : decode cX9_allBy 43 = .ok (.getfield 78, 3) := by decide +kernel
theorem dX9_allBy_46 : decode cX9_allBy 46 = .ok (.iload 6, 2) := by decide +kernel
theorem dX9_allBy_48 : decode cX9_allBy 48 = .ok (.iaload, 1) := by decide +kernel
theorem dX9_allBy_49 : decode cX9_allBy 49 = .ok (.i2l, 1) := by decide +kernel
theorem dX9_allBy_50 : decode cX9_allBy 50 = .ok (.ladd, 1) := by decide +kernel
theorem dX9_allBy_51 : decode cX9_allBy 51 = .ok (.lstore 4, 2) := by decide +kernel
theorem dX9_allBy_53 : decode cX9_allBy 53 = .ok (.goto 59, 3) := by decide +kernel
theorem dX9_allBy_56 : decode cX9_allBy 56 = .ok (.lload 4, 2) := by decide +kernel
theorem dX9_allBy_58 : decode cX9_allBy 58 = .ok (.ldc2_w 442, 3) := by decide +kernel
theorem dX9_allBy_61 : decode cX9_allBy 61 = .ok (.lcmp, 1) := by decide +kernel
theorem dX9_allBy_62 : decode cX9_allBy 62 = .ok (.ifCond .ne 14, 3) := by decide +kernel
theorem dX9_allBy_65 : decode cX9_allBy 65 = .ok (.aload_n 0, 1) := by decide +kernel
theorem dX9_allBy_66 : decode cX9_allBy 66 = .ok (.getfield 78, 3) := by decide +kernel
theorem dX9_allBy_69 : decode cX9_allBy 69 = .ok (.iload 6, 2) := by decide +kernel
theorem dX9_allBy_71 : decode cX9_allBy 71 = .ok (.iaload, 1) := by decide +kernel
theorem dX9_allBy_72 : decode cX9_allBy 72 = .ok (.i2l, 1) := by decide +kernel
theorem dX9_allBy_73 : decode cX9_allBy 73 = .ok (.goto 37, 3) := by decide +kernel
theorem dX9_allBy_76 : decode cX9_allBy 76 = .ok (.iload_n 2, 1) := by decide +kernel
theorem dX9_allBy_77 : decode cX9_allBy 77 = .ok (.iconst 5, 1) := by decide +kernel
theorem dX9_allBy_78 : decode cX9_allBy 78 = .ok (.if_icmp .ne 19, 3) := by decide +kernel
theorem dX9_allBy_81 : decode cX9_allBy 81 = .ok (.lload 4, 2) := by decide +kernel
theorem dX9_allBy_83 : decode cX9_allBy 83 = .ok (.aload_n 0, 1) := by decide +kernel
theorem dX9_allBy_84 : decode cX9_allBy 84 = .ok (.getfield 78, 3) := by decide +kernel
theorem dX9_allBy_87 : decode cX9_allBy 87 = .ok (.iload 6, 2) := by decide +kernel
theorem dX9_allBy_89 : decode cX9_allBy 89 = .ok (.iaload, 1) := by decide +kernel
theorem dX9_allBy_90 : decode cX9_allBy 90 = .ok (.i2l, 1) := by decide +kernel
theorem dX9_allBy_91 : decode cX9_allBy 91 = .ok (.invokestatic 444, 3) := by decide +kernel
theorem dX9_allBy_94 : decode cX9_allBy 94 = .ok (.goto 16, 3) := by decide +kernel
theorem dX9_allBy_97 : decode cX9_allBy 97 = .ok (.lload 4, 2) := by decide +kernel
theorem dX9_allBy_99 : decode cX9_allBy 99 = .ok (.aload_n 0, 1) := by decide +kernel
theorem dX9_allBy_100 : decode cX9_allBy 100 = .ok (.getfield 78, 3) := by decide +kernel
theorem dX9_allBy_103 : decode cX9_allBy 103 = .ok (.iload 6, 2) := by decide +kernel
theorem dX9_allBy_105 : decode cX9_allBy 105 = .ok (.iaload, 1) := by decide +kernel
theorem dX9_allBy_106 : decode cX9_allBy 106 = .ok (.i2l, 1) := by decide +kernel
theorem dX9_allBy_107 : decode cX9_allBy 107 = .ok (.invokestatic 446, 3) := by decide +kernel
theorem dX9_allBy_110 : decode cX9_allBy 110 = .ok (.lstore 4, 2) := by decide +kernel
theorem dX9_allBy_112 : decode cX9_allBy 112 = .ok (.iinc 6 1, 3) := by decide +kernel
theorem dX9_allBy_115 : decode cX9_allBy 115 = .ok (.goto (-87), 3) := by decide +kernel
theorem dX9_allBy_118 : decode cX9_allBy 118 = .ok (.lload 4, 2) := by decide +kernel
theorem dX9_allBy_120 : decode cX9_allBy 120 = .ok (.lreturn, 1) := by decide +kernel
theorem dX9_of_0 : decode cX9_of 0 = .ok (.aload_n 0, 1) := by decide +kernel
theorem dX9_of_1 : decode cX9_of 1 = .ok (.iconst 0, 1) := by decide +kernel
theorem dX9_of_2 : decode cX9_of 2 = .ok (.putfield 130, 3) := by decide +kernel
theorem dX9_of_5 : decode cX9_of 5 = .ok (.aload_n 0, 1) := by decide +kernel
theorem dX9_of_6 : decode cX9_of 6 = .ok (.iload_n 1, 1) := by decide +kernel
theorem dX9_of_7 : decode cX9_of 7 = .ok (.invokevirtual 448, 3) := by decide +kernel
theorem dX9_of_10 : decode cX9_of 10 = .ok (.ifCond .ne 10, 3) := by decide +kernel
theorem dX9_of_13 : decode cX9_of 13 = .ok (.aload_n 0, 1) := by decide +kernel
theorem dX9_of_14 : decode cX9_of 14 = .ok (.iconst 1, 1) := by decide +kernel
theorem dX9_of_15 : decode cX9_of 15 = .ok (.invokevirtual 263, 3) := by decide +kernel
theorem dX9_of_18 : decode cX9_of 18 = .ok (.i2l, 1) := by decide +kernel
theorem dX9_of_19 : decode cX9_of 19 = .ok (.lreturn, 1) := by decide +kernel
theorem dX9_of_20 : decode cX9_of 20 = .ok (.iload_n 2, 1) := by decide +kernel
theorem dX9_of_21 : decode cX9_of 21 = .ok (.tableswitch 98 0 7 #[47, 55, 62, 75, 83, 91, 91, 91], 47) := by decide +kernel
theorem dX9_of_68 : decode cX9_of 68 = .ok (.aload_n 0, 1) := by decide +kernel
theorem dX9_of_69 : decode cX9_of 69 = .ok (.getfield 60, 3) := by decide +kernel
theorem dX9_of_72 : decode cX9_of 72 = .ok (.iload_n 1, 1) := by decide +kernel
theorem dX9_of_73 : decode cX9_of 73 = .ok (.iaload, 1) := by decide +kernel
theorem dX9_of_74 : decode cX9_of 74 = .ok (.i2l, 1) := by decide +kernel
theorem dX9_of_75 : decode cX9_of 75 = .ok (.lreturn, 1) := by decide +kernel
theorem dX9_of_76 : decode cX9_of 76 = .ok (.aload_n 0, 1) := by decide +kernel
theorem dX9_of_77 : decode cX9_of 77 = .ok (.iload_n 1, 1) := by decide +kernel
theorem dX9_of_78 : decode cX9_of 78 = .ok (.invokevirtual 389, 3) := by decide +kernel
theorem dX9_of_81 : decode cX9_of 81 = .ok (.i2l, 1) := by decide +kernel
theorem dX9_of_82 : decode cX9_of 82 = .ok (.lreturn, 1) := by decide +kernel
theorem dX9_of_83 : decode cX9_of 83 = .ok (.aload_n 0, 1) := by decide +kernel
theorem dX9_of_84 : decode cX9_of 84 = .ok (.iload_n 1, 1) := by decide +kernel
theorem dX9_of_85 : decode cX9_of 85 = .ok (.invokevirtual 303, 3) := by decide +kernel
theorem dX9_of_88 : decode cX9_of 88 = .ok (.aload_n 0, 1) := by decide +kernel
theorem dX9_of_89 : decode cX9_of 89 = .ok (.iload_n 1, 1) := by decide +kernel
theorem dX9_of_90 : decode cX9_of 90 = .ok (.invokevirtual 300, 3) := by decide +kernel
theorem dX9_of_93 : decode cX9_of 93 = .ok (.isub, 1) := by decide +kernel
theorem dX9_of_94 : decode cX9_of 94 = .ok (.i2l, 1) := by decide +kernel
theorem dX9_of_95 : decode cX9_of 95 = .ok (.lreturn, 1) := by decide +kernel
theorem dX9_of_96 : decode cX9_of 96 = .ok (.aload_n 0, 1) := by decide +kernel
theorem dX9_of_97 : decode cX9_of 97 = .ok (.getfield 63, 3) := by decide +kernel
theorem dX9_of_100 : decode cX9_of 100 = .ok (.iload_n 1, 1) := by decide +kernel
theorem dX9_of_101 : decode cX9_of 101 = .ok (.iaload, 1) := by decide +kernel
theorem dX9_of_102 : decode cX9_of 102 = .ok (.i2l, 1) := by decide +kernel
theorem dX9_of_103 : decode cX9_of 103 = .ok (.lreturn, 1) := by decide +kernel
theorem dX9_of_104 : decode cX9_of 104 = .ok (.aload_n 0, 1) := by decide +kernel
theorem dX9_of_105 : decode cX9_of 105 = .ok (.getfield 66, 3) := by decide +kernel
theorem dX9_of_108 : decode cX9_of 108 = .ok (.iload_n 1, 1) := by decide +kernel
theorem dX9_of_109 : decode cX9_of 109 = .ok (.iaload, 1) := by decide +kernel
theorem dX9_of_110 : decode cX9_of 110 = .ok (.i2l, 1) := by decide +kernel
theorem dX9_of_111 : decode cX9_of 111 = .ok (.lreturn, 1) := by decide +kernel
theorem dX9_of_112 : decode cX9_of 112 = .ok (.aload_n 0, 1) := by decide +kernel
theorem dX9_of_113 : decode cX9_of 113 = .ok (.iload_n 1, 1) := by decide +kernel
theorem dX9_of_114 : decode cX9_of 114 = .ok (.iload_n 2, 1) := by decide +kernel
theorem dX9_of_115 : decode cX9_of 115 = .ok (.invokevirtual 451, 3) := by decide +kernel
theorem dX9_of_118 : decode cX9_of 118 = .ok (.lreturn, 1) := by decide +kernel
theorem dX9_of_119 : decode cX9_of 119 = .ok (.aload_n 0, 1) := by decide +kernel
theorem dX9_of_120 : decode cX9_of 120 = .ok (.iconst 1, 1) := by decide +kernel
theorem dX9_of_121 : decode cX9_of 121 = .ok (.invokevirtual 263, 3) := by decide +kernel
theorem dX9_of_124 : decode cX9_of 124 = .ok (.i2l, 1) := by decide +kernel
theorem dX9_of_125 : decode cX9_of 125 = .ok (.lreturn, 1) := by decide +kernel
theorem dX9_seam_0 : decode cX9_seam 0 = .ok (.aload_n 0, 1) := by decide +kernel
theorem dX9_seam_1 : decode cX9_seam 1 = .ok (.iconst 0, 1) := by decide +kernel
theorem dX9_seam_2 : decode cX9_seam 2 = .ok (.putfield 130, 3) := by decide +kernel
theorem dX9_seam_5 : decode cX9_seam 5 = .ok (.aload_n 0, 1) := by decide +kernel
theorem dX9_seam_6 : decode cX9_seam 6 = .ok (.iload_n 1, 1) := by decide +kernel
theorem dX9_seam_7 : decode cX9_seam 7 = .ok (.invokevirtual 448, 3) := by decide +kernel
theorem dX9_seam_10 : decode cX9_seam 10 = .ok (.ifCond .eq 25, 3) := by decide +kernel
theorem dX9_seam_13 : decode cX9_seam 13 = .ok (.aload_n 0, 1) := by decide +kernel
theorem dX9_seam_14 : decode cX9_seam 14 = .ok (.iload_n 2, 1) := by decide +kernel
theorem dX9_seam_15 : decode cX9_seam 15 = .ok (.invokevirtual 439, 3) := by decide +kernel
theorem dX9_seam_18 : decode cX9_seam 18 = .ok (.ifCond .eq 17, 3) := by decide +kernel
theorem dX9_seam_21 : decode cX9_seam 21 = .ok (.aload_n 0, 1) := by decide +kernel
theorem dX9_seam_22 : decode cX9_seam 22 = .ok (.aload_n 0, 1) := by decide +kernel
theorem dX9_seam_23 : decode cX9_seam 23 = .ok (.getfield 60, 3) := by decide +kernel
theorem dX9_seam_26 : decode cX9_seam 26 = .ok (.iload_n 1, 1) := by decide +kernel
theorem dX9_seam_27 : decode cX9_seam 27 = .ok (.iaload, 1) := by decide +kernel
theorem dX9_seam_28 : decode cX9_seam 28 = .ok (.iload_n 2, 1) := by decide +kernel
theorem dX9_seam_29 : decode cX9_seam 29 = .ok (.invokevirtual 285, 3) := by decide +kernel
theorem dX9_seam_32 : decode cX9_seam 32 = .ok (.goto 8, 3) := by decide +kernel
theorem dX9_seam_35 : decode cX9_seam 35 = .ok (.aload_n 0, 1) := by decide +kernel
theorem dX9_seam_36 : decode cX9_seam 36 = .ok (.iconst 1, 1) := by decide +kernel
theorem dX9_seam_37 : decode cX9_seam 37 = .ok (.invokevirtual 263, 3) := by decide +kernel
theorem dX9_seam_40 : decode cX9_seam 40 = .ok (.ireturn, 1) := by decide +kernel
theorem dX9_buckets_0 : decode cX9_buckets 0 = .ok (.aload_n 0, 1) := by decide +kernel
theorem dX9_buckets_1 : decode cX9_buckets 1 = .ok (.iconst 0, 1) := by decide +kernel
theorem dX9_buckets_2 : decode cX9_buckets 2 = .ok (.putfield 130, 3) := by decide +kernel
theorem dX9_buckets_5 : decode cX9_buckets 5 = .ok (.aload_n 0, 1) := by decide +kernel
theorem dX9_buckets_6 : decode cX9_buckets 6 = .ok (.iload_n 1, 1) := by decide +kernel
theorem dX9_buckets_7 : decode cX9_buckets 7 = .ok (.invokevirtual 448, 3) := by decide +kernel
theorem dX9_buckets_10 : decode cX9_buckets 10 = .ok (.ifCond .eq 20, 3) := by decide +kernel
theorem dX9_buckets_13 : decode cX9_buckets 13 = .ok (.aload_n 0, 1) := by decide +kernel
theorem dX9_buckets_14 : decode cX9_buckets 14 = .ok (.iload_n 2, 1) := by decide +kernel
theorem dX9_buckets_15 : decode cX9_buckets 15 = .ok (.invokevirtual 439, 3) := by decide +kernel
theorem dX9_buckets_18 : decode cX9_buckets 18 = .ok (.ifCond .eq 12, 3) := by decide +kernel
theorem dX9_buckets_21 : decode cX9_buckets 21 = .ok (.aload_n 0, 1) := by decide +kernel
theorem dX9_buckets_22 : decode cX9_buckets 22 = .ok (.iload_n 1, 1) := by decide +kernel
theorem dX9_buckets_23 : decode cX9_buckets 23 = .ok (.iload_n 2, 1) := by decide +kernel
theorem dX9_buckets_24 : decode cX9_buckets 24 = .ok (.invokevirtual 455, 3) := by decide +kernel
theorem dX9_buckets_27 : decode cX9_buckets 27 = .ok (.goto 8, 3) := by decide +kernel
theorem dX9_buckets_30 : decode cX9_buckets 30 = .ok (.aload_n 0, 1) := by decide +kernel
theorem dX9_buckets_31 : decode cX9_buckets 31 = .ok (.iconst 1, 1) := by decide +kernel
theorem dX9_buckets_32 : decode cX9_buckets 32 = .ok (.invokevirtual 263, 3) := by decide +kernel
theorem dX9_buckets_35 : decode cX9_buckets 35 = .ok (.ireturn, 1) := by decide +kernel
theorem dX9_bucket_0 : decode cX9_bucket 0 = .ok (.aload_n 0, 1) := by decide +kernel
theorem dX9_bucket_1 : decode cX9_bucket 1 = .ok (.iconst 0, 1) := by decide +kernel
theorem dX9_bucket_2 : decode cX9_bucket 2 = .ok (.putfield 130, 3) := by decide +kernel
theorem dX9_bucket_5 : decode cX9_bucket 5 = .ok (.aload_n 0, 1) := by decide +kernel
theorem dX9_bucket_6 : decode cX9_bucket 6 = .ok (.iload_n 1, 1) := by decide +kernel
theorem dX9_bucket_7 : decode cX9_bucket 7 = .ok (.invokevirtual 448, 3) := by decide +kernel
theorem dX9_bucket_10 : decode cX9_bucket 10 = .ok (.ifCond .eq 29, 3) := by decide +kernel
theorem dX9_bucket_13 : decode cX9_bucket 13 = .ok (.aload_n 0, 1) := by decide +kernel
theorem dX9_bucket_14 : decode cX9_bucket 14 = .ok (.iload_n 2, 1) := by decide +kernel
theorem dX9_bucket_15 : decode cX9_bucket 15 = .ok (.invokevirtual 439, 3) := by decide +kernel
theorem dX9_bucket_18 : decode cX9_bucket 18 = .ok (.ifCond .eq 21, 3) := by decide +kernel
theorem dX9_bucket_21 : decode cX9_bucket 21 = .ok (.iload_n 3, 1) := by decide +kernel
theorem dX9_bucket_22 : decode cX9_bucket 22 = .ok (.i2l, 1) := by decide +kernel
theorem dX9_bucket_23 : decode cX9_bucket 23 = .ok (.lconst 0, 1) := by decide +kernel
theorem dX9_bucket_24 : decode cX9_bucket 24 = .ok (.aload_n 0, 1) := by decide +kernel
theorem dX9_bucket_25 : decode cX9_bucket 25 = .ok (.iload_n 1, 1) := by decide +kernel
theorem dX9_bucket_26 : decode cX9_bucket 26 = .ok (.iload_n 2, 1) := by decide +kernel
theorem dX9_bucket_27 : decode cX9_bucket 27 = .ok (.invokevirtual 455, 3) := by decide +kernel
theorem dX9_bucket_30 : decode cX9_bucket 30 = .ok (.iconst 1, 1) := by decide +kernel
theorem dX9_bucket_31 : decode cX9_bucket 31 = .ok (.isub, 1) := by decide +kernel
theorem dX9_bucket_32 : decode cX9_bucket 32 = .ok (.i2l, 1) := by decide +kernel
theorem dX9_bucket_33 : decode cX9_bucket 33 = .ok (.invokestatic 210, 3) := by decide +kernel
theorem dX9_bucket_36 : decode cX9_bucket 36 = .ok (.ifCond .ne 10, 3) := by decide +kernel
theorem dX9_bucket_39 : decode cX9_bucket 39 = .ok (.aload_n 0, 1) := by decide +kernel
theorem dX9_bucket_40 : decode cX9_bucket 40 = .ok (.iconst 1, 1) := by decide +kernel
theorem dX9_bucket_41 : decode cX9_bucket 41 = .ok (.invokevirtual 263, 3) := by decide +kernel
theorem dX9_bucket_44 : decode cX9_bucket 44 = .ok (.i2l, 1) := by decide +kernel
theorem dX9_bucket_45 : decode cX9_bucket 45 = .ok (.lreturn, 1) := by decide +kernel
theorem dX9_bucket_46 : decode cX9_bucket 46 = .ok (.aload_n 0, 1) := by decide +kernel
theorem dX9_bucket_47 : decode cX9_bucket 47 = .ok (.iload_n 1, 1) := by decide +kernel
theorem dX9_bucket_48 : decode cX9_bucket 48 = .ok (.iload_n 2, 1) := by decide +kernel
theorem dX9_bucket_49 : decode cX9_bucket 49 = .ok (.invokevirtual 436, 3) := by decide +kernel
theorem dX9_bucket_52 : decode cX9_bucket 52 = .ok (.istore 5, 2) := by decide +kernel
theorem dX9_bucket_54 : decode cX9_bucket 54 = .ok (.iconst 0, 1) := by decide +kernel
theorem dX9_bucket_55 : decode cX9_bucket 55 = .ok (.istore 6, 2) := by decide +kernel
theorem dX9_bucket_57 : decode cX9_bucket 57 = .ok (.iload 6, 2) := by decide +kernel
theorem dX9_bucket_59 : decode cX9_bucket 59 = .ok (.iload_n 3, 1) := by decide +kernel
theorem dX9_bucket_60 : decode cX9_bucket 60 = .ok (.if_icmp .gt 17, 3) := by decide +kernel
theorem dX9_bucket_63 : decode cX9_bucket 63 = .ok (.aload_n 0, 1) := by decide +kernel
theorem dX9_bucket_64 : decode cX9_bucket 64 = .ok (.iload 5, 2) := by decide +kernel
theorem dX9_bucket_66 : decode cX9_bucket 66 = .ok (.invokevirtual 430, 3) := by decide +kernel
theorem dX9_bucket_69 : decode cX9_bucket 69 = .ok (.istore 5, 2) := by decide +kernel
theorem dX9_bucket_71 : decode cX9_bucket 71 = .ok (.iinc 6 1, 3) := by decide +kernel
theorem dX9_bucket_74 : decode cX9_bucket 74 = .ok (.goto (-17), 3) := by decide +kernel
theorem dX9_bucket_77 : decode cX9_bucket 77 = .ok (.iload 4, 2) := by decide +kernel
theorem dX9_bucket_79 : decode cX9_bucket 79 = .ok (.tableswitch 72 0 5 #[37, 43, 49, 54, 60, 66], 37) := by decide +kernel
theorem dX9_bucket_116 : decode cX9_bucket 116 = .ok (.aload_n 0, 1) := by decide +kernel
theorem dX9_bucket_117 : decode cX9_bucket 117 = .ok (.getfield 418, 3) := by decide +kernel
theorem dX9_bucket_120 : decode cX9_bucket 120 = .ok (.i2l, 1) := by decide +kernel
theorem dX9_bucket_121 : decode cX9_bucket 121 = .ok (.lreturn, 1) := by decide +kernel
theorem dX9_bucket_122 : decode cX9_bucket 122 = .ok (.aload_n 0, 1) := by decide +kernel
theorem dX9_bucket_123 : decode cX9_bucket 123 = .ok (.getfield 421, 3) := by decide +kernel
theorem dX9_bucket_126 : decode cX9_bucket 126 = .ok (.i2l, 1) := by decide +kernel
theorem dX9_bucket_127 : decode cX9_bucket 127 = .ok (.lreturn, 1) := by decide +kernel
theorem dX9_bucket_128 : decode cX9_bucket 128 = .ok (.aload_n 0, 1) := by decide +kernel
theorem dX9_bucket_129 : decode cX9_bucket 129 = .ok (.getfield 423, 3) := by decide +kernel
theorem dX9_bucket_132 : decode cX9_bucket 132 = .ok (.lreturn, 1) := by decide +kernel
theorem dX9_bucket_133 : decode cX9_bucket 133 = .ok (.aload_n 0, 1) := by decide +kernel
theorem dX9_bucket_134 : decode cX9_bucket 134 = .ok (.getfield 426, 3) := by decide +kernel
theorem dX9_bucket_137 : decode cX9_bucket 137 = .ok (.i2l, 1) := by decide +kernel
theorem dX9_bucket_138 : decode cX9_bucket 138 = .ok (.lreturn, 1) := by decide +kernel
theorem dX9_bucket_139 : decode cX9_bucket 139 = .ok (.aload_n 0, 1) := by decide +kernel
theorem dX9_bucket_140 : decode cX9_bucket 140 = .ok (.getfield 428, 3) := by decide +kernel
theorem dX9_bucket_143 : decode cX9_bucket 143 = .ok (.i2l, 1) := by decide +kernel
theorem dX9_bucket_144 : decode cX9_bucket 144 = .ok (.lreturn, 1) := by decide +kernel
theorem dX9_bucket_145 : decode cX9_bucket 145 = .ok (.aload_n 0, 1) := by decide +kernel
theorem dX9_bucket_146 : decode cX9_bucket 146 = .ok (.invokevirtual 458, 3) := by decide +kernel
theorem dX9_bucket_149 : decode cX9_bucket 149 = .ok (.i2l, 1) := by decide +kernel
theorem dX9_bucket_150 : decode cX9_bucket 150 = .ok (.lreturn, 1) := by decide +kernel
theorem dX9_bucket_151 : decode cX9_bucket 151 = .ok (.aload_n 0, 1) := by decide +kernel
theorem dX9_bucket_152 : decode cX9_bucket 152 = .ok (.iconst 1, 1) := by decide +kernel
theorem dX9_bucket_153 : decode cX9_bucket 153 = .ok (.invokevirtual 263, 3) := by decide +kernel
theorem dX9_bucket_156 : decode cX9_bucket 156 = .ok (.i2l, 1) := by decide +kernel
theorem dX9_bucket_157 : decode cX9_bucket 157 = .ok (.lreturn, 1) := by decide +kernel
theorem dX9_at_0 : decode cX9_at 0 = .ok (.aload_n 0, 1) := by decide +kernel
theorem dX9_at_1 : decode cX9_at 1 = .ok (.iconst 0, 1) := by decide +kernel
theorem dX9_at_2 : decode cX9_at 2 = .ok (.putfield 130, 3) := by decide +kernel
theorem dX9_at_5 : decode cX9_at 5 = .ok (.aload_n 0, 1) := by decide +kernel
theorem dX9_at_6 : decode cX9_at 6 = .ok (.iload_n 1, 1) := by decide +kernel
theorem dX9_at_7 : decode cX9_at 7 = .ok (.invokevirtual 448, 3) := by decide +kernel
theorem dX9_at_10 : decode cX9_at 10 = .ok (.ifCond .eq 23, 3) := by decide +kernel
theorem dX9_at_13 : decode cX9_at 13 = .ok (.iload_n 2, 1) := by decide +kernel
theorem dX9_at_14 : decode cX9_at 14 = .ok (.i2l, 1) := by decide +kernel
theorem dX9_at_15 : decode cX9_at 15 = .ok (.invokestatic 363, 3) := by decide +kernel
theorem dX9_at_18 : decode cX9_at 18 = .ok (.ifCond .eq 15, 3) := by decide +kernel
theorem dX9_at_21 : decode cX9_at 21 = .ok (.iload_n 3, 1) := by decide +kernel
theorem dX9_at_22 : decode cX9_at 22 = .ok (.i2l, 1) := by decide +kernel
theorem dX9_at_23 : decode cX9_at 23 = .ok (.lconst 0, 1) := by decide +kernel
theorem dX9_at_24 : decode cX9_at 24 = .ok (.ldc2_w 461, 3) := by decide +kernel
theorem dX9_at_27 : decode cX9_at 27 = .ok (.invokestatic 210, 3) := by decide +kernel
theorem dX9_at_30 : decode cX9_at 30 = .ok (.ifCond .ne 9, 3) := by decide +kernel
theorem dX9_at_33 : decode cX9_at 33 = .ok (.aload_n 0, 1) := by decide +kernel
theorem dX9_at_34 : decode cX9_at 34 = .ok (.iconst 1, 1) := by decide +kernel
theorem dX9_at_35 : decode cX9_at 35 = .ok (.invokevirtual 263, 3) := by decide +kernel
theorem dX9_at_38 : decode cX9_at 38 = .ok (.ireturn, 1) := by decide +kernel
theorem dX9_at_39 : decode cX9_at 39 = .ok (.aload_n 0, 1) := by decide +kernel
theorem dX9_at_40 : decode cX9_at 40 = .ok (.aload_n 0, 1) := by decide +kernel
theorem dX9_at_41 : decode cX9_at 41 = .ok (.getfield 60, 3) := by decide +kernel
theorem dX9_at_44 : decode cX9_at 44 = .ok (.iload_n 1, 1) := by decide +kernel
theorem dX9_at_45 : decode cX9_at 45 = .ok (.iaload, 1) := by decide +kernel
theorem dX9_at_46 : decode cX9_at 46 = .ok (.iload_n 2, 1) := by decide +kernel
theorem dX9_at_47 : decode cX9_at 47 = .ok (.invokevirtual 386, 3) := by decide +kernel
theorem dX9_at_50 : decode cX9_at 50 = .ok (.istore 4, 2) := by decide +kernel
theorem dX9_at_52 : decode cX9_at 52 = .ok (.iload 4, 2) := by decide +kernel
theorem dX9_at_54 : decode cX9_at 54 = .ok (.iconst (-1), 1) := by decide +kernel
theorem dX9_at_55 : decode cX9_at 55 = .ok (.if_icmp .ne 24, 3) := by decide +kernel
theorem dX9_at_58 : decode cX9_at 58 = .ok (.iload_n 3, 1) := by decide +kernel
theorem dX9_at_59 : decode cX9_at 59 = .ok (.ifCond .ne 7, 3) := by decide +kernel
theorem dX9_at_62 : decode cX9_at 62 = .ok (.iconst (-1), 1) := by decide +kernel
theorem dX9_at_63 : decode cX9_at 63 = .ok (.goto 15, 3) := by decide +kernel
theorem dX9_at_66 : decode cX9_at 66 = .ok (.iload_n 3, 1) := by decide +kernel
theorem dX9_at_67 : decode cX9_at 67 = .ok (.iconst 1, 1) := by decide +kernel
theorem dX9_at_68 : decode cX9_at 68 = .ok (.if_icmp .ne 9, 3) := by decide +kernel
theorem dX9_at_71 : decode cX9_at 71 = .ok (.sipush (-20000), 3) := by decide +kernel
theorem dX9_at_74 : decode cX9_at 74 = .ok (.goto 4, 3) := by decide +kernel
theorem dX9_at_77 : decode cX9_at 77 = .ok (.iconst 0, 1) := by decide +kernel
theorem dX9_at_78 : decode cX9_at 78 = .ok (.ireturn, 1) := by decide +kernel
theorem dX9_at_79 : decode cX9_at 79 = .ok (.iload_n 2, 1) := by decide +kernel
theorem dX9_at_80 : decode cX9_at 80 = .ok (.i2l, 1) := by decide +kernel
theorem dX9_at_81 : decode cX9_at 81 = .ok (.aload_n 0, 1) := by decide +kernel
theorem dX9_at_82 : decode cX9_at 82 = .ok (.getfield 43, 3) := by decide +kernel
theorem dX9_at_85 : decode cX9_at 85 = .ok (.iload 4, 2) := by decide +kernel
theorem dX9_at_87 : decode cX9_at 87 = .ok (.iaload, 1) := by decide +kernel
theorem dX9_at_88 : decode cX9_at 88 = .ok (.invokestatic 281, 3) := by decide +kernel
theorem dX9_at_91 : decode cX9_at 91 = .ok (.istore 5, 2) := by decide +kernel
theorem dX9_at_93 : decode cX9_at 93 = .ok (.iload_n 3, 1) := by decide +kernel
theorem dX9_at_94 : decode cX9_at 94 = .ok (.ifCond .ne 8, 3) := by decide +kernel
theorem dX9_at_97 : decode cX9_at 97 = .ok (.iload 4, 2) := by decide +kernel
theorem dX9_at_99 : decode cX9_at 99 = .ok (.goto 39, 3) := by decide +kernel
theorem dX9_at_102 : decode cX9_at 102 = .ok (.iload_n 3, 1) := by decide +kernel
theorem dX9_at_103 : decode cX9_at 103 = .ok (.iconst 1, 1) := by decide +kernel
theorem dX9_at_104 : decode cX9_at 104 = .ok (.if_icmp .ne 8, 3) := by decide +kernel
theorem dX9_at_107 : decode cX9_at 107 = .ok (.iload 5, 2) := by decide +kernel
theorem dX9_at_109 : decode cX9_at 109 = .ok (.goto 29, 3) := by decide +kernel
theorem dX9_at_112 : decode cX9_at 112 = .ok (.aload_n 0, 1) := by decide +kernel
theorem dX9_at_113 : decode cX9_at 113 = .ok (.iload_n 1, 1) := by decide +kernel
theorem dX9_at_114 : decode cX9_at 114 = .ok (.iload 5, 2) := by decide +kernel
theorem dX9_at_116 : decode cX9_at 116 = .ok (.i2l, 1) := by decide +kernel
theorem dX9_at_117 : decode cX9_at 117 = .ok (.aload_n 0, 1) := by decide +kernel
theorem dX9_at_118 : decode cX9_at 118 = .ok (.getfield 43, 3) := by decide +kernel
theorem dX9_at_121 : decode cX9_at 121 = .ok (.iload 4, 2) := by decide +kernel
theorem dX9_at_123 : decode cX9_at 123 = .ok (.iaload, 1) := by decide +kernel
theorem dX9_at_124 : decode cX9_at 124 = .ok (.i2l, 1) := by decide +kernel
theorem dX9_at_125 : decode cX9_at 125 = .ok (.ladd, 1) := by decide +kernel
theorem dX9_at_126 : decode cX9_at 126 = .ok (.invokevirtual 290, 3) := by decide +kernel
theorem dX9_at_129 : decode cX9_at 129 = .ok (.aload_n 0, 1) := by decide +kernel
theorem dX9_at_130 : decode cX9_at 130 = .ok (.iload_n 1, 1) := by decide +kernel
theorem dX9_at_131 : decode cX9_at 131 = .ok (.iload 5, 2) := by decide +kernel
theorem dX9_at_133 : decode cX9_at 133 = .ok (.i2l, 1) := by decide +kernel
theorem dX9_at_134 : decode cX9_at 134 = .ok (.invokevirtual 290, 3) := by decide +kernel
theorem dX9_at_137 : decode cX9_at 137 = .ok (.isub, 1) := by decide +kernel
theorem dX9_at_138 : decode cX9_at 138 = .ok (.ireturn, 1) := by decide +kernel
theorem dX9_clears_0 : decode cX9_clears 0 = .ok (.aload_n 0, 1) := by decide +kernel
theorem dX9_clears_1 : decode cX9_clears 1 = .ok (.lconst 0, 1) := by decide +kernel
theorem dX9_clears_2 : decode cX9_clears 2 = .ok (.putfield 463, 3) := by decide +kernel
theorem dX9_clears_5 : decode cX9_clears 5 = .ok (.aload_n 0, 1) := by decide +kernel
theorem dX9_clears_6 : decode cX9_clears 6 = .ok (.iconst 0, 1) := by decide +kernel
theorem dX9_clears_7 : decode cX9_clears 7 = .ok (.putfield 466, 3) := by decide +kernel
theorem dX9_clears_10 : decode cX9_clears 10 = .ok (.aload_n 0, 1) := by decide +kernel
theorem dX9_clears_11 : decode cX9_clears 11 = .ok (.sipush (-20000), 3) := by decide +kernel
theorem dX9_clears_14 : decode cX9_clears 14 = .ok (.putfield 469, 3) := by decide +kernel
theorem dX9_clears_17 : decode cX9_clears 17 = .ok (.aload_n 0, 1) := by decide +kernel
theorem dX9_clears_18 : decode cX9_clears 18 = .ok (.sipush (-20000), 3) := by decide +kernel
theorem dX9_clears_21 : decode cX9_clears 21 = .ok (.putfield 472, 3) := by decide +kernel
theorem dX9_clears_24 : decode cX9_clears 24 = .ok (.aload_n 0, 1) := by decide +kernel
theorem dX9_clears_25 : decode cX9_clears 25 = .ok (.iconst 0, 1) := by decide +kernel
theorem dX9_clears_26 : decode cX9_clears 26 = .ok (.putfield 475, 3) := by decide +kernel
theorem dX9_clears_29 : decode cX9_clears 29 = .ok (.return_, 1) := by decide +kernel
theorem dX9_adds_0 : decode cX9_adds 0 = .ok (.aload_n 0, 1) := by decide +kernel
theorem dX9_adds_1 : decode cX9_adds 1 = .ok (.dup, 1) := by decide +kernel
theorem dX9_adds_2 : decode cX9_adds 2 = .ok (.getfield 463, 3) := by decide +kernel
theorem dX9_adds_5 : decode cX9_adds 5 = .ok (.aload_n 0, 1) := by decide +kernel
theorem dX9_adds_6 : decode cX9_adds 6 = .ok (.getfield 423, 3) := by decide +kernel
theorem dX9_adds_9 : decode cX9_adds 9 = .ok (.ladd, 1) := by decide +kernel
theorem dX9_adds_10 : decode cX9_adds 10 = .ok (.putfield 463, 3) := by decide +kernel
theorem dX9_adds_13 : decode cX9_adds 13 = .ok (.aload_n 0, 1) := by decide +kernel
theorem dX9_adds_14 : decode cX9_adds 14 = .ok (.aload_n 0, 1) := by decide +kernel
theorem dX9_adds_15 : decode cX9_adds 15 = .ok (.getfield 466, 3) := by decide +kernel
theorem dX9_adds_18 : decode cX9_adds 18 = .ok (.ifCond .ne 10, 3) := by decide +kernel
theorem dX9_adds_21 : decode cX9_adds 21 = .ok (.aload_n 0, 1) := by decide +kernel
theorem dX9_adds_22 : decode cX9_adds 22 = .ok (.getfield 426, 3) := by decide +kernel
theorem dX9_adds_25 : decode cX9_adds 25 = .ok (.goto 14, 3) := by decide +kernel
theorem dX9_adds_28 : decode cX9_adds 28 = .ok (.aload_n 0, 1) := by decide +kernel
theorem dX9_adds_29 : decode cX9_adds 29 = .ok (.getfield 469, 3) := by decide +kernel
theorem dX9_adds_32 : decode cX9_adds 32 = .ok (.aload_n 0, 1) := by decide +kernel
theorem dX9_adds_33 : decode cX9_adds 33 = .ok (.getfield 426, 3) := by decide +kernel
theorem dX9_adds_36 : decode cX9_adds 36 = .ok (.invokestatic 167, 3) := by decide +kernel
theorem dX9_adds_39 : decode cX9_adds 39 = .ok (.putfield 469, 3) := by decide +kernel
theorem dX9_adds_42 : decode cX9_adds 42 = .ok (.aload_n 0, 1) := by decide +kernel
theorem dX9_adds_43 : decode cX9_adds 43 = .ok (.aload_n 0, 1) := by decide +kernel
theorem dX9_adds_44 : decode cX9_adds 44 = .ok (.getfield 466, 3) := by decide +kernel
theorem dX9_adds_47 : decode cX9_adds 47 = .ok (.ifCond .ne 10, 3) := by decide +kernel
theorem dX9_adds_50 : decode cX9_adds 50 = .ok (.aload_n 0, 1) := by decide +kernel
theorem dX9_adds_51 : decode cX9_adds 51 = .ok (.getfield 428, 3) := by decide +kernel
theorem dX9_adds_54 : decode cX9_adds 54 = .ok (.goto 14, 3) := by decide +kernel
theorem dX9_adds_57 : decode cX9_adds 57 = .ok (.aload_n 0, 1) := by decide +kernel
theorem dX9_adds_58 : decode cX9_adds 58 = .ok (.getfield 472, 3) := by decide +kernel
theorem dX9_adds_61 : decode cX9_adds 61 = .ok (.aload_n 0, 1) := by decide +kernel
theorem dX9_adds_62 : decode cX9_adds 62 = .ok (.getfield 428, 3) := by decide +kernel
theorem dX9_adds_65 : decode cX9_adds 65 = .ok (.invokestatic 321, 3) := by decide +kernel
theorem dX9_adds_68 : decode cX9_adds 68 = .ok (.putfield 472, 3) := by decide +kernel
theorem dX9_adds_71 : decode cX9_adds 71 = .ok (.aload_n 0, 1) := by decide +kernel
theorem dX9_adds_72 : decode cX9_adds 72 = .ok (.dup, 1) := by decide +kernel
theorem dX9_adds_73 : decode cX9_adds 73 = .ok (.getfield 466, 3) := by decide +kernel
theorem dX9_adds_76 : decode cX9_adds 76 = .ok (.aload_n 0, 1) := by decide +kernel
theorem dX9_adds_77 : decode cX9_adds 77 = .ok (.getfield 421, 3) := by decide +kernel
theorem dX9_adds_80 : decode cX9_adds 80 = .ok (.iadd, 1) := by decide +kernel
theorem dX9_adds_81 : decode cX9_adds 81 = .ok (.putfield 466, 3) := by decide +kernel
theorem dX9_adds_84 : decode cX9_adds 84 = .ok (.aload_n 0, 1) := by decide +kernel
theorem dX9_adds_85 : decode cX9_adds 85 = .ok (.dup, 1) := by decide +kernel
theorem dX9_adds_86 : decode cX9_adds 86 = .ok (.getfield 475, 3) := by decide +kernel
theorem dX9_adds_89 : decode cX9_adds 89 = .ok (.iconst 1, 1) := by decide +kernel
theorem dX9_adds_90 : decode cX9_adds 90 = .ok (.iadd, 1) := by decide +kernel
theorem dX9_adds_91 : decode cX9_adds 91 = .ok (.putfield 475, 3) := by decide +kernel
theorem dX9_adds_94 : decode cX9_adds 94 = .ok (.return_, 1) := by decide +kernel
theorem dX9_totals_0 : decode cX9_totals 0 = .ok (.aload_n 0, 1) := by decide +kernel
theorem dX9_totals_1 : decode cX9_totals 1 = .ok (.invokevirtual 478, 3) := by decide +kernel
theorem dX9_totals_4 : decode cX9_totals 4 = .ok (.aload_n 0, 1) := by decide +kernel
theorem dX9_totals_5 : decode cX9_totals 5 = .ok (.iconst 0, 1) := by decide +kernel
theorem dX9_totals_6 : decode cX9_totals 6 = .ok (.putfield 481, 3) := by decide +kernel
theorem dX9_totals_9 : decode cX9_totals 9 = .ok (.aload_n 0, 1) := by decide +kernel
theorem dX9_totals_10 : decode cX9_totals 10 = .ok (.iconst 0, 1) := by decide +kernel
theorem dX9_totals_11 : decode cX9_totals 11 = .ok (.putfield 484, 3) := by decide +kernel
theorem dX9_totals_14 : decode cX9_totals 14 = .ok (.aload_n 0, 1) := by decide +kernel
theorem dX9_totals_15 : decode cX9_totals 15 = .ok (.iload_n 1, 1) := by decide +kernel
theorem dX9_totals_16 : decode cX9_totals 16 = .ok (.invokevirtual 303, 3) := by decide +kernel
theorem dX9_totals_19 : decode cX9_totals 19 = .ok (.istore 4, 2) := by decide +kernel
theorem dX9_totals_21 : decode cX9_totals 21 = .ok (.aload_n 0, 1) := by decide +kernel
theorem dX9_totals_22 : decode cX9_totals 22 = .ok (.iload_n 1, 1) := by decide +kernel
theorem dX9_totals_23 : decode cX9_totals 23 = .ok (.invokevirtual 300, 3) := by decide +kernel
theorem dX9_totals_26 : decode cX9_totals 26 = .ok (.istore 5, 2) := by decide +kernel
theorem dX9_totals_28 : decode cX9_totals 28 = .ok (.iload 5, 2) := by decide +kernel
theorem dX9_totals_30 : decode cX9_totals 30 = .ok (.iload 4, 2) := by decide +kernel
theorem dX9_totals_32 : decode cX9_totals 32 = .ok (.if_icmp .ge 101, 3) := by decide +kernel
theorem dX9_totals_35 : decode cX9_totals 35 = .ok (.aload_n 0, 1) := by decide +kernel
theorem dX9_totals_36 : decode cX9_totals 36 = .ok (.iload 5, 2) := by decide +kernel
theorem dX9_totals_38 : decode cX9_totals 38 = .ok (.invokevirtual 430, 3) := by decide +kernel
theorem dX9_totals_41 : decode cX9_totals 41 = .ok (.istore 5, 2) := by decide +kernel
theorem dX9_totals_43 : decode cX9_totals 43 = .ok (.aload_n 0, 1) := by decide +kernel
theorem dX9_totals_44 : decode cX9_totals 44 = .ok (.getfield 418, 3) := by decide +kernel
theorem dX9_totals_47 : decode cX9_totals 47 = .ok (.iload_n 2, 1) := by decide +kernel
theorem dX9_totals_48 : decode cX9_totals 48 = .ok (.if_icmp .lt 28, 3) := by decide +kernel
theorem dX9_totals_51 : decode cX9_totals 51 = .ok (.aload_n 0, 1) := by decide +kernel
theorem dX9_totals_52 : decode cX9_totals 52 = .ok (.getfield 418, 3) := by decide +kernel
theorem dX9_totals_55 : decode cX9_totals 55 = .ok (.aload_n 0, 1) := by decide +kernel
theorem dX9_totals_56 : decode cX9_totals 56 = .ok (.getfield 43, 3) := by decide +kernel
theorem dX9_totals_59 : decode cX9_totals 59 = .ok (.aload_n 0, 1) := by decide +kernel
theorem dX9_totals_60 : decode cX9_totals 60 = .ok (.getfield 416, 3) := by decide +kernel
theorem dX9_totals_63 : decode cX9_totals 63 = .ok (.iaload, 1) := by decide +kernel
theorem dX9_totals_64 : decode cX9_totals 64 = .ok (.iadd, 1) := by decide +kernel
theorem dX9_totals_65 : decode cX9_totals 65 = .ok (.iload_n 3, 1) := by decide +kernel
theorem dX9_totals_66 : decode cX9_totals 66 = .ok (.if_icmp .gt 10, 3) := by decide +kernel
theorem dX9_totals_69 : decode cX9_totals 69 = .ok (.aload_n 0, 1) := by decide +kernel
theorem dX9_totals_70 : decode cX9_totals 70 = .ok (.invokevirtual 487, 3) := by decide +kernel
theorem dX9_totals_73 : decode cX9_totals 73 = .ok (.goto (-45), 3) := by decide +kernel
theorem dX9_totals_76 : decode cX9_totals 76 = .ok (.iload_n 2, 1) := by decide +kernel
theorem dX9_totals_77 : decode cX9_totals 77 = .ok (.iload_n 3, 1) := by decide +kernel
theorem dX9_totals_78 : decode cX9_totals 78 = .ok (.if_icmp .ge (-50), 3) := by decide +kernel
theorem dX9_totals_81 : decode cX9_totals 81 = .ok (.aload_n 0, 1) := by decide +kernel
theorem dX9_totals_82 : decode cX9_totals 82 = .ok (.getfield 418, 3) := by decide +kernel
theorem dX9_totals_85 : decode cX9_totals 85 = .ok (.iload_n 3, 1) := by decide +kernel
theorem dX9_totals_86 : decode cX9_totals 86 = .ok (.if_icmp .ge (-58), 3) := by decide +kernel
theorem dX9_totals_89 : decode cX9_totals 89 = .ok (.aload_n 0, 1) := by decide +kernel
theorem dX9_totals_90 : decode cX9_totals 90 = .ok (.getfield 418, 3) := by decide +kernel
theorem dX9_totals_93 : decode cX9_totals 93 = .ok (.aload_n 0, 1) := by decide +kernel
theorem dX9_totals_94 : decode cX9_totals 94 = .ok (.getfield 43, 3) := by decide +kernel
theorem dX9_totals_97 : decode cX9_totals 97 = .ok (.aload_n 0, 1) := by decide +kernel
theorem dX9_totals_98 : decode cX9_totals 98 = .ok (.getfield 416, 3) := by decide +kernel
theorem dX9_totals_101 : decode cX9_totals 101 = .ok (.iaload, 1) := by decide +kernel
theorem dX9_totals_102 : decode cX9_totals 102 = .ok (.iadd, 1) := by decide +kernel
theorem dX9_totals_103 : decode cX9_totals 103 = .ok (.iload_n 2, 1) := by decide +kernel
theorem dX9_totals_104 : decode cX9_totals 104 = .ok (.if_icmp .le (-76), 3) := by decide +kernel
theorem dX9_totals_107 : decode cX9_totals 107 = .ok (.aload_n 0, 1) := by decide +kernel
theorem dX9_totals_108 : decode cX9_totals 108 = .ok (.dup, 1) := by decide +kernel
theorem dX9_totals_109 : decode cX9_totals 109 = .ok (.getfield 484, 3) := by decide +kernel
theorem dX9_totals_112 : decode cX9_totals 112 = .ok (.iconst 1, 1) := by decide +kernel
theorem dX9_totals_113 : decode cX9_totals 113 = .ok (.iadd, 1) := by decide +kernel
theorem dX9_totals_114 : decode cX9_totals 114 = .ok (.putfield 484, 3) := by decide +kernel
theorem dX9_totals_117 : decode cX9_totals 117 = .ok (.aload_n 0, 1) := by decide +kernel
theorem dX9_totals_118 : decode cX9_totals 118 = .ok (.dup, 1) := by decide +kernel
theorem dX9_totals_119 : decode cX9_totals 119 = .ok (.getfield 481, 3) := by decide +kernel
theorem dX9_totals_122 : decode cX9_totals 122 = .ok (.aload_n 0, 1) := by decide +kernel
theorem dX9_totals_123 : decode cX9_totals 123 = .ok (.getfield 421, 3) := by decide +kernel
theorem dX9_totals_126 : decode cX9_totals 126 = .ok (.iadd, 1) := by decide +kernel
theorem dX9_totals_127 : decode cX9_totals 127 = .ok (.putfield 481, 3) := by decide +kernel
theorem dX9_totals_130 : decode cX9_totals 130 = .ok (.goto (-102), 3) := by decide +kernel
theorem dX9_totals_133 : decode cX9_totals 133 = .ok (.return_, 1) := by decide +kernel
theorem dX9_total_0 : decode cX9_total 0 = .ok (.aload_n 0, 1) := by decide +kernel
theorem dX9_total_1 : decode cX9_total 1 = .ok (.iconst 0, 1) := by decide +kernel
theorem dX9_total_2 : decode cX9_total 2 = .ok (.putfield 130, 3) := by decide +kernel
theorem dX9_total_5 : decode cX9_total 5 = .ok (.aload_n 0, 1) := by decide +kernel
theorem dX9_total_6 : decode cX9_total 6 = .ok (.iload_n 1, 1) := by decide +kernel
theorem dX9_total_7 : decode cX9_total 7 = .ok (.invokevirtual 448, 3) := by decide +kernel
theorem dX9_total_10 : decode cX9_total 10 = .ok (.ifCond .eq 16, 3) := by decide +kernel
theorem dX9_total_13 : decode cX9_total 13 = .ok (.iload 4, 2) := by decide +kernel
theorem dX9_total_15 : decode cX9_total 15 = .ok (.i2l, 1) := by decide +kernel
theorem dX9_total_16 : decode cX9_total 16 = .ok (.lconst 0, 1) := by decide +kernel
theorem dX9_total_17 : decode cX9_total 17 = .ok (.ldc2_w 490, 3) := by decide +kernel
theorem dX9_total_20 : decode cX9_total 20 = .ok (.invokestatic 210, 3) := by decide +kernel
theorem dX9_total_23 : decode cX9_total 23 = .ok (.ifCond .ne 10, 3) := by decide +kernel
theorem dX9_total_26 : decode cX9_total 26 = .ok (.aload_n 0, 1) := by decide +kernel
theorem dX9_total_27 : decode cX9_total 27 = .ok (.iconst 1, 1) := by decide +kernel
theorem dX9_total_28 : decode cX9_total 28 = .ok (.invokevirtual 263, 3) := by decide +kernel
theorem dX9_total_31 : decode cX9_total 31 = .ok (.i2l, 1) := by decide +kernel
theorem dX9_total_32 : decode cX9_total 32 = .ok (.lreturn, 1) := by decide +kernel
theorem dX9_total_33 : decode cX9_total 33 = .ok (.iload_n 2, 1) := by decide +kernel
theorem dX9_total_34 : decode cX9_total 34 = .ok (.i2l, 1) := by decide +kernel
theorem dX9_total_35 : decode cX9_total 35 = .ok (.invokestatic 363, 3) := by decide +kernel
theorem dX9_total_38 : decode cX9_total 38 = .ok (.ifCond .eq 16, 3) := by decide +kernel
theorem dX9_total_41 : decode cX9_total 41 = .ok (.iload_n 3, 1) := by decide +kernel
theorem dX9_total_42 : decode cX9_total 42 = .ok (.i2l, 1) := by decide +kernel
theorem dX9_total_43 : decode cX9_total 43 = .ok (.invokestatic 363, 3) := by decide +kernel
theorem dX9_total_46 : decode cX9_total 46 = .ok (.ifCond .eq 8, 3) := by decide +kernel
theorem dX9_total_49 : decode cX9_total 49 = .ok (.iload_n 3, 1) := by decide +kernel
theorem dX9_total_50 : decode cX9_total 50 = .ok (.iload_n 2, 1) := by decide +kernel
theorem dX9_total_51 : decode cX9_total 51 = .ok (.if_icmp .ge 10, 3) := by decide +kernel
theorem dX9_total_54 : decode cX9_total 54 = .ok (.aload_n 0, 1) := by decide +kernel
theorem dX9_total_55 : decode cX9_total 55 = .ok (.iconst 2, 1) := by decide +kernel
theorem dX9_total_56 : decode cX9_total 56 = .ok (.invokevirtual 263, 3) := by decide +kernel
theorem dX9_total_59 : decode cX9_total 59 = .ok (.i2l, 1) := by decide +kernel
theorem dX9_total_60 : decode cX9_total 60 = .ok (.lreturn, 1) := by decide +kernel
theorem dX9_total_61 : decode cX9_total 61 = .ok (.aload_n 0, 1) := by decide +kernel
theorem dX9_total_62 : decode cX9_total 62 = .ok (.iload_n 1, 1) := by decide +kernel
theorem dX9_total_63 : decode cX9_total 63 = .ok (.iload_n 2, 1) := by decide +kernel
theorem dX9_total_64 : decode cX9_total 64 = .ok (.iload_n 3, 1) := by decide +kernel
theorem dX9_total_65 : decode cX9_total 65 = .ok (.invokevirtual 492, 3) := by decide +kernel
theorem dX9_total_68 : decode cX9_total 68 = .ok (.iload 4, 2) := by decide +kernel
theorem dX9_total_70 : decode cX9_total 70 = .ok (.tableswitch 73 0 5 #[38, 44, 49, 55, 61, 67], 38) := by decide +kernel
theorem dX9_total_108 : decode cX9_total 108 = .ok (.aload_n 0, 1) := by decide +kernel
theorem dX9_total_109 : decode cX9_total 109 = .ok (.getfield 466, 3) := by decide +kernel
theorem dX9_total_112 : decode cX9_total 112 = .ok (.i2l, 1) := by decide +kernel
theorem dX9_total_113 : decode cX9_total 113 = .ok (.lreturn, 1) := by decide +kernel
theorem dX9_total_114 : decode cX9_total 114 = .ok (.aload_n 0, 1) := by decide +kernel
theorem dX9_total_115 : decode cX9_total 115 = .ok (.getfield 463, 3) := by decide +kernel
theorem dX9_total_118 : decode cX9_total 118 = .ok (.lreturn, 1) := by decide +kernel
theorem dX9_total_119 : decode cX9_total 119 = .ok (.aload_n 0, 1) := by decide +kernel
theorem dX9_total_120 : decode cX9_total 120 = .ok (.getfield 469, 3) := by decide +kernel
theorem dX9_total_123 : decode cX9_total 123 = .ok (.i2l, 1) := by decide +kernel
theorem dX9_total_124 : decode cX9_total 124 = .ok (.lreturn, 1) := by decide +kernel
theorem dX9_total_125 : decode cX9_total 125 = .ok (.aload_n 0, 1) := by decide +kernel
theorem dX9_total_126 : decode cX9_total 126 = .ok (.getfield 472, 3) := by decide +kernel
theorem dX9_total_129 : decode cX9_total 129 = .ok (.i2l, 1) := by decide +kernel
theorem dX9_total_130 : decode cX9_total 130 = .ok (.lreturn, 1) := by decide +kernel
theorem dX9_total_131 : decode cX9_total 131 = .ok (.aload_n 0, 1) := by decide +kernel
theorem dX9_total_132 : decode cX9_total 132 = .ok (.getfield 481, 3) := by decide +kernel
theorem dX9_total_135 : decode cX9_total 135 = .ok (.i2l, 1) := by decide +kernel
theorem dX9_total_136 : decode cX9_total 136 = .ok (.lreturn, 1) := by decide +kernel
theorem dX9_total_137 : decode cX9_total 137 = .ok (.aload_n 0, 1) := by decide +kernel
theorem dX9_total_138 : decode cX9_total 138 = .ok (.getfield 475, 3) := by decide +kernel
theorem dX9_total_141 : decode cX9_total 141 = .ok (.i2l, 1) := by decide +kernel
theorem dX9_total_142 : decode cX9_total 142 = .ok (.lreturn, 1) := by decide +kernel
theorem dX9_total_143 : decode cX9_total 143 = .ok (.aload_n 0, 1) := by decide +kernel
theorem dX9_total_144 : decode cX9_total 144 = .ok (.getfield 484, 3) := by decide +kernel
theorem dX9_total_147 : decode cX9_total 147 = .ok (.i2l, 1) := by decide +kernel
theorem dX9_total_148 : decode cX9_total 148 = .ok (.lreturn, 1) := by decide +kernel
theorem dX9_gap_0 : decode cX9_gap 0 = .ok (.aload_n 0, 1) := by decide +kernel
theorem dX9_gap_1 : decode cX9_gap 1 = .ok (.iconst 0, 1) := by decide +kernel
theorem dX9_gap_2 : decode cX9_gap 2 = .ok (.putfield 130, 3) := by decide +kernel
theorem dX9_gap_5 : decode cX9_gap 5 = .ok (.aload_n 0, 1) := by decide +kernel
theorem dX9_gap_6 : decode cX9_gap 6 = .ok (.iload_n 1, 1) := by decide +kernel
theorem dX9_gap_7 : decode cX9_gap 7 = .ok (.invokevirtual 448, 3) := by decide +kernel
theorem dX9_gap_10 : decode cX9_gap 10 = .ok (.ifCond .eq 11, 3) := by decide +kernel
theorem dX9_gap_13 : decode cX9_gap 13 = .ok (.aload_n 0, 1) := by decide +kernel
theorem dX9_gap_14 : decode cX9_gap 14 = .ok (.iload_n 2, 1) := by decide +kernel
theorem dX9_gap_15 : decode cX9_gap 15 = .ok (.invokevirtual 439, 3) := by decide +kernel
theorem dX9_gap_18 : decode cX9_gap 18 = .ok (.ifCond .ne 9, 3) := by decide +kernel
theorem dX9_gap_21 : decode cX9_gap 21 = .ok (.aload_n 0, 1) := by decide +kernel
theorem dX9_gap_22 : decode cX9_gap 22 = .ok (.iconst 1, 1) := by decide +kernel
theorem dX9_gap_23 : decode cX9_gap 23 = .ok (.invokevirtual 263, 3) := by decide +kernel
theorem dX9_gap_26 : decode cX9_gap 26 = .ok (.ireturn, 1) := by decide +kernel
theorem dX9_gap_27 : decode cX9_gap 27 = .ok (.aload_n 0, 1) := by decide +kernel
theorem dX9_gap_28 : decode cX9_gap 28 = .ok (.iload_n 1, 1) := by decide +kernel
theorem dX9_gap_29 : decode cX9_gap 29 = .ok (.iload_n 2, 1) := by decide +kernel
theorem dX9_gap_30 : decode cX9_gap 30 = .ok (.invokevirtual 433, 3) := by decide +kernel
theorem dX9_gap_33 : decode cX9_gap 33 = .ok (.istore 5, 2) := by decide +kernel
theorem dX9_gap_35 : decode cX9_gap 35 = .ok (.sipush (-20000), 3) := by decide +kernel
theorem dX9_gap_38 : decode cX9_gap 38 = .ok (.istore 6, 2) := by decide +kernel
theorem dX9_gap_40 : decode cX9_gap 40 = .ok (.iconst 0, 1) := by decide +kernel
theorem dX9_gap_41 : decode cX9_gap 41 = .ok (.istore 7, 2) := by decide +kernel
theorem dX9_gap_43 : decode cX9_gap 43 = .ok (.iconst 0, 1) := by decide +kernel
theorem dX9_gap_44 : decode cX9_gap 44 = .ok (.istore 8, 2) := by decide +kernel
theorem dX9_gap_46 : decode cX9_gap 46 = .ok (.aload_n 0, 1) := by decide +kernel
theorem dX9_gap_47 : decode cX9_gap 47 = .ok (.iload_n 1, 1) := by decide +kernel
theorem dX9_gap_48 : decode cX9_gap 48 = .ok (.iload_n 2, 1) := by decide +kernel
theorem dX9_gap_49 : decode cX9_gap 49 = .ok (.invokevirtual 436, 3) := by decide +kernel
theorem dX9_gap_52 : decode cX9_gap 52 = .ok (.istore 9, 2) := by decide +kernel
theorem dX9_gap_54 : decode cX9_gap 54 = .ok (.iload 9, 2) := by decide +kernel
theorem dX9_gap_56 : decode cX9_gap 56 = .ok (.iload 5, 2) := by decide +kernel
theorem dX9_gap_58 : decode cX9_gap 58 = .ok (.if_icmp .ge 78, 3) := by decide +kernel
theorem dX9_gap_61 : decode cX9_gap 61 = .ok (.aload_n 0, 1) := by decide +kernel
theorem dX9_gap_62 : decode cX9_gap 62 = .ok (.iload 9, 2) := by decide +kernel
theorem dX9_gap_64 : decode cX9_gap 64 = .ok (.invokevirtual 430, 3) := by decide +kernel
theorem dX9_gap_67 : decode cX9_gap 67 = .ok (.istore 9, 2) := by decide +kernel
theorem dX9_gap_69 : decode cX9_gap 69 = .ok (.iload 8, 2) := by decide +kernel
theorem dX9_gap_71 : decode cX9_gap 71 = .ok (.ifCond .eq 46, 3) := by decide +kernel
theorem dX9_gap_74 : decode cX9_gap 74 = .ok (.aload_n 0, 1) := by decide +kernel
theorem dX9_gap_75 : decode cX9_gap 75 = .ok (.getfield 418, 3) := by decide +kernel
theorem dX9_gap_78 : decode cX9_gap 78 = .ok (.iload 6, 2) := by decide +kernel
theorem dX9_gap_80 : decode cX9_gap 80 = .ok (.if_icmp .le 37, 3) := by decide +kernel
theorem dX9_gap_83 : decode cX9_gap 83 = .ok (.iload 7, 2) := by decide +kernel
theorem dX9_gap_85 : decode cX9_gap 85 = .ok (.iload_n 3, 1) := by decide +kernel
theorem dX9_gap_86 : decode cX9_gap 86 = .ok (.if_icmp .ne 28, 3) := by decide +kernel
theorem dX9_gap_89 : decode cX9_gap 89 = .ok (.iload 4, 2) := by decide +kernel
theorem dX9_gap_91 : decode cX9_gap 91 = .ok (.ifCond .eq 20, 3) := by decide +kernel
theorem dX9_gap_94 : decode cX9_gap 94 = .ok (.aload_n 0, 1) := by decide +kernel
theorem dX9_gap_95 : decode cX9_gap 95 = .ok (.getfield 418, 3) := by decide +kernel
theorem dX9_gap_98 : decode cX9_gap 98 = .ok (.iload 6, 2) := by decide +kernel
theorem dX9_gap_100 : decode cX9_gap 100 = .ok (.isub, 1) := by decide +kernel
theorem dX9_gap_101 : decode cX9_gap 101 = .ok (.aload_n 0, 1) := by decide +kernel
theorem dX9_gap_102 : decode cX9_gap 102 = .ok (.getfield 43, 3) := by decide +kernel
theorem dX9_gap_105 : decode cX9_gap 105 = .ok (.iload_n 2, 1) := by decide +kernel
theorem dX9_gap_106 : decode cX9_gap 106 = .ok (.iaload, 1) := by decide +kernel
theorem dX9_gap_107 : decode cX9_gap 107 = .ok (.idiv, 1) := by decide +kernel
theorem dX9_gap_108 : decode cX9_gap 108 = .ok (.goto 5, 3) := by decide +kernel
theorem dX9_gap_111 : decode cX9_gap 111 = .ok (.iload 6, 2) := by decide +kernel
theorem dX9_gap_113 : decode cX9_gap 113 = .ok (.ireturn, 1) := by decide +kernel
theorem dX9_gap_114 : decode cX9_gap 114 = .ok (.iinc 7 1, 3) := by decide +kernel
theorem dX9_gap_117 : decode cX9_gap 117 = .ok (.aload_n 0, 1) := by decide +kernel
theorem dX9_gap_118 : decode cX9_gap 118 = .ok (.getfield 418, 3) := by decide +kernel
theorem dX9_gap_121 : decode cX9_gap 121 = .ok (.aload_n 0, 1) := by decide +kernel
theorem dX9_gap_122 : decode cX9_gap 122 = .ok (.getfield 43, 3) := by decide +kernel
theorem dX9_gap_125 : decode cX9_gap 125 = .ok (.iload_n 2, 1) := by decide +kernel
theorem dX9_gap_126 : decode cX9_gap 126 = .ok (.iaload, 1) := by decide +kernel
theorem dX9_gap_127 : decode cX9_gap 127 = .ok (.iadd, 1) := by decide +kernel
theorem dX9_gap_128 : decode cX9_gap 128 = .ok (.istore 6, 2) := by decide +kernel
theorem dX9_gap_130 : decode cX9_gap 130 = .ok (.iconst 1, 1) := by decide +kernel
theorem dX9_gap_131 : decode cX9_gap 131 = .ok (.istore 8, 2) := by decide +kernel
theorem dX9_gap_133 : decode cX9_gap 133 = .ok (.goto (-79), 3) := by decide +kernel
theorem dX9_gap_136 : decode cX9_gap 136 = .ok (.iload_n 3, 1) := by decide +kernel
theorem dX9_gap_137 : decode cX9_gap 137 = .ok (.iconst (-1), 1) := by decide +kernel
theorem dX9_gap_138 : decode cX9_gap 138 = .ok (.if_icmp .ne 8, 3) := by decide +kernel
theorem dX9_gap_141 : decode cX9_gap 141 = .ok (.iload 7, 2) := by decide +kernel
theorem dX9_gap_143 : decode cX9_gap 143 = .ok (.goto 8, 3) := by decide +kernel
theorem dX9_gap_146 : decode cX9_gap 146 = .ok (.aload_n 0, 1) := by decide +kernel
theorem dX9_gap_147 : decode cX9_gap 147 = .ok (.iconst 1, 1) := by decide +kernel
theorem dX9_gap_148 : decode cX9_gap 148 = .ok (.invokevirtual 263, 3) := by decide +kernel
theorem dX9_gap_151 : decode cX9_gap 151 = .ok (.ireturn, 1) := by decide +kernel
theorem dX9_bar_0 : decode cX9_bar 0 = .ok (.aload_n 0, 1) := by decide +kernel
theorem dX9_bar_1 : decode cX9_bar 1 = .ok (.iconst 0, 1) := by decide +kernel
theorem dX9_bar_2 : decode cX9_bar 2 = .ok (.putfield 130, 3) := by decide +kernel
theorem dX9_bar_5 : decode cX9_bar 5 = .ok (.aload_n 0, 1) := by decide +kernel
theorem dX9_bar_6 : decode cX9_bar 6 = .ok (.iload_n 1, 1) := by decide +kernel
theorem dX9_bar_7 : decode cX9_bar 7 = .ok (.invokevirtual 448, 3) := by decide +kernel
theorem dX9_bar_10 : decode cX9_bar 10 = .ok (.ifCond .eq 16, 3) := by decide +kernel
theorem dX9_bar_13 : decode cX9_bar 13 = .ok (.iload 4, 2) := by decide +kernel
theorem dX9_bar_15 : decode cX9_bar 15 = .ok (.i2l, 1) := by decide +kernel
theorem dX9_bar_16 : decode cX9_bar 16 = .ok (.lconst 0, 1) := by decide +kernel
theorem dX9_bar_17 : decode cX9_bar 17 = .ok (.ldc2_w 495, 3) := by decide +kernel
theorem dX9_bar_20 : decode cX9_bar 20 = .ok (.invokestatic 210, 3) := by decide +kernel
theorem dX9_bar_23 : decode cX9_bar 23 = .ok (.ifCond .ne 10, 3) := by decide +kernel
theorem dX9_bar_26 : decode cX9_bar 26 = .ok (.aload_n 0, 1) := by decide +kernel
theorem dX9_bar_27 : decode cX9_bar 27 = .ok (.iconst 1, 1) := by decide +kernel
theorem dX9_bar_28 : decode cX9_bar 28 = .ok (.invokevirtual 263, 3) := by decide +kernel
theorem dX9_bar_31 : decode cX9_bar 31 = .ok (.i2l, 1) := by decide +kernel
theorem dX9_bar_32 : decode cX9_bar 32 = .ok (.lreturn, 1) := by decide +kernel
theorem dX9_bar_33 : decode cX9_bar 33 = .ok (.iload_n 2, 1) := by decide +kernel
theorem dX9_bar_34 : decode cX9_bar 34 = .ok (.i2l, 1) := by decide +kernel
theorem dX9_bar_35 : decode cX9_bar 35 = .ok (.lconst 1, 1) := by decide +kernel
theorem dX9_bar_36 : decode cX9_bar 36 = .ok (.ldc2_w 337, 3) := by decide +kernel
theorem dX9_bar_39 : decode cX9_bar 39 = .ok (.invokestatic 210, 3) := by decide +kernel
theorem dX9_bar_42 : decode cX9_bar 42 = .ok (.ifCond .eq 27, 3) := by decide +kernel
theorem dX9_bar_45 : decode cX9_bar 45 = .ok (.iload_n 2, 1) := by decide +kernel
theorem dX9_bar_46 : decode cX9_bar 46 = .ok (.aload_n 0, 1) := by decide +kernel
theorem dX9_bar_47 : decode cX9_bar 47 = .ok (.getfield 43, 3) := by decide +kernel
theorem dX9_bar_50 : decode cX9_bar 50 = .ok (.aload_n 0, 1) := by decide +kernel
theorem dX9_bar_51 : decode cX9_bar 51 = .ok (.getfield 127, 3) := by decide +kernel
theorem dX9_bar_54 : decode cX9_bar 54 = .ok (.iconst 1, 1) := by decide +kernel
theorem dX9_bar_55 : decode cX9_bar 55 = .ok (.isub, 1) := by decide +kernel
theorem dX9_bar_56 : decode cX9_bar 56 = .ok (.iaload, 1) := by decide +kernel
theorem dX9_bar_57 : decode cX9_bar 57 = .ok (.irem, 1) := by decide +kernel
theorem dX9_bar_58 : decode cX9_bar 58 = .ok (.ifCond .ne 11, 3) := by decide +kernel
theorem dX9_bar_61 : decode cX9_bar 61 = .ok (.iload_n 3, 1) := by decide +kernel
theorem dX9_bar_62 : decode cX9_bar 62 = .ok (.i2l, 1) := by decide +kernel
theorem dX9_bar_63 : decode cX9_bar 63 = .ok (.invokestatic 363, 3) := by decide +kernel
theorem dX9_bar_66 : decode cX9_bar 66 = .ok (.ifCond .ne 10, 3) := by decide +kernel
theorem dX9_bar_69 : decode cX9_bar 69 = .ok (.aload_n 0, 1) := by decide +kernel
theorem dX9_bar_70 : decode cX9_bar 70 = .ok (.iconst 2, 1) := by decide +kernel
theorem dX9_bar_71 : decode cX9_bar 71 = .ok (.invokevirtual 263, 3) := by decide +kernel
theorem dX9_bar_74 : decode cX9_bar 74 = .ok (.i2l, 1) := by decide +kernel
theorem dX9_bar_75 : decode cX9_bar 75 = .ok (.lreturn, 1) := by decide +kernel
theorem dX9_bar_76 : decode cX9_bar 76 = .ok (.iload_n 3, 1) := by decide +kernel
theorem dX9_bar_77 : decode cX9_bar 77 = .ok (.i2l, 1) := by decide +kernel
theorem dX9_bar_78 : decode cX9_bar 78 = .ok (.iload_n 2, 1) := by decide +kernel
theorem dX9_bar_79 : decode cX9_bar 79 = .ok (.invokestatic 281, 3) := by decide +kernel
theorem dX9_bar_82 : decode cX9_bar 82 = .ok (.istore 5, 2) := by decide +kernel
theorem dX9_bar_84 : decode cX9_bar 84 = .ok (.aload_n 0, 1) := by decide +kernel
theorem dX9_bar_85 : decode cX9_bar 85 = .ok (.invokevirtual 478, 3) := by decide +kernel
theorem dX9_bar_88 : decode cX9_bar 88 = .ok (.aload_n 0, 1) := by decide +kernel
theorem dX9_bar_89 : decode cX9_bar 89 = .ok (.iload_n 1, 1) := by decide +kernel
theorem dX9_bar_90 : decode cX9_bar 90 = .ok (.iload 5, 2) := by decide +kernel
theorem dX9_bar_92 : decode cX9_bar 92 = .ok (.i2l, 1) := by decide +kernel
theorem dX9_bar_93 : decode cX9_bar 93 = .ok (.iload_n 2, 1) := by decide +kernel
theorem dX9_bar_94 : decode cX9_bar 94 = .ok (.i2l, 1) := by decide +kernel
theorem dX9_bar_95 : decode cX9_bar 95 = .ok (.ladd, 1) := by decide +kernel
theorem dX9_bar_96 : decode cX9_bar 96 = .ok (.invokevirtual 290, 3) := by decide +kernel
theorem dX9_bar_99 : decode cX9_bar 99 = .ok (.istore 6, 2) := by decide +kernel
theorem dX9_bar_101 : decode cX9_bar 101 = .ok (.aload_n 0, 1) := by decide +kernel
theorem dX9_bar_102 : decode cX9_bar 102 = .ok (.iload_n 1, 1) := by decide +kernel
theorem dX9_bar_103 : decode cX9_bar 103 = .ok (.iload 5, 2) := by decide +kernel
theorem dX9_bar_105 : decode cX9_bar 105 = .ok (.i2l, 1) := by decide +kernel
theorem dX9_bar_106 : decode cX9_bar 106 = .ok (.invokevirtual 290, 3) := by decide +kernel
theorem dX9_bar_109 : decode cX9_bar 109 = .ok (.istore 7, 2) := by decide +kernel
theorem dX9_bar_111 : decode cX9_bar 111 = .ok (.iload 7, 2) := by decide +kernel
theorem dX9_bar_113 : decode cX9_bar 113 = .ok (.iload 6, 2) := by decide +kernel
theorem dX9_bar_115 : decode cX9_bar 115 = .ok (.if_icmp .ge 18, 3) := by decide +kernel
theorem dX9_bar_118 : decode cX9_bar 118 = .ok (.aload_n 0, 1) := by decide +kernel
theorem dX9_bar_119 : decode cX9_bar 119 = .ok (.iload 7, 2) := by decide +kernel
theorem dX9_bar_121 : decode cX9_bar 121 = .ok (.invokevirtual 430, 3) := by decide +kernel
theorem dX9_bar_124 : decode cX9_bar 124 = .ok (.istore 7, 2) := by decide +kernel
theorem dX9_bar_126 : decode cX9_bar 126 = .ok (.aload_n 0, 1) := by decide +kernel
theorem dX9_bar_127 : decode cX9_bar 127 = .ok (.invokevirtual 487, 3) := by decide +kernel
theorem dX9_bar_130 : decode cX9_bar 130 = .ok (.goto (-19), 3) := by decide +kernel
theorem dX9_bar_133 : decode cX9_bar 133 = .ok (.iload 4, 2) := by decide +kernel
theorem dX9_bar_135 : decode cX9_bar 135 = .ok (.ifCond .ne 11, 3) := by decide +kernel
theorem dX9_bar_138 : decode cX9_bar 138 = .ok (.aload_n 0, 1) := by decide +kernel
theorem dX9_bar_139 : decode cX9_bar 139 = .ok (.getfield 466, 3) := by decide +kernel
theorem dX9_bar_142 : decode cX9_bar 142 = .ok (.i2l, 1) := by decide +kernel
theorem dX9_bar_143 : decode cX9_bar 143 = .ok (.goto 35, 3) := by decide +kernel
theorem dX9_bar_146 : decode cX9_bar 146 = .ok (.iload 4, 2) := by decide +kernel
theorem dX9_bar_148 : decode cX9_bar 148 = .ok (.iconst 1, 1) := by decide +kernel
theorem dX9_bar_149 : decode cX9_bar 149 = .ok (.if_icmp .ne 10, 3) := by decide +kernel
theorem dX9_bar_152 : decode cX9_bar 152 = .ok (.aload_n 0, 1) := by decide +kernel
theorem dX9_bar_153 : decode cX9_bar 153 = .ok (.getfield 463, 3) := by decide +kernel
theorem dX9_bar_156 : decode cX9_bar 156 = .ok (.goto 22, 3) := by decide +kernel
theorem dX9_bar_159 : decode cX9_bar 159 = .ok (.iload 4, 2) := by decide +kernel
theorem dX9_bar_161 : decode cX9_bar 161 = .ok (.iconst 2, 1) := by decide +kernel
theorem dX9_bar_162 : decode cX9_bar 162 = .ok (.if_icmp .ne 11, 3) := by decide +kernel
theorem dX9_bar_165 : decode cX9_bar 165 = .ok (.aload_n 0, 1) := by decide +kernel
theorem dX9_bar_166 : decode cX9_bar 166 = .ok (.getfield 469, 3) := by decide +kernel
theorem dX9_bar_169 : decode cX9_bar 169 = .ok (.i2l, 1) := by decide +kernel
theorem dX9_bar_170 : decode cX9_bar 170 = .ok (.goto 8, 3) := by decide +kernel
theorem dX9_bar_173 : decode cX9_bar 173 = .ok (.aload_n 0, 1) := by decide +kernel
theorem dX9_bar_174 : decode cX9_bar 174 = .ok (.getfield 472, 3) := by decide +kernel
theorem dX9_bar_177 : decode cX9_bar 177 = .ok (.i2l, 1) := by decide +kernel
theorem dX9_bar_178 : decode cX9_bar 178 = .ok (.lreturn, 1) := by decide +kernel
theorem dX9_fieldNow_0 : decode cX9_fieldNow 0 = .ok (.iload_n 1, 1) := by decide +kernel
theorem dX9_fieldNow_1 : decode cX9_fieldNow 1 = .ok (.tableswitch 64 0 4 #[35, 41, 47, 52, 58], 35) := by decide +kernel
theorem dX9_fieldNow_36 : decode cX9_fieldNow 36 = .ok (.aload_n 0, 1) := by decide +kernel
theorem dX9_fieldNow_37 : decode cX9_fieldNow 37 = .ok (.getfield 426, 3) := by decide +kernel
theorem dX9_fieldNow_40 : decode cX9_fieldNow 40 = .ok (.i2l, 1) := by decide +kernel
theorem dX9_fieldNow_41 : decode cX9_fieldNow 41 = .ok (.lreturn, 1) := by decide +kernel
theorem dX9_fieldNow_42 : decode cX9_fieldNow 42 = .ok (.aload_n 0, 1) := by decide +kernel
theorem dX9_fieldNow_43 : decode cX9_fieldNow 43 = .ok (.getfield 428, 3) := by decide +kernel
theorem dX9_fieldNow_46 : decode cX9_fieldNow 46 = .ok (.i2l, 1) := by decide +kernel
theorem dX9_fieldNow_47 : decode cX9_fieldNow 47 = .ok (.lreturn, 1) := by decide +kernel
theorem dX9_fieldNow_48 : decode cX9_fieldNow 48 = .ok (.aload_n 0, 1) := by decide +kernel
theorem dX9_fieldNow_49 : decode cX9_fieldNow 49 = .ok (.getfield 423, 3) := by decide +kernel
theorem dX9_fieldNow_52 : decode cX9_fieldNow 52 = .ok (.lreturn, 1) := by decide +kernel
theorem dX9_fieldNow_53 : decode cX9_fieldNow 53 = .ok (.aload_n 0, 1) := by decide +kernel
theorem dX9_fieldNow_54 : decode cX9_fieldNow 54 = .ok (.getfield 421, 3) := by decide +kernel
theorem dX9_fieldNow_57 : decode cX9_fieldNow 57 = .ok (.i2l, 1) := by decide +kernel
theorem dX9_fieldNow_58 : decode cX9_fieldNow 58 = .ok (.lreturn, 1) := by decide +kernel
theorem dX9_fieldNow_59 : decode cX9_fieldNow 59 = .ok (.aload_n 0, 1) := by decide +kernel
theorem dX9_fieldNow_60 : decode cX9_fieldNow 60 = .ok (.invokevirtual 458, 3) := by decide +kernel
theorem dX9_fieldNow_63 : decode cX9_fieldNow 63 = .ok (.i2l, 1) := by decide +kernel
theorem dX9_fieldNow_64 : decode cX9_fieldNow 64 = .ok (.lreturn, 1) := by decide +kernel
theorem dX9_fieldNow_65 : decode cX9_fieldNow 65 = .ok (.aload_n 0, 1) := by decide +kernel
theorem dX9_fieldNow_66 : decode cX9_fieldNow 66 = .ok (.getfield 416, 3) := by decide +kernel
theorem dX9_fieldNow_69 : decode cX9_fieldNow 69 = .ok (.i2l, 1) := by decide +kernel
theorem dX9_fieldNow_70 : decode cX9_fieldNow 70 = .ok (.lreturn, 1) := by decide +kernel
theorem dX9_isAlarmed_0 : decode cX9_isAlarmed 0 = .ok (.iconst 0, 1) := by decide +kernel
theorem dX9_isAlarmed_1 : decode cX9_isAlarmed 1 = .ok (.istore_n 1, 1) := by decide +kernel
theorem dX9_isAlarmed_2 : decode cX9_isAlarmed 2 = .ok (.iconst 0, 1) := by decide +kernel
theorem dX9_isAlarmed_3 : decode cX9_isAlarmed 3 = .ok (.istore_n 2, 1) := by decide +kernel
theorem dX9_isAlarmed_4 : decode cX9_isAlarmed 4 = .ok (.iload_n 2, 1) := by decide +kernel
theorem dX9_isAlarmed_5 : decode cX9_isAlarmed 5 = .ok (.aload_n 0, 1) := by decide +kernel
theorem dX9_isAlarmed_6 : decode cX9_isAlarmed 6 = .ok (.getfield 275, 3) := by decide +kernel
theorem dX9_isAlarmed_9 : decode cX9_isAlarmed 9 = .ok (.if_icmp .ge 233, 3) := by decide +kernel
theorem dX9_isAlarmed_12 : decode cX9_isAlarmed 12 = .ok (.aload_n 0, 1) := by decide +kernel
theorem dX9_isAlarmed_13 : decode cX9_isAlarmed 13 = .ok (.getfield 50, 3) := by decide +kernel
theorem dX9_isAlarmed_16 : decode cX9_isAlarmed 16 = .ok (.iload_n 2, 1) := by decide +kernel
theorem dX9_isAlarmed_17 : decode cX9_isAlarmed 17 = .ok (.iaload, 1) := by decide +kernel
theorem dX9_isAlarmed_18 : decode cX9_isAlarmed 18 = .ok (.istore_n 3, 1) := by decide +kernel
theorem dX9_isAlarmed_19 : decode cX9_isAlarmed 19 = .ok (.iload_n 3, 1) := by decide +kernel
theorem dX9_isAlarmed_20 : decode cX9_isAlarmed 20 = .ok (.bipush 20, 2) := by decide +kernel
theorem dX9_isAlarmed_22 : decode cX9_isAlarmed 22 = .ok (.if_icmp .ne 33, 3) := by decide +kernel
theorem dX9_isAlarmed_25 : decode cX9_isAlarmed 25 = .ok (.aload_n 0, 1) := by decide +kernel
theorem dX9_isAlarmed_26 : decode cX9_isAlarmed 26 = .ok (.getfield 120, 3) := by decide +kernel
theorem dX9_isAlarmed_29 : decode cX9_isAlarmed 29 = .ok (.iload_n 1, 1) := by decide +kernel
theorem dX9_isAlarmed_30 : decode cX9_isAlarmed 30 = .ok (.iconst 1, 1) := by decide +kernel
theorem dX9_isAlarmed_31 : decode cX9_isAlarmed 31 = .ok (.isub, 1) := by decide +kernel
theorem dX9_isAlarmed_32 : decode cX9_isAlarmed 32 = .ok (.aload_n 0, 1) := by decide +kernel
theorem dX9_isAlarmed_33 : decode cX9_isAlarmed 33 = .ok (.getfield 120, 3) := by decide +kernel
theorem dX9_isAlarmed_36 : decode cX9_isAlarmed 36 = .ok (.iload_n 1, 1) := by decide +kernel
theorem dX9_isAlarmed_37 : decode cX9_isAlarmed 37 = .ok (.iconst 1, 1) := by decide +kernel
theorem dX9_isAlarmed_38 : decode cX9_isAlarmed 38 = .ok (.isub, 1) := by decide +kernel
theorem dX9_isAlarmed_39 : decode cX9_isAlarmed 39 = .ok (.baload, 1) := by decide +kernel
theorem dX9_isAlarmed_40 : decode cX9_isAlarmed 40 = .ok (.ifCond .ne 7, 3) := by decide +kernel
theorem dX9_isAlarmed_43 : decode cX9_isAlarmed 43 = .ok (.iconst 1, 1) := by decide +kernel
theorem dX9_isAlarmed_44 : decode cX9_isAlarmed 44 = .ok (.goto 4, 3) := by decide +kernel
theorem dX9_isAlarmed_47 : decode cX9_isAlarmed 47 = .ok (.iconst 0, 1) := by decide +kernel
theorem dX9_isAlarmed_48 : decode cX9_isAlarmed 48 = .ok (.bastore, 1) := by decide +kernel
theorem dX9_isAlarmed_49 : decode cX9_isAlarmed 49 = .ok (.iinc 2 1, 3) := by decide +kernel
theorem dX9_isAlarmed_52 : decode cX9_isAlarmed 52 = .ok (.goto 187, 3) := by decide +kernel
theorem dX9_isAlarmed_55 : decode cX9_isAlarmed 55 = .ok (.iload_n 3, 1) := by decide +kernel
theorem dX9_isAlarmed_56 : decode cX9_isAlarmed 56 = .ok (.bipush 21, 2) := by decide +kernel
theorem dX9_isAlarmed_58 : decode cX9_isAlarmed 58 = .ok (.if_icmp .eq 9, 3) := by decide +kernel
theorem dX9_isAlarmed_61 : decode cX9_isAlarmed 61 = .ok (.iload_n 3, 1) := by decide +kernel
theorem dX9_isAlarmed_62 : decode cX9_isAlarmed 62 = .ok (.bipush 22, 2) := by decide +kernel
theorem dX9_isAlarmed_64 : decode cX9_isAlarmed 64 = .ok (.if_icmp .ne 79, 3) := by decide +kernel
theorem dX9_isAlarmed_67 : decode cX9_isAlarmed 67 = .ok (.iinc 1 (-1), 3) := by decide +kernel
theorem dX9_isAlarmed_70 : decode cX9_isAlarmed 70 = .ok (.aload_n 0, 1) := by decide +kernel
theorem dX9_isAlarmed_71 : decode cX9_isAlarmed 71 = .ok (.getfield 120, 3) := by decide +kernel
theorem dX9_isAlarmed_74 : decode cX9_isAlarmed 74 = .ok (.iload_n 1, 1) := by decide +kernel
theorem dX9_isAlarmed_75 : decode cX9_isAlarmed 75 = .ok (.iconst 1, 1) := by decide +kernel
theorem dX9_isAlarmed_76 : decode cX9_isAlarmed 76 = .ok (.isub, 1) := by decide +kernel
theorem dX9_isAlarmed_77 : decode cX9_isAlarmed 77 = .ok (.iload_n 3, 1) := by decide +kernel
theorem dX9_isAlarmed_78 : decode cX9_isAlarmed 78 = .ok (.bipush 21, 2) := by decide +kernel
theorem dX9_isAlarmed_80 : decode cX9_isAlarmed 80 = .ok (.if_icmp .ne 31, 3) := by decide +kernel
theorem dX9_isAlarmed_83 : decode cX9_isAlarmed 83 = .ok (.aload_n 0, 1) := by decide +kernel
theorem dX9_isAlarmed_84 : decode cX9_isAlarmed 84 = .ok (.getfield 120, 3) := by decide +kernel
theorem dX9_isAlarmed_87 : decode cX9_isAlarmed 87 = .ok (.iload_n 1, 1) := by decide +kernel
theorem dX9_isAlarmed_88 : decode cX9_isAlarmed 88 = .ok (.iconst 1, 1) := by decide +kernel
theorem dX9_isAlarmed_89 : decode cX9_isAlarmed 89 = .ok (.isub, 1) := by decide +kernel
theorem dX9_isAlarmed_90 : decode cX9_isAlarmed 90 = .ok (.baload, 1) := by decide +kernel
theorem dX9_isAlarmed_91 : decode cX9_isAlarmed 91 = .ok (.ifCond .eq 16, 3) := by decide +kernel
theorem dX9_isAlarmed_94 : decode cX9_isAlarmed 94 = .ok (.aload_n 0, 1) := by decide +kernel
theorem dX9_isAlarmed_95 : decode cX9_isAlarmed 95 = .ok (.getfield 120, 3) := by decide +kernel
theorem dX9_isAlarmed_98 : decode cX9_isAlarmed 98 = .ok (.iload_n 1, 1) := by decide +kernel
theorem dX9_isAlarmed_99 : decode cX9_isAlarmed 99 = .ok (.baload, 1) := by decide +kernel
theorem dX9_isAlarmed_100 : decode cX9_isAlarmed 100 = .ok (.ifCond .eq 7, 3) := by decide +kernel
theorem dX9_isAlarmed_103 : decode cX9_isAlarmed 103 = .ok (.iconst 1, 1) := by decide +kernel
theorem dX9_isAlarmed_104 : decode cX9_isAlarmed 104 = .ok (.goto 32, 3) := by decide +kernel
theorem dX9_isAlarmed_107 : decode cX9_isAlarmed 107 = .ok (.iconst 0, 1) := by decide +kernel
theorem dX9_isAlarmed_108 : decode cX9_isAlarmed 108 = .ok (.goto 28, 3) := by decide +kernel
theorem dX9_isAlarmed_111 : decode cX9_isAlarmed 111 = .ok (.aload_n 0, 1) := by decide +kernel
theorem dX9_isAlarmed_112 : decode cX9_isAlarmed 112 = .ok (.getfield 120, 3) := by decide +kernel
theorem dX9_isAlarmed_115 : decode cX9_isAlarmed 115 = .ok (.iload_n 1, 1) := by decide +kernel
theorem dX9_isAlarmed_116 : decode cX9_isAlarmed 116 = .ok (.iconst 1, 1) := by decide +kernel
theorem dX9_isAlarmed_117 : decode cX9_isAlarmed 117 = .ok (.isub, 1) := by decide +kernel
theorem dX9_isAlarmed_118 : decode cX9_isAlarmed 118 = .ok (.baload, 1) := by decide +kernel
theorem dX9_isAlarmed_119 : decode cX9_isAlarmed 119 = .ok (.ifCond .ne 12, 3) := by decide +kernel
theorem dX9_isAlarmed_122 : decode cX9_isAlarmed 122 = .ok (.aload_n 0, 1) := by decide +kernel
theorem dX9_isAlarmed_123 : decode cX9_isAlarmed 123 = .ok (.getfield 120, 3) := by decide +kernel
theorem dX9_isAlarmed_126 : decode cX9_isAlarmed 126 = .ok (.iload_n 1, 1) := by decide +kernel
theorem dX9_isAlarmed_127 : decode cX9_isAlarmed 127 = .ok (.baload, 1) := by decide +kernel
theorem dX9_isAlarmed_128 : decode cX9_isAlarmed 128 = .ok (.ifCond .eq 7, 3) := by decide +kernel
theorem dX9_isAlarmed_131 : decode cX9_isAlarmed 131 = .ok (.iconst 1, 1) := by decide +kernel
theorem dX9_isAlarmed_132 : decode cX9_isAlarmed 132 = .ok (.goto 4, 3) := by decide +kernel
theorem dX9_isAlarmed_135 : decode cX9_isAlarmed 135 = .ok (.iconst 0, 1) := by decide +kernel
theorem dX9_isAlarmed_136 : decode cX9_isAlarmed 136 = .ok (.bastore, 1) := by decide +kernel
theorem dX9_isAlarmed_137 : decode cX9_isAlarmed 137 = .ok (.iinc 2 1, 3) := by decide +kernel
theorem dX9_isAlarmed_140 : decode cX9_isAlarmed 140 = .ok (.goto 99, 3) := by decide +kernel
theorem dX9_isAlarmed_143 : decode cX9_isAlarmed 143 = .ok (.aload_n 0, 1) := by decide +kernel
theorem dX9_isAlarmed_144 : decode cX9_isAlarmed 144 = .ok (.aload_n 0, 1) := by decide +kernel
theorem dX9_isAlarmed_145 : decode cX9_isAlarmed 145 = .ok (.getfield 50, 3) := by decide +kernel
theorem dX9_isAlarmed_148 : decode cX9_isAlarmed 148 = .ok (.iload_n 2, 1) := by decide +kernel
theorem dX9_isAlarmed_149 : decode cX9_isAlarmed 149 = .ok (.iconst 1, 1) := by decide +kernel
theorem dX9_isAlarmed_150 : decode cX9_isAlarmed 150 = .ok (.iadd, 1) := by decide +kernel
theorem dX9_isAlarmed_151 : decode cX9_isAlarmed 151 = .ok (.iaload, 1) := by decide +kernel
theorem dX9_isAlarmed_152 : decode cX9_isAlarmed 152 = .ok (.invokevirtual 497, 3) := by decide +kernel
theorem dX9_isAlarmed_155 : decode cX9_isAlarmed 155 = .ok (.lstore 4, 2) := by decide +kernel
theorem dX9_isAlarmed_157 : decode cX9_isAlarmed 157 = .ok (.aload_n 0, 1) := by decide +kernel
theorem dX9_isAlarmed_158 : decode cX9_isAlarmed 158 = .ok (.getfield 50, 3) := by decide +kernel
theorem dX9_isAlarmed_161 : decode cX9_isAlarmed 161 = .ok (.iload_n 2, 1) := by decide +kernel
theorem dX9_isAlarmed_162 : decode cX9_isAlarmed 162 = .ok (.iconst 2, 1) := by decide +kernel
theorem dX9_isAlarmed_163 : decode cX9_isAlarmed 163 = .ok (.iadd, 1) := by decide +kernel
theorem dX9_isAlarmed_164 : decode cX9_isAlarmed 164 = .ok (.iaload, 1) := by decide +kernel
theorem dX9_isAlarmed_165 : decode cX9_isAlarmed 165 = .ok (.istore 6, 2) := by decide +kernel
theorem dX9_isAlarmed_167 : decode cX9_isAlarmed 167 = .ok (.aload_n 0, 1) := by decide +kernel
theorem dX9_isAlarmed_168 : decode cX9_isAlarmed 168 = .ok (.getfield 120, 3) := by decide +kernel
theorem dX9_isAlarmed_171 : decode cX9_isAlarmed 171 = .ok (.iload_n 1, 1) := by decide +kernel
theorem dX9_isAlarmed_172 : decode cX9_isAlarmed 172 = .ok (.iload_n 3, 1) := by decide +kernel
theorem dX9_isAlarmed_173 : decode cX9_isAlarmed 173 = .ok (.bipush 10, 2) := by decide +kernel
theorem dX9_isAlarmed_175 : decode cX9_isAlarmed 175 = .ok (.if_icmp .ne 20, 3) := by decide +kernel
theorem dX9_isAlarmed_178 : decode cX9_isAlarmed 178 = .ok (.lload 4, 2) := by decide +kernel
theorem dX9_isAlarmed_180 : decode cX9_isAlarmed 180 = .ok (.iload 6, 2) := by decide +kernel
theorem dX9_isAlarmed_182 : decode cX9_isAlarmed 182 = .ok (.i2l, 1) := by decide +kernel
theorem dX9_isAlarmed_183 : decode cX9_isAlarmed 183 = .ok (.lcmp, 1) := by decide +kernel
theorem dX9_isAlarmed_184 : decode cX9_isAlarmed 184 = .ok (.ifCond .ge 7, 3) := by decide +kernel
theorem dX9_isAlarmed_187 : decode cX9_isAlarmed 187 = .ok (.iconst 1, 1) := by decide +kernel
theorem dX9_isAlarmed_188 : decode cX9_isAlarmed 188 = .ok (.goto 44, 3) := by decide +kernel
theorem dX9_isAlarmed_191 : decode cX9_isAlarmed 191 = .ok (.iconst 0, 1) := by decide +kernel
theorem dX9_isAlarmed_192 : decode cX9_isAlarmed 192 = .ok (.goto 40, 3) := by decide +kernel
theorem dX9_isAlarmed_195 : decode cX9_isAlarmed 195 = .ok (.iload_n 3, 1) := by decide +kernel
theorem dX9_isAlarmed_196 : decode cX9_isAlarmed 196 = .ok (.bipush 11, 2) := by decide +kernel
theorem dX9_isAlarmed_198 : decode cX9_isAlarmed 198 = .ok (.if_icmp .ne 20, 3) := by decide +kernel
theorem dX9_isAlarmed_201 : decode cX9_isAlarmed 201 = .ok (.lload 4, 2) := by decide +kernel
theorem dX9_isAlarmed_203 : decode cX9_isAlarmed 203 = .ok (.iload 6, 2) := by decide +kernel
theorem dX9_isAlarmed_205 : decode cX9_isAlarmed 205 = .ok (.i2l, 1) := by decide +kernel
theorem dX9_isAlarmed_206 : decode cX9_isAlarmed 206 = .ok (.lcmp, 1) := by decide +kernel
theorem dX9_isAlarmed_207 : decode cX9_isAlarmed 207 = .ok (.ifCond .ne 7, 3) := by decide +kernel
theorem dX9_isAlarmed_210 : decode cX9_isAlarmed 210 = .ok (.iconst 1, 1) := by decide +kernel
theorem dX9_isAlarmed_211 : decode cX9_isAlarmed 211 = .ok (.goto 21, 3) := by decide +kernel
theorem dX9_isAlarmed_214 : decode cX9_isAlarmed 214 = .ok (.iconst 0, 1) := by decide +kernel
theorem dX9_isAlarmed_215 : decode cX9_isAlarmed 215 = .ok (.goto 17, 3) := by decide +kernel
theorem dX9_isAlarmed_218 : decode cX9_isAlarmed 218 = .ok (.lload 4, 2) := by decide +kernel
theorem dX9_isAlarmed_220 : decode cX9_isAlarmed 220 = .ok (.iload 6, 2) := by decide +kernel
theorem dX9_isAlarmed_222 : decode cX9_isAlarmed 222 = .ok (.i2l, 1) := by decide +kernel
theorem dX9_isAlarmed_223 : decode cX9_isAlarmed 223 = .ok (.lcmp, 1) := by decide +kernel
theorem dX9_isAlarmed_224 : decode cX9_isAlarmed 224 = .ok (.ifCond .le 7, 3) := by decide +kernel
theorem dX9_isAlarmed_227 : decode cX9_isAlarmed 227 = .ok (.iconst 1, 1) := by decide +kernel
theorem dX9_isAlarmed_228 : decode cX9_isAlarmed 228 = .ok (.goto 4, 3) := by decide +kernel
theorem dX9_isAlarmed_231 : decode cX9_isAlarmed 231 = .ok (.iconst 0, 1) := by decide +kernel
theorem dX9_isAlarmed_232 : decode cX9_isAlarmed 232 = .ok (.bastore, 1) := by decide +kernel
theorem dX9_isAlarmed_233 : decode cX9_isAlarmed 233 = .ok (.iinc 1 1, 3) := by decide +kernel
theorem dX9_isAlarmed_236 : decode cX9_isAlarmed 236 = .ok (.iinc 2 3, 3) := by decide +kernel
theorem dX9_isAlarmed_239 : decode cX9_isAlarmed 239 = .ok (.goto (-235), 3) := by decide +kernel
theorem dX9_isAlarmed_242 : decode cX9_isAlarmed 242 = .ok (.aload_n 0, 1) := by decide +kernel
theorem dX9_isAlarmed_243 : decode cX9_isAlarmed 243 = .ok (.getfield 275, 3) := by decide +kernel
theorem dX9_isAlarmed_246 : decode cX9_isAlarmed 246 = .ok (.ifCond .le 16, 3) := by decide +kernel
theorem dX9_isAlarmed_249 : decode cX9_isAlarmed 249 = .ok (.aload_n 0, 1) := by decide +kernel
theorem dX9_isAlarmed_250 : decode cX9_isAlarmed 250 = .ok (.getfield 120, 3) := by decide +kernel
theorem dX9_isAlarmed_253 : decode cX9_isAlarmed 253 = .ok (.iconst 0, 1) := by decide +kernel
theorem dX9_isAlarmed_254 : decode cX9_isAlarmed 254 = .ok (.baload, 1) := by decide +kernel
theorem dX9_isAlarmed_255 : decode cX9_isAlarmed 255 = .ok (.ifCond .eq 7, 3) := by decide +kernel
theorem dX9_isAlarmed_258 : decode cX9_isAlarmed 258 = .ok (.iconst 1, 1) := by decide +kernel
theorem dX9_isAlarmed_259 : decode cX9_isAlarmed 259 = .ok (.goto 4, 3) := by decide +kernel
theorem dX9_isAlarmed_262 : decode cX9_isAlarmed 262 = .ok (.iconst 0, 1) := by decide +kernel
theorem dX9_isAlarmed_263 : decode cX9_isAlarmed 263 = .ok (.ireturn, 1) := by decide +kernel
theorem dX9_tellAlarms_0 : decode cX9_tellAlarms 0 = .ok (.aload_n 0, 1) := by decide +kernel
theorem dX9_tellAlarms_1 : decode cX9_tellAlarms 1 = .ok (.iconst 0, 1) := by decide +kernel
theorem dX9_tellAlarms_2 : decode cX9_tellAlarms 2 = .ok (.putfield 501, 3) := by decide +kernel
theorem dX9_tellAlarms_5 : decode cX9_tellAlarms 5 = .ok (.aload_n 0, 1) := by decide +kernel
theorem dX9_tellAlarms_6 : decode cX9_tellAlarms 6 = .ok (.sipush (-20000), 3) := by decide +kernel
theorem dX9_tellAlarms_9 : decode cX9_tellAlarms 9 = .ok (.putfield 504, 3) := by decide +kernel
theorem dX9_tellAlarms_12 : decode cX9_tellAlarms 12 = .ok (.aload_n 0, 1) := by decide +kernel
theorem dX9_tellAlarms_13 : decode cX9_tellAlarms 13 = .ok (.iconst 0, 1) := by decide +kernel
theorem dX9_tellAlarms_14 : decode cX9_tellAlarms 14 = .ok (.putfield 507, 3) := by decide +kernel
theorem dX9_tellAlarms_17 : decode cX9_tellAlarms 17 = .ok (.aload_n 0, 1) := by decide +kernel
theorem dX9_tellAlarms_18 : decode cX9_tellAlarms 18 = .ok (.sipush (-20000), 3) := by decide +kernel
theorem dX9_tellAlarms_21 : decode cX9_tellAlarms 21 = .ok (.putfield 510, 3) := by decide +kernel
theorem dX9_tellAlarms_24 : decode cX9_tellAlarms 24 = .ok (.aload_n 0, 1) := by decide +kernel
theorem dX9_tellAlarms_25 : decode cX9_tellAlarms 25 = .ok (.getfield 127, 3) := by decide +kernel
theorem dX9_tellAlarms_28 : decode cX9_tellAlarms 28 = .ok (.iconst 1, 1) := by decide +kernel
theorem dX9_tellAlarms_29 : decode cX9_tellAlarms 29 = .ok (.isub, 1) := by decide +kernel
theorem dX9_tellAlarms_30 : decode cX9_tellAlarms 30 = .ok (.istore_n 2, 1) := by decide +kernel
theorem dX9_tellAlarms_31 : decode cX9_tellAlarms 31 = .ok (.iload_n 2, 1) := by decide +kernel
theorem dX9_tellAlarms_32 : decode cX9_tellAlarms 32 = .ok (.ifCond .lt 175, 3) := by decide +kernel
theorem dX9_tellAlarms_35 : decode cX9_tellAlarms 35 = .ok (.aload_n 0, 1) := by decide +kernel
theorem dX9_tellAlarms_36 : decode cX9_tellAlarms 36 = .ok (.iload_n 1, 1) := by decide +kernel
theorem dX9_tellAlarms_37 : decode cX9_tellAlarms 37 = .ok (.iload_n 2, 1) := by decide +kernel
theorem dX9_tellAlarms_38 : decode cX9_tellAlarms 38 = .ok (.invokevirtual 433, 3) := by decide +kernel
theorem dX9_tellAlarms_41 : decode cX9_tellAlarms 41 = .ok (.istore_n 3, 1) := by decide +kernel
theorem dX9_tellAlarms_42 : decode cX9_tellAlarms 42 = .ok (.iconst 0, 1) := by decide +kernel
theorem dX9_tellAlarms_43 : decode cX9_tellAlarms 43 = .ok (.istore 4, 2) := by decide +kernel
theorem dX9_tellAlarms_45 : decode cX9_tellAlarms 45 = .ok (.sipush (-20000), 3) := by decide +kernel
theorem dX9_tellAlarms_48 : decode cX9_tellAlarms 48 = .ok (.istore 5, 2) := by decide +kernel
theorem dX9_tellAlarms_50 : decode cX9_tellAlarms 50 = .ok (.aload_n 0, 1) := by decide +kernel
theorem dX9_tellAlarms_51 : decode cX9_tellAlarms 51 = .ok (.iload_n 1, 1) := by decide +kernel
theorem dX9_tellAlarms_52 : decode cX9_tellAlarms 52 = .ok (.iload_n 2, 1) := by decide +kernel
theorem dX9_tellAlarms_53 : decode cX9_tellAlarms 53 = .ok (.invokevirtual 436, 3) := by decide +kernel
theorem dX9_tellAlarms_56 : decode cX9_tellAlarms 56 = .ok (.istore 6, 2) := by decide +kernel
theorem dX9_tellAlarms_58 : decode cX9_tellAlarms 58 = .ok (.iload 6, 2) := by decide +kernel
theorem dX9_tellAlarms_60 : decode cX9_tellAlarms 60 = .ok (.iload_n 3, 1) := by decide +kernel
theorem dX9_tellAlarms_61 : decode cX9_tellAlarms 61 = .ok (.if_icmp .ge 140, 3) := by decide +kernel
theorem dX9_tellAlarms_64 : decode cX9_tellAlarms 64 = .ok (.aload_n 0, 1) := by decide +kernel
theorem dX9_tellAlarms_65 : decode cX9_tellAlarms 65 = .ok (.iload 6, 2) := by decide +kernel
theorem dX9_tellAlarms_67 : decode cX9_tellAlarms 67 = .ok (.invokevirtual 430, 3) := by decide +kernel
theorem dX9_tellAlarms_70 : decode cX9_tellAlarms 70 = .ok (.istore 6, 2) := by decide +kernel
theorem dX9_tellAlarms_72 : decode cX9_tellAlarms 72 = .ok (.aload_n 0, 1) := by decide +kernel
theorem dX9_tellAlarms_73 : decode cX9_tellAlarms 73 = .ok (.invokevirtual 513, 3) := by decide +kernel
theorem dX9_tellAlarms_76 : decode cX9_tellAlarms 76 = .ok (.istore 7, 2) := by decide +kernel
theorem dX9_tellAlarms_78 : decode cX9_tellAlarms 78 = .ok (.iload 7, 2) := by decide +kernel
theorem dX9_tellAlarms_80 : decode cX9_tellAlarms 80 = .ok (.ifCond .ne 7, 3) := by decide +kernel
theorem dX9_tellAlarms_83 : decode cX9_tellAlarms 83 = .ok (.iconst 0, 1) := by decide +kernel
theorem dX9_tellAlarms_84 : decode cX9_tellAlarms 84 = .ok (.goto 25, 3) := by decide +kernel
theorem dX9_tellAlarms_87 : decode cX9_tellAlarms 87 = .ok (.iload 4, 2) := by decide +kernel
theorem dX9_tellAlarms_89 : decode cX9_tellAlarms 89 = .ok (.ifCond .le 19, 3) := by decide +kernel
theorem dX9_tellAlarms_92 : decode cX9_tellAlarms 92 = .ok (.aload_n 0, 1) := by decide +kernel
theorem dX9_tellAlarms_93 : decode cX9_tellAlarms 93 = .ok (.getfield 418, 3) := by decide +kernel
theorem dX9_tellAlarms_96 : decode cX9_tellAlarms 96 = .ok (.iload 5, 2) := by decide +kernel
theorem dX9_tellAlarms_98 : decode cX9_tellAlarms 98 = .ok (.if_icmp .ne 10, 3) := by decide +kernel
theorem dX9_tellAlarms_101 : decode cX9_tellAlarms 101 = .ok (.iload 4, 2) := by decide +kernel
theorem dX9_tellAlarms_103 : decode cX9_tellAlarms 103 = .ok (.iconst 1, 1) := by decide +kernel
theorem dX9_tellAlarms_104 : decode cX9_tellAlarms 104 = .ok (.iadd, 1) := by decide +kernel
theorem dX9_tellAlarms_105 : decode cX9_tellAlarms 105 = .ok (.goto 4, 3) := by decide +kernel
theorem dX9_tellAlarms_108 : decode cX9_tellAlarms 108 = .ok (.iconst 1, 1) := by decide +kernel
theorem dX9_tellAlarms_109 : decode cX9_tellAlarms 109 = .ok (.istore 4, 2) := by decide +kernel
theorem dX9_tellAlarms_111 : decode cX9_tellAlarms 111 = .ok (.aload_n 0, 1) := by decide +kernel
theorem dX9_tellAlarms_112 : decode cX9_tellAlarms 112 = .ok (.getfield 418, 3) := by decide +kernel
theorem dX9_tellAlarms_115 : decode cX9_tellAlarms 115 = .ok (.aload_n 0, 1) := by decide +kernel
theorem dX9_tellAlarms_116 : decode cX9_tellAlarms 116 = .ok (.getfield 43, 3) := by decide +kernel
theorem dX9_tellAlarms_119 : decode cX9_tellAlarms 119 = .ok (.iload_n 2, 1) := by decide +kernel
theorem dX9_tellAlarms_120 : decode cX9_tellAlarms 120 = .ok (.iaload, 1) := by decide +kernel
theorem dX9_tellAlarms_121 : decode cX9_tellAlarms 121 = .ok (.iadd, 1) := by decide +kernel
theorem dX9_tellAlarms_122 : decode cX9_tellAlarms 122 = .ok (.istore 5, 2) := by decide +kernel
theorem dX9_tellAlarms_124 : decode cX9_tellAlarms 124 = .ok (.iload 7, 2) := by decide +kernel
theorem dX9_tellAlarms_126 : decode cX9_tellAlarms 126 = .ok (.ifCond .ne 6, 3) := by decide +kernel
theorem dX9_tellAlarms_129 : decode cX9_tellAlarms 129 = .ok (.goto (-71), 3) := by decide +kernel
theorem dX9_tellAlarms_132 : decode cX9_tellAlarms 132 = .ok (.aload_n 0, 1) := by decide +kernel
theorem dX9_tellAlarms_133 : decode cX9_tellAlarms 133 = .ok (.aload_n 0, 1) := by decide +kernel
theorem dX9_tellAlarms_134 : decode cX9_tellAlarms 134 = .ok (.getfield 501, 3) := by decide +kernel
theorem dX9_tellAlarms_137 : decode cX9_tellAlarms 137 = .ok (.ifCond .ne 10, 3) := by decide +kernel
theorem dX9_tellAlarms_140 : decode cX9_tellAlarms 140 = .ok (.aload_n 0, 1) := by decide +kernel
theorem dX9_tellAlarms_141 : decode cX9_tellAlarms 141 = .ok (.getfield 418, 3) := by decide +kernel
theorem dX9_tellAlarms_144 : decode cX9_tellAlarms 144 = .ok (.goto 7, 3) := by decide +kernel
theorem dX9_tellAlarms_147 : decode cX9_tellAlarms 147 = .ok (.aload_n 0, 1) := by decide +kernel
theorem dX9_tellAlarms_148 : decode cX9_tellAlarms 148 = .ok (.getfield 504, 3) := by decide +kernel
theorem dX9_tellAlarms_151 : decode cX9_tellAlarms 151 = .ok (.putfield 504, 3) := by decide +kernel
theorem dX9_tellAlarms_154 : decode cX9_tellAlarms 154 = .ok (.aload_n 0, 1) := by decide +kernel
theorem dX9_tellAlarms_155 : decode cX9_tellAlarms 155 = .ok (.dup, 1) := by decide +kernel
theorem dX9_tellAlarms_156 : decode cX9_tellAlarms 156 = .ok (.getfield 501, 3) := by decide +kernel
theorem dX9_tellAlarms_159 : decode cX9_tellAlarms 159 = .ok (.iconst 1, 1) := by decide +kernel
theorem dX9_tellAlarms_160 : decode cX9_tellAlarms 160 = .ok (.iadd, 1) := by decide +kernel
theorem dX9_tellAlarms_161 : decode cX9_tellAlarms 161 = .ok (.putfield 501, 3) := by decide +kernel
theorem dX9_tellAlarms_164 : decode cX9_tellAlarms 164 = .ok (.iload 4, 2) := by decide +kernel
theorem dX9_tellAlarms_166 : decode cX9_tellAlarms 166 = .ok (.aload_n 0, 1) := by decide +kernel
theorem dX9_tellAlarms_167 : decode cX9_tellAlarms 167 = .ok (.getfield 507, 3) := by decide +kernel
theorem dX9_tellAlarms_170 : decode cX9_tellAlarms 170 = .ok (.if_icmp .gt 6, 3) := by decide +kernel
theorem dX9_tellAlarms_173 : decode cX9_tellAlarms 173 = .ok (.goto (-115), 3) := by decide +kernel
theorem dX9_tellAlarms_176 : decode cX9_tellAlarms 176 = .ok (.aload_n 0, 1) := by decide +kernel
theorem dX9_tellAlarms_177 : decode cX9_tellAlarms 177 = .ok (.iload 4, 2) := by decide +kernel
theorem dX9_tellAlarms_179 : decode cX9_tellAlarms 179 = .ok (.putfield 507, 3) := by decide +kernel
theorem dX9_tellAlarms_182 : decode cX9_tellAlarms 182 = .ok (.aload_n 0, 1) := by decide +kernel
theorem dX9_tellAlarms_183 : decode cX9_tellAlarms 183 = .ok (.iload 5, 2) := by decide +kernel
theorem dX9_tellAlarms_185 : decode cX9_tellAlarms 185 = .ok (.iload 4, 2) := by decide +kernel
theorem dX9_tellAlarms_187 : decode cX9_tellAlarms 187 = .ok (.aload_n 0, 1) := by decide +kernel
theorem dX9_tellAlarms_188 : decode cX9_tellAlarms 188 = .ok (.getfield 43, 3) := by decide +kernel
theorem dX9_tellAlarms_191 : decode cX9_tellAlarms 191 = .ok (.iload_n 2, 1) := by decide +kernel
theorem dX9_tellAlarms_192 : decode cX9_tellAlarms 192 = .ok (.iaload, 1) := by decide +kernel
theorem dX9_tellAlarms_193 : decode cX9_tellAlarms 193 = .ok (.imul, 1) := by decide +kernel
theorem dX9_tellAlarms_194 : decode cX9_tellAlarms 194 = .ok (.isub, 1) := by decide +kernel
theorem dX9_tellAlarms_195 : decode cX9_tellAlarms 195 = .ok (.putfield 510, 3) := by decide +kernel
theorem dX9_tellAlarms_198 : decode cX9_tellAlarms 198 = .ok (.goto (-140), 3) := by decide +kernel
theorem dX9_tellAlarms_201 : decode cX9_tellAlarms 201 = .ok (.iinc 2 (-1), 3) := by decide +kernel
theorem dX9_tellAlarms_204 : decode cX9_tellAlarms 204 = .ok (.goto (-173), 3) := by decide +kernel
theorem dX9_tellAlarms_207 : decode cX9_tellAlarms 207 = .ok (.return_, 1) := by decide +kernel
theorem dX9_alarms_0 : decode cX9_alarms 0 = .ok (.aload_n 0, 1) := by decide +kernel
theorem dX9_alarms_1 : decode cX9_alarms 1 = .ok (.iconst 0, 1) := by decide +kernel
theorem dX9_alarms_2 : decode cX9_alarms 2 = .ok (.putfield 130, 3) := by decide +kernel
theorem dX9_alarms_5 : decode cX9_alarms 5 = .ok (.aload_n 0, 1) := by decide +kernel
theorem dX9_alarms_6 : decode cX9_alarms 6 = .ok (.iload_n 1, 1) := by decide +kernel
theorem dX9_alarms_7 : decode cX9_alarms 7 = .ok (.invokevirtual 448, 3) := by decide +kernel
theorem dX9_alarms_10 : decode cX9_alarms 10 = .ok (.ifCond .eq 15, 3) := by decide +kernel
theorem dX9_alarms_13 : decode cX9_alarms 13 = .ok (.iload_n 2, 1) := by decide +kernel
theorem dX9_alarms_14 : decode cX9_alarms 14 = .ok (.i2l, 1) := by decide +kernel
theorem dX9_alarms_15 : decode cX9_alarms 15 = .ok (.lconst 0, 1) := by decide +kernel
theorem dX9_alarms_16 : decode cX9_alarms 16 = .ok (.ldc2_w 495, 3) := by decide +kernel
theorem dX9_alarms_19 : decode cX9_alarms 19 = .ok (.invokestatic 210, 3) := by decide +kernel
theorem dX9_alarms_22 : decode cX9_alarms 22 = .ok (.ifCond .ne 9, 3) := by decide +kernel
theorem dX9_alarms_25 : decode cX9_alarms 25 = .ok (.aload_n 0, 1) := by decide +kernel
theorem dX9_alarms_26 : decode cX9_alarms 26 = .ok (.iconst 1, 1) := by decide +kernel
theorem dX9_alarms_27 : decode cX9_alarms 27 = .ok (.invokevirtual 263, 3) := by decide +kernel
theorem dX9_alarms_30 : decode cX9_alarms 30 = .ok (.ireturn, 1) := by decide +kernel
theorem dX9_alarms_31 : decode cX9_alarms 31 = .ok (.aload_n 0, 1) := by decide +kernel
theorem dX9_alarms_32 : decode cX9_alarms 32 = .ok (.iload_n 1, 1) := by decide +kernel
theorem dX9_alarms_33 : decode cX9_alarms 33 = .ok (.invokevirtual 517, 3) := by decide +kernel
theorem dX9_alarms_36 : decode cX9_alarms 36 = .ok (.iload_n 2, 1) := by decide +kernel
theorem dX9_alarms_37 : decode cX9_alarms 37 = .ok (.ifCond .ne 10, 3) := by decide +kernel
theorem dX9_alarms_40 : decode cX9_alarms 40 = .ok (.aload_n 0, 1) := by decide +kernel
theorem dX9_alarms_41 : decode cX9_alarms 41 = .ok (.getfield 501, 3) := by decide +kernel
theorem dX9_alarms_44 : decode cX9_alarms 44 = .ok (.goto 31, 3) := by decide +kernel
theorem dX9_alarms_47 : decode cX9_alarms 47 = .ok (.iload_n 2, 1) := by decide +kernel
theorem dX9_alarms_48 : decode cX9_alarms 48 = .ok (.iconst 1, 1) := by decide +kernel
theorem dX9_alarms_49 : decode cX9_alarms 49 = .ok (.if_icmp .ne 10, 3) := by decide +kernel
theorem dX9_alarms_52 : decode cX9_alarms 52 = .ok (.aload_n 0, 1) := by decide +kernel
theorem dX9_alarms_53 : decode cX9_alarms 53 = .ok (.getfield 504, 3) := by decide +kernel
theorem dX9_alarms_56 : decode cX9_alarms 56 = .ok (.goto 19, 3) := by decide +kernel
theorem dX9_alarms_59 : decode cX9_alarms 59 = .ok (.iload_n 2, 1) := by decide +kernel
theorem dX9_alarms_60 : decode cX9_alarms 60 = .ok (.iconst 2, 1) := by decide +kernel
theorem dX9_alarms_61 : decode cX9_alarms 61 = .ok (.if_icmp .ne 10, 3) := by decide +kernel
theorem dX9_alarms_64 : decode cX9_alarms 64 = .ok (.aload_n 0, 1) := by decide +kernel
theorem dX9_alarms_65 : decode cX9_alarms 65 = .ok (.getfield 507, 3) := by decide +kernel
theorem dX9_alarms_68 : decode cX9_alarms 68 = .ok (.goto 7, 3) := by decide +kernel
theorem dX9_alarms_71 : decode cX9_alarms 71 = .ok (.aload_n 0, 1) := by decide +kernel
theorem dX9_alarms_72 : decode cX9_alarms 72 = .ok (.getfield 510, 3) := by decide +kernel
theorem dX9_alarms_75 : decode cX9_alarms 75 = .ok (.ireturn, 1) := by decide +kernel
theorem dX9_bucketsBy_0 : decode cX9_bucketsBy 0 = .ok (.iconst 0, 1) := by decide +kernel
theorem dX9_bucketsBy_1 : decode cX9_bucketsBy 1 = .ok (.istore_n 3, 1) := by decide +kernel
theorem dX9_bucketsBy_2 : decode cX9_bucketsBy 2 = .ok (.aload_n 0, 1) := by decide +kernel
theorem dX9_bucketsBy_3 : decode cX9_bucketsBy 3 = .ok (.iload_n 1, 1) := by decide +kernel
theorem dX9_bucketsBy_4 : decode cX9_bucketsBy 4 = .ok (.invokevirtual 303, 3) := by decide +kernel
theorem dX9_bucketsBy_7 : decode cX9_bucketsBy 7 = .ok (.istore 4, 2) := by decide +kernel
theorem dX9_bucketsBy_9 : decode cX9_bucketsBy 9 = .ok (.aload_n 0, 1) := by decide +kernel
theorem dX9_bucketsBy_10 : decode cX9_bucketsBy 10 = .ok (.iload_n 1, 1) := by decide +kernel
theorem dX9_bucketsBy_11 : decode cX9_bucketsBy 11 = .ok (.aload_n 0, 1) := by decide +kernel
theorem dX9_bucketsBy_12 : decode cX9_bucketsBy 12 = .ok (.iload_n 2, 1) := by decide +kernel
theorem dX9_bucketsBy_13 : decode cX9_bucketsBy 13 = .ok (.aload_n 0, 1) := by decide +kernel
theorem dX9_bucketsBy_14 : decode cX9_bucketsBy 14 = .ok (.getfield 127, 3) := by decide +kernel
theorem dX9_bucketsBy_17 : decode cX9_bucketsBy 17 = .ok (.iconst 1, 1) := by decide +kernel
theorem dX9_bucketsBy_18 : decode cX9_bucketsBy 18 = .ok (.isub, 1) := by decide +kernel
theorem dX9_bucketsBy_19 : decode cX9_bucketsBy 19 = .ok (.invokevirtual 285, 3) := by decide +kernel
theorem dX9_bucketsBy_22 : decode cX9_bucketsBy 22 = .ok (.i2l, 1) := by decide +kernel
theorem dX9_bucketsBy_23 : decode cX9_bucketsBy 23 = .ok (.invokevirtual 290, 3) := by decide +kernel
theorem dX9_bucketsBy_26 : decode cX9_bucketsBy 26 = .ok (.istore 5, 2) := by decide +kernel
theorem dX9_bucketsBy_28 : decode cX9_bucketsBy 28 = .ok (.iload 5, 2) := by decide +kernel
theorem dX9_bucketsBy_30 : decode cX9_bucketsBy 30 = .ok (.iload 4, 2) := by decide +kernel
theorem dX9_bucketsBy_32 : decode cX9_bucketsBy 32 = .ok (.if_icmp .ge 58, 3) := by decide +kernel
theorem dX9_bucketsBy_35 : decode cX9_bucketsBy 35 = .ok (.aload_n 0, 1) := by decide +kernel
theorem dX9_bucketsBy_36 : decode cX9_bucketsBy 36 = .ok (.iload_n 2, 1) := by decide +kernel
theorem dX9_bucketsBy_37 : decode cX9_bucketsBy 37 = .ok (.aload_n 0, 1) := by decide +kernel
theorem dX9_bucketsBy_38 : decode cX9_bucketsBy 38 = .ok (.getfield 75, 3) := by decide +kernel
theorem dX9_bucketsBy_41 : decode cX9_bucketsBy 41 = .ok (.iload 5, 2) := by decide +kernel
theorem dX9_bucketsBy_43 : decode cX9_bucketsBy 43 = .ok (.iaload, 1) := by decide +kernel
theorem dX9_bucketsBy_44 : decode cX9_bucketsBy 44 = .ok (.invokevirtual 386, 3) := by decide +kernel
theorem dX9_bucketsBy_47 : decode cX9_bucketsBy 47 = .ok (.istore 6, 2) := by decide +kernel
theorem dX9_bucketsBy_49 : decode cX9_bucketsBy 49 = .ok (.aload_n 0, 1) := by decide +kernel
theorem dX9_bucketsBy_50 : decode cX9_bucketsBy 50 = .ok (.iload_n 1, 1) := by decide +kernel
theorem dX9_bucketsBy_51 : decode cX9_bucketsBy 51 = .ok (.aload_n 0, 1) := by decide +kernel
theorem dX9_bucketsBy_52 : decode cX9_bucketsBy 52 = .ok (.getfield 75, 3) := by decide +kernel
theorem dX9_bucketsBy_55 : decode cX9_bucketsBy 55 = .ok (.iload 5, 2) := by decide +kernel
theorem dX9_bucketsBy_57 : decode cX9_bucketsBy 57 = .ok (.iaload, 1) := by decide +kernel
theorem dX9_bucketsBy_58 : decode cX9_bucketsBy 58 = .ok (.i2l, 1) := by decide +kernel
theorem dX9_bucketsBy_59 : decode cX9_bucketsBy 59 = .ok (.aload_n 0, 1) := by decide +kernel
theorem dX9_bucketsBy_60 : decode cX9_bucketsBy 60 = .ok (.getfield 43, 3) := by decide +kernel
theorem dX9_bucketsBy_63 : decode cX9_bucketsBy 63 = .ok (.iload 6, 2) := by decide +kernel
theorem dX9_bucketsBy_65 : decode cX9_bucketsBy 65 = .ok (.iaload, 1) := by decide +kernel
theorem dX9_bucketsBy_66 : decode cX9_bucketsBy 66 = .ok (.invokestatic 281, 3) := by decide +kernel
theorem dX9_bucketsBy_69 : decode cX9_bucketsBy 69 = .ok (.i2l, 1) := by decide +kernel
theorem dX9_bucketsBy_70 : decode cX9_bucketsBy 70 = .ok (.aload_n 0, 1) := by decide +kernel
theorem dX9_bucketsBy_71 : decode cX9_bucketsBy 71 = .ok (.getfield 43, 3) := by decide +kernel
theorem dX9_bucketsBy_74 : decode cX9_bucketsBy 74 = .ok (.iload 6, 2) := by decide +kernel
theorem dX9_bucketsBy_76 : decode cX9_bucketsBy 76 = .ok (.iaload, 1) := by decide +kernel
theorem dX9_bucketsBy_77 : decode cX9_bucketsBy 77 = .ok (.i2l, 1) := by decide +kernel
theorem dX9_bucketsBy_78 : decode cX9_bucketsBy 78 = .ok (.ladd, 1) := by decide +kernel
theorem dX9_bucketsBy_79 : decode cX9_bucketsBy 79 = .ok (.invokevirtual 290, 3) := by decide +kernel
theorem dX9_bucketsBy_82 : decode cX9_bucketsBy 82 = .ok (.istore 5, 2) := by decide +kernel
theorem dX9_bucketsBy_84 : decode cX9_bucketsBy 84 = .ok (.iinc 3 1, 3) := by decide +kernel
theorem dX9_bucketsBy_87 : decode cX9_bucketsBy 87 = .ok (.goto (-59), 3) := by decide +kernel
theorem dX9_bucketsBy_90 : decode cX9_bucketsBy 90 = .ok (.iload_n 3, 1) := by decide +kernel
theorem dX9_bucketsBy_91 : decode cX9_bucketsBy 91 = .ok (.ireturn, 1) := by decide +kernel
theorem dX9_movedBy_0 : decode cX9_movedBy 0 = .ok (.iconst 0, 1) := by decide +kernel
theorem dX9_movedBy_1 : decode cX9_movedBy 1 = .ok (.istore_n 3, 1) := by decide +kernel
theorem dX9_movedBy_2 : decode cX9_movedBy 2 = .ok (.aload_n 0, 1) := by decide +kernel
theorem dX9_movedBy_3 : decode cX9_movedBy 3 = .ok (.iload_n 1, 1) := by decide +kernel
theorem dX9_movedBy_4 : decode cX9_movedBy 4 = .ok (.invokevirtual 303, 3) := by decide +kernel
theorem dX9_movedBy_7 : decode cX9_movedBy 7 = .ok (.istore 4, 2) := by decide +kernel
theorem dX9_movedBy_9 : decode cX9_movedBy 9 = .ok (.aload_n 0, 1) := by decide +kernel
theorem dX9_movedBy_10 : decode cX9_movedBy 10 = .ok (.iload_n 1, 1) := by decide +kernel
theorem dX9_movedBy_11 : decode cX9_movedBy 11 = .ok (.invokevirtual 300, 3) := by decide +kernel
theorem dX9_movedBy_14 : decode cX9_movedBy 14 = .ok (.istore 5, 2) := by decide +kernel
theorem dX9_movedBy_16 : decode cX9_movedBy 16 = .ok (.iload 5, 2) := by decide +kernel
theorem dX9_movedBy_18 : decode cX9_movedBy 18 = .ok (.iload 4, 2) := by decide +kernel
theorem dX9_movedBy_20 : decode cX9_movedBy 20 = .ok (.if_icmp .ge 38, 3) := by decide +kernel
theorem dX9_movedBy_23 : decode cX9_movedBy 23 = .ok (.aload_n 0, 1) := by decide +kernel
theorem dX9_movedBy_24 : decode cX9_movedBy 24 = .ok (.iload 5, 2) := by decide +kernel
theorem dX9_movedBy_26 : decode cX9_movedBy 26 = .ok (.invokevirtual 430, 3) := by decide +kernel
theorem dX9_movedBy_29 : decode cX9_movedBy 29 = .ok (.istore 5, 2) := by decide +kernel
theorem dX9_movedBy_31 : decode cX9_movedBy 31 = .ok (.iload_n 3, 1) := by decide +kernel
theorem dX9_movedBy_32 : decode cX9_movedBy 32 = .ok (.aload_n 0, 1) := by decide +kernel
theorem dX9_movedBy_33 : decode cX9_movedBy 33 = .ok (.iload_n 2, 1) := by decide +kernel
theorem dX9_movedBy_34 : decode cX9_movedBy 34 = .ok (.aload_n 0, 1) := by decide +kernel
theorem dX9_movedBy_35 : decode cX9_movedBy 35 = .ok (.getfield 418, 3) := by decide +kernel
theorem dX9_movedBy_38 : decode cX9_movedBy 38 = .ok (.invokevirtual 386, 3) := by decide +kernel
theorem dX9_movedBy_41 : decode cX9_movedBy 41 = .ok (.aload_n 0, 1) := by decide +kernel
theorem dX9_movedBy_42 : decode cX9_movedBy 42 = .ok (.getfield 416, 3) := by decide +kernel
theorem dX9_movedBy_45 : decode cX9_movedBy 45 = .ok (.if_icmp .ne 7, 3) := by decide +kernel
theorem dX9_movedBy_48 : decode cX9_movedBy 48 = .ok (.iconst 0, 1) := by decide +kernel
theorem dX9_movedBy_49 : decode cX9_movedBy 49 = .ok (.goto 4, 3) := by decide +kernel
theorem dX9_movedBy_52 : decode cX9_movedBy 52 = .ok (.iconst 1, 1) := by decide +kernel
theorem dX9_movedBy_53 : decode cX9_movedBy 53 = .ok (.iadd, 1) := by decide +kernel
theorem dX9_movedBy_54 : decode cX9_movedBy 54 = .ok (.istore_n 3, 1) := by decide +kernel
theorem dX9_movedBy_55 : decode cX9_movedBy 55 = .ok (.goto (-39), 3) := by decide +kernel
theorem dX9_movedBy_58 : decode cX9_movedBy 58 = .ok (.iload_n 3, 1) := by decide +kernel
theorem dX9_movedBy_59 : decode cX9_movedBy 59 = .ok (.ireturn, 1) := by decide +kernel
theorem dX9_would_0 : decode cX9_would 0 = .ok (.aload_n 0, 1) := by decide +kernel
theorem dX9_would_1 : decode cX9_would 1 = .ok (.iconst 0, 1) := by decide +kernel
theorem dX9_would_2 : decode cX9_would 2 = .ok (.putfield 130, 3) := by decide +kernel
theorem dX9_would_5 : decode cX9_would 5 = .ok (.aload_n 0, 1) := by decide +kernel
theorem dX9_would_6 : decode cX9_would 6 = .ok (.iload_n 1, 1) := by decide +kernel
theorem dX9_would_7 : decode cX9_would 7 = .ok (.invokevirtual 448, 3) := by decide +kernel
theorem dX9_would_10 : decode cX9_would 10 = .ok (.ifCond .eq 15, 3) := by decide +kernel
theorem dX9_would_13 : decode cX9_would 13 = .ok (.iload_n 3, 1) := by decide +kernel
theorem dX9_would_14 : decode cX9_would 14 = .ok (.i2l, 1) := by decide +kernel
theorem dX9_would_15 : decode cX9_would 15 = .ok (.lconst 0, 1) := by decide +kernel
theorem dX9_would_16 : decode cX9_would 16 = .ok (.ldc2_w 461, 3) := by decide +kernel
theorem dX9_would_19 : decode cX9_would 19 = .ok (.invokestatic 210, 3) := by decide +kernel
theorem dX9_would_22 : decode cX9_would 22 = .ok (.ifCond .ne 9, 3) := by decide +kernel
theorem dX9_would_25 : decode cX9_would 25 = .ok (.aload_n 0, 1) := by decide +kernel
theorem dX9_would_26 : decode cX9_would 26 = .ok (.iconst 1, 1) := by decide +kernel
theorem dX9_would_27 : decode cX9_would 27 = .ok (.invokevirtual 263, 3) := by decide +kernel
theorem dX9_would_30 : decode cX9_would 30 = .ok (.ireturn, 1) := by decide +kernel
theorem dX9_would_31 : decode cX9_would 31 = .ok (.iload_n 2, 1) := by decide +kernel
theorem dX9_would_32 : decode cX9_would 32 = .ok (.i2l, 1) := by decide +kernel
theorem dX9_would_33 : decode cX9_would 33 = .ok (.invokestatic 363, 3) := by decide +kernel
theorem dX9_would_36 : decode cX9_would 36 = .ok (.ifCond .ne 9, 3) := by decide +kernel
theorem dX9_would_39 : decode cX9_would 39 = .ok (.aload_n 0, 1) := by decide +kernel
theorem dX9_would_40 : decode cX9_would 40 = .ok (.iconst 2, 1) := by decide +kernel
theorem dX9_would_41 : decode cX9_would 41 = .ok (.invokevirtual 263, 3) := by decide +kernel
theorem dX9_would_44 : decode cX9_would 44 = .ok (.ireturn, 1) := by decide +kernel
theorem dX9_would_45 : decode cX9_would 45 = .ok (.aload_n 0, 1) := by decide +kernel
theorem dX9_would_46 : decode cX9_would 46 = .ok (.getfield 60, 3) := by decide +kernel
theorem dX9_would_49 : decode cX9_would 49 = .ok (.iload_n 1, 1) := by decide +kernel
theorem dX9_would_50 : decode cX9_would 50 = .ok (.iaload, 1) := by decide +kernel
theorem dX9_would_51 : decode cX9_would 51 = .ok (.iload_n 2, 1) := by decide +kernel
theorem dX9_would_52 : decode cX9_would 52 = .ok (.invokestatic 321, 3) := by decide +kernel
theorem dX9_would_55 : decode cX9_would 55 = .ok (.istore 4, 2) := by decide +kernel
theorem dX9_would_57 : decode cX9_would 57 = .ok (.iload_n 3, 1) := by decide +kernel
theorem dX9_would_58 : decode cX9_would 58 = .ok (.ifCond .ne 13, 3) := by decide +kernel
theorem dX9_would_61 : decode cX9_would 61 = .ok (.aload_n 0, 1) := by decide +kernel
theorem dX9_would_62 : decode cX9_would 62 = .ok (.iload_n 1, 1) := by decide +kernel
theorem dX9_would_63 : decode cX9_would 63 = .ok (.iload 4, 2) := by decide +kernel
theorem dX9_would_65 : decode cX9_would 65 = .ok (.invokevirtual 520, 3) := by decide +kernel
theorem dX9_would_68 : decode cX9_would 68 = .ok (.goto 42, 3) := by decide +kernel
theorem dX9_would_71 : decode cX9_would 71 = .ok (.iload_n 3, 1) := by decide +kernel
theorem dX9_would_72 : decode cX9_would 72 = .ok (.iconst 1, 1) := by decide +kernel
theorem dX9_would_73 : decode cX9_would 73 = .ok (.if_icmp .ne 30, 3) := by decide +kernel
theorem dX9_would_76 : decode cX9_would 76 = .ok (.aload_n 0, 1) := by decide +kernel
theorem dX9_would_77 : decode cX9_would 77 = .ok (.iload_n 1, 1) := by decide +kernel
theorem dX9_would_78 : decode cX9_would 78 = .ok (.aload_n 0, 1) := by decide +kernel
theorem dX9_would_79 : decode cX9_would 79 = .ok (.iload 4, 2) := by decide +kernel
theorem dX9_would_81 : decode cX9_would 81 = .ok (.aload_n 0, 1) := by decide +kernel
theorem dX9_would_82 : decode cX9_would 82 = .ok (.getfield 127, 3) := by decide +kernel
theorem dX9_would_85 : decode cX9_would 85 = .ok (.iconst 1, 1) := by decide +kernel
theorem dX9_would_86 : decode cX9_would 86 = .ok (.isub, 1) := by decide +kernel
theorem dX9_would_87 : decode cX9_would 87 = .ok (.invokevirtual 285, 3) := by decide +kernel
theorem dX9_would_90 : decode cX9_would 90 = .ok (.i2l, 1) := by decide +kernel
theorem dX9_would_91 : decode cX9_would 91 = .ok (.invokevirtual 290, 3) := by decide +kernel
theorem dX9_would_94 : decode cX9_would 94 = .ok (.aload_n 0, 1) := by decide +kernel
theorem dX9_would_95 : decode cX9_would 95 = .ok (.iload_n 1, 1) := by decide +kernel
theorem dX9_would_96 : decode cX9_would 96 = .ok (.invokevirtual 300, 3) := by decide +kernel
theorem dX9_would_99 : decode cX9_would 99 = .ok (.isub, 1) := by decide +kernel
theorem dX9_would_100 : decode cX9_would 100 = .ok (.goto 10, 3) := by decide +kernel
theorem dX9_would_103 : decode cX9_would 103 = .ok (.aload_n 0, 1) := by decide +kernel
theorem dX9_would_104 : decode cX9_would 104 = .ok (.iload_n 1, 1) := by decide +kernel
theorem dX9_would_105 : decode cX9_would 105 = .ok (.iload 4, 2) := by decide +kernel
theorem dX9_would_107 : decode cX9_would 107 = .ok (.invokevirtual 523, 3) := by decide +kernel
theorem dX9_would_110 : decode cX9_would 110 = .ok (.ireturn, 1) := by decide +kernel
theorem dX9_until_0 : decode cX9_until 0 = .ok (.aload_n 0, 1) := by decide +kernel
theorem dX9_until_1 : decode cX9_until 1 = .ok (.iconst 0, 1) := by decide +kernel
theorem dX9_until_2 : decode cX9_until 2 = .ok (.putfield 130, 3) := by decide +kernel
theorem dX9_until_5 : decode cX9_until 5 = .ok (.aload_n 0, 1) := by decide +kernel
theorem dX9_until_6 : decode cX9_until 6 = .ok (.iload_n 1, 1) := by decide +kernel
theorem dX9_until_7 : decode cX9_until 7 = .ok (.invokevirtual 448, 3) := by decide +kernel
theorem dX9_until_10 : decode cX9_until 10 = .ok (.ifCond .eq 11, 3) := by decide +kernel
theorem dX9_until_13 : decode cX9_until 13 = .ok (.aload_n 0, 1) := by decide +kernel
theorem dX9_until_14 : decode cX9_until 14 = .ok (.iload_n 2, 1) := by decide +kernel
theorem dX9_until_15 : decode cX9_until 15 = .ok (.invokevirtual 439, 3) := by decide +kernel
theorem dX9_until_18 : decode cX9_until 18 = .ok (.ifCond .ne 9, 3) := by decide +kernel
theorem dX9_until_21 : decode cX9_until 21 = .ok (.aload_n 0, 1) := by decide +kernel
theorem dX9_until_22 : decode cX9_until 22 = .ok (.iconst 1, 1) := by decide +kernel
theorem dX9_until_23 : decode cX9_until 23 = .ok (.invokevirtual 263, 3) := by decide +kernel
theorem dX9_until_26 : decode cX9_until 26 = .ok (.ireturn, 1) := by decide +kernel
theorem dX9_until_27 : decode cX9_until 27 = .ok (.iload_n 3, 1) := by decide +kernel
theorem dX9_until_28 : decode cX9_until 28 = .ok (.i2l, 1) := by decide +kernel
theorem dX9_until_29 : decode cX9_until 29 = .ok (.invokestatic 363, 3) := by decide +kernel
theorem dX9_until_32 : decode cX9_until 32 = .ok (.ifCond .ne 9, 3) := by decide +kernel
theorem dX9_until_35 : decode cX9_until 35 = .ok (.aload_n 0, 1) := by decide +kernel
theorem dX9_until_36 : decode cX9_until 36 = .ok (.iconst 2, 1) := by decide +kernel
theorem dX9_until_37 : decode cX9_until 37 = .ok (.invokevirtual 263, 3) := by decide +kernel
theorem dX9_until_40 : decode cX9_until 40 = .ok (.ireturn, 1) := by decide +kernel
theorem dX9_until_41 : decode cX9_until 41 = .ok (.aload_n 0, 1) := by decide +kernel
theorem dX9_until_42 : decode cX9_until 42 = .ok (.getfield 60, 3) := by decide +kernel
theorem dX9_until_45 : decode cX9_until 45 = .ok (.iload_n 1, 1) := by decide +kernel
theorem dX9_until_46 : decode cX9_until 46 = .ok (.iaload, 1) := by decide +kernel
theorem dX9_until_47 : decode cX9_until 47 = .ok (.istore 4, 2) := by decide +kernel
theorem dX9_until_49 : decode cX9_until 49 = .ok (.ldc_w 526, 3) := by decide +kernel
theorem dX9_until_52 : decode cX9_until 52 = .ok (.istore 5, 2) := by decide +kernel
theorem dX9_until_54 : decode cX9_until 54 = .ok (.iload 4, 2) := by decide +kernel
theorem dX9_until_56 : decode cX9_until 56 = .ok (.iload 5, 2) := by decide +kernel
theorem dX9_until_58 : decode cX9_until 58 = .ok (.if_icmp .ge 42, 3) := by decide +kernel
theorem dX9_until_61 : decode cX9_until 61 = .ok (.iload 4, 2) := by decide +kernel
theorem dX9_until_63 : decode cX9_until 63 = .ok (.iload 5, 2) := by decide +kernel
theorem dX9_until_65 : decode cX9_until 65 = .ok (.iload 4, 2) := by decide +kernel
theorem dX9_until_67 : decode cX9_until 67 = .ok (.isub, 1) := by decide +kernel
theorem dX9_until_68 : decode cX9_until 68 = .ok (.iconst 2, 1) := by decide +kernel
theorem dX9_until_69 : decode cX9_until 69 = .ok (.idiv, 1) := by decide +kernel
theorem dX9_until_70 : decode cX9_until 70 = .ok (.iadd, 1) := by decide +kernel
theorem dX9_until_71 : decode cX9_until 71 = .ok (.istore 6, 2) := by decide +kernel
theorem dX9_until_73 : decode cX9_until 73 = .ok (.iload_n 3, 1) := by decide +kernel
theorem dX9_until_74 : decode cX9_until 74 = .ok (.aload_n 0, 1) := by decide +kernel
theorem dX9_until_75 : decode cX9_until 75 = .ok (.iload 6, 2) := by decide +kernel
theorem dX9_until_77 : decode cX9_until 77 = .ok (.iload_n 2, 1) := by decide +kernel
theorem dX9_until_78 : decode cX9_until 78 = .ok (.invokevirtual 285, 3) := by decide +kernel
theorem dX9_until_81 : decode cX9_until 81 = .ok (.if_icmp .ge 10, 3) := by decide +kernel
theorem dX9_until_84 : decode cX9_until 84 = .ok (.iload 6, 2) := by decide +kernel
theorem dX9_until_86 : decode cX9_until 86 = .ok (.istore 5, 2) := by decide +kernel
theorem dX9_until_88 : decode cX9_until 88 = .ok (.goto 9, 3) := by decide +kernel
theorem dX9_until_91 : decode cX9_until 91 = .ok (.iload 6, 2) := by decide +kernel
theorem dX9_until_93 : decode cX9_until 93 = .ok (.iconst 1, 1) := by decide +kernel
theorem dX9_until_94 : decode cX9_until 94 = .ok (.iadd, 1) := by decide +kernel
theorem dX9_until_95 : decode cX9_until 95 = .ok (.istore 4, 2) := by decide +kernel
theorem dX9_until_97 : decode cX9_until 97 = .ok (.goto (-43), 3) := by decide +kernel
theorem dX9_until_100 : decode cX9_until 100 = .ok (.iload 4, 2) := by decide +kernel
theorem dX9_until_102 : decode cX9_until 102 = .ok (.ldc_w 395, 3) := by decide +kernel
theorem dX9_until_105 : decode cX9_until 105 = .ok (.if_icmp .le 7, 3) := by decide +kernel
theorem dX9_until_108 : decode cX9_until 108 = .ok (.iconst (-1), 1) := by decide +kernel
theorem dX9_until_109 : decode cX9_until 109 = .ok (.goto 5, 3) := by decide +kernel
theorem dX9_until_112 : decode cX9_until 112 = .ok (.iload 4, 2) := by decide +kernel
theorem dX9_until_114 : decode cX9_until 114 = .ok (.ireturn, 1) := by decide +kernel
theorem dX9_trend_0 : decode cX9_trend 0 = .ok (.aload_n 0, 1) := by decide +kernel
theorem dX9_trend_1 : decode cX9_trend 1 = .ok (.iconst 0, 1) := by decide +kernel
theorem dX9_trend_2 : decode cX9_trend 2 = .ok (.putfield 130, 3) := by decide +kernel
theorem dX9_trend_5 : decode cX9_trend 5 = .ok (.aload_n 0, 1) := by decide +kernel
theorem dX9_trend_6 : decode cX9_trend 6 = .ok (.iload_n 1, 1) := by decide +kernel
theorem dX9_trend_7 : decode cX9_trend 7 = .ok (.invokevirtual 448, 3) := by decide +kernel
theorem dX9_trend_10 : decode cX9_trend 10 = .ok (.ifCond .eq 23, 3) := by decide +kernel
theorem dX9_trend_13 : decode cX9_trend 13 = .ok (.aload_n 0, 1) := by decide +kernel
theorem dX9_trend_14 : decode cX9_trend 14 = .ok (.iload_n 2, 1) := by decide +kernel
theorem dX9_trend_15 : decode cX9_trend 15 = .ok (.invokevirtual 439, 3) := by decide +kernel
theorem dX9_trend_18 : decode cX9_trend 18 = .ok (.ifCond .eq 15, 3) := by decide +kernel
theorem dX9_trend_21 : decode cX9_trend 21 = .ok (.iload_n 3, 1) := by decide +kernel
theorem dX9_trend_22 : decode cX9_trend 22 = .ok (.i2l, 1) := by decide +kernel
theorem dX9_trend_23 : decode cX9_trend 23 = .ok (.lconst 0, 1) := by decide +kernel
theorem dX9_trend_24 : decode cX9_trend 24 = .ok (.ldc2_w 495, 3) := by decide +kernel
theorem dX9_trend_27 : decode cX9_trend 27 = .ok (.invokestatic 210, 3) := by decide +kernel
theorem dX9_trend_30 : decode cX9_trend 30 = .ok (.ifCond .ne 10, 3) := by decide +kernel
theorem dX9_trend_33 : decode cX9_trend 33 = .ok (.aload_n 0, 1) := by decide +kernel
theorem dX9_trend_34 : decode cX9_trend 34 = .ok (.iconst 1, 1) := by decide +kernel
theorem dX9_trend_35 : decode cX9_trend 35 = .ok (.invokevirtual 263, 3) := by decide +kernel
theorem dX9_trend_38 : decode cX9_trend 38 = .ok (.i2l, 1) := by decide +kernel
theorem dX9_trend_39 : decode cX9_trend 39 = .ok (.lreturn, 1) := by decide +kernel
theorem dX9_trend_40 : decode cX9_trend 40 = .ok (.iconst 0, 1) := by decide +kernel
theorem dX9_trend_41 : decode cX9_trend 41 = .ok (.istore 4, 2) := by decide +kernel
theorem dX9_trend_43 : decode cX9_trend 43 = .ok (.iconst 0, 1) := by decide +kernel
theorem dX9_trend_44 : decode cX9_trend 44 = .ok (.istore 5, 2) := by decide +kernel
theorem dX9_trend_46 : decode cX9_trend 46 = .ok (.iconst 0, 1) := by decide +kernel
theorem dX9_trend_47 : decode cX9_trend 47 = .ok (.istore 6, 2) := by decide +kernel
theorem dX9_trend_49 : decode cX9_trend 49 = .ok (.sipush (-20000), 3) := by decide +kernel
theorem dX9_trend_52 : decode cX9_trend 52 = .ok (.istore 7, 2) := by decide +kernel
theorem dX9_trend_54 : decode cX9_trend 54 = .ok (.aload_n 0, 1) := by decide +kernel
theorem dX9_trend_55 : decode cX9_trend 55 = .ok (.iload_n 1, 1) := by decide +kernel
theorem dX9_trend_56 : decode cX9_trend 56 = .ok (.iload_n 2, 1) := by decide +kernel
theorem dX9_trend_57 : decode cX9_trend 57 = .ok (.invokevirtual 433, 3) := by decide +kernel
theorem dX9_trend_60 : decode cX9_trend 60 = .ok (.istore 8, 2) := by decide +kernel
theorem dX9_trend_62 : decode cX9_trend 62 = .ok (.aload_n 0, 1) := by decide +kernel
theorem dX9_trend_63 : decode cX9_trend 63 = .ok (.iload_n 1, 1) := by decide +kernel
theorem dX9_trend_64 : decode cX9_trend 64 = .ok (.iload_n 2, 1) := by decide +kernel
theorem dX9_trend_65 : decode cX9_trend 65 = .ok (.invokevirtual 436, 3) := by decide +kernel
theorem dX9_trend_68 : decode cX9_trend 68 = .ok (.istore 9, 2) := by decide +kernel
theorem dX9_trend_70 : decode cX9_trend 70 = .ok (.sipush (-20000), 3) := by decide +kernel
theorem dX9_trend_73 : decode cX9_trend 73 = .ok (.istore 10, 2) := by decide +kernel
theorem dX9_trend_75 : decode cX9_trend 75 = .ok (.iload 9, 2) := by decide +kernel
theorem dX9_trend_77 : decode cX9_trend 77 = .ok (.iload 8, 2) := by decide +kernel
theorem dX9_trend_79 : decode cX9_trend 79 = .ok (.if_icmp .ge 88, 3) := by decide +kernel
theorem dX9_trend_82 : decode cX9_trend 82 = .ok (.aload_n 0, 1) := by decide +kernel
theorem dX9_trend_83 : decode cX9_trend 83 = .ok (.iload 9, 2) := by decide +kernel
theorem dX9_trend_85 : decode cX9_trend 85 = .ok (.invokevirtual 430, 3) := by decide +kernel
theorem dX9_trend_88 : decode cX9_trend 88 = .ok (.istore 9, 2) := by decide +kernel
theorem dX9_trend_90 : decode cX9_trend 90 = .ok (.iload 10, 2) := by decide +kernel
theorem dX9_trend_92 : decode cX9_trend 92 = .ok (.sipush (-20000), 3) := by decide +kernel
theorem dX9_trend_95 : decode cX9_trend 95 = .ok (.if_icmp .ne 7, 3) := by decide +kernel
theorem dX9_trend_98 : decode cX9_trend 98 = .ok (.iconst 0, 1) := by decide +kernel
theorem dX9_trend_99 : decode cX9_trend 99 = .ok (.goto 10, 3) := by decide +kernel
theorem dX9_trend_102 : decode cX9_trend 102 = .ok (.aload_n 0, 1) := by decide +kernel
theorem dX9_trend_103 : decode cX9_trend 103 = .ok (.invokevirtual 458, 3) := by decide +kernel
theorem dX9_trend_106 : decode cX9_trend 106 = .ok (.iload 10, 2) := by decide +kernel
theorem dX9_trend_108 : decode cX9_trend 108 = .ok (.isub, 1) := by decide +kernel
theorem dX9_trend_109 : decode cX9_trend 109 = .ok (.istore 11, 2) := by decide +kernel
theorem dX9_trend_111 : decode cX9_trend 111 = .ok (.iload 4, 2) := by decide +kernel
theorem dX9_trend_113 : decode cX9_trend 113 = .ok (.iload 11, 2) := by decide +kernel
theorem dX9_trend_115 : decode cX9_trend 115 = .ok (.ifCond .le 7, 3) := by decide +kernel
theorem dX9_trend_118 : decode cX9_trend 118 = .ok (.iconst 1, 1) := by decide +kernel
theorem dX9_trend_119 : decode cX9_trend 119 = .ok (.goto 4, 3) := by decide +kernel
theorem dX9_trend_122 : decode cX9_trend 122 = .ok (.iconst 0, 1) := by decide +kernel
theorem dX9_trend_123 : decode cX9_trend 123 = .ok (.iadd, 1) := by decide +kernel
theorem dX9_trend_124 : decode cX9_trend 124 = .ok (.istore 4, 2) := by decide +kernel
theorem dX9_trend_126 : decode cX9_trend 126 = .ok (.iload 5, 2) := by decide +kernel
theorem dX9_trend_128 : decode cX9_trend 128 = .ok (.iload 11, 2) := by decide +kernel
theorem dX9_trend_130 : decode cX9_trend 130 = .ok (.ifCond .ge 7, 3) := by decide +kernel
theorem dX9_trend_133 : decode cX9_trend 133 = .ok (.iconst 1, 1) := by decide +kernel
theorem dX9_trend_134 : decode cX9_trend 134 = .ok (.goto 4, 3) := by decide +kernel
theorem dX9_trend_137 : decode cX9_trend 137 = .ok (.iconst 0, 1) := by decide +kernel
theorem dX9_trend_138 : decode cX9_trend 138 = .ok (.iadd, 1) := by decide +kernel
theorem dX9_trend_139 : decode cX9_trend 139 = .ok (.istore 5, 2) := by decide +kernel
theorem dX9_trend_141 : decode cX9_trend 141 = .ok (.iload 11, 2) := by decide +kernel
theorem dX9_trend_143 : decode cX9_trend 143 = .ok (.iload 6, 2) := by decide +kernel
theorem dX9_trend_145 : decode cX9_trend 145 = .ok (.if_icmp .le 13, 3) := by decide +kernel
theorem dX9_trend_148 : decode cX9_trend 148 = .ok (.iload 11, 2) := by decide +kernel
theorem dX9_trend_150 : decode cX9_trend 150 = .ok (.istore 6, 2) := by decide +kernel
theorem dX9_trend_152 : decode cX9_trend 152 = .ok (.aload_n 0, 1) := by decide +kernel
theorem dX9_trend_153 : decode cX9_trend 153 = .ok (.getfield 418, 3) := by decide +kernel
theorem dX9_trend_156 : decode cX9_trend 156 = .ok (.istore 7, 2) := by decide +kernel
theorem dX9_trend_158 : decode cX9_trend 158 = .ok (.aload_n 0, 1) := by decide +kernel
theorem dX9_trend_159 : decode cX9_trend 159 = .ok (.invokevirtual 458, 3) := by decide +kernel
theorem dX9_trend_162 : decode cX9_trend 162 = .ok (.istore 10, 2) := by decide +kernel
theorem dX9_trend_164 : decode cX9_trend 164 = .ok (.goto (-89), 3) := by decide +kernel
theorem dX9_trend_167 : decode cX9_trend 167 = .ok (.iload_n 3, 1) := by decide +kernel
theorem dX9_trend_168 : decode cX9_trend 168 = .ok (.ifCond .ne 9, 3) := by decide +kernel
theorem dX9_trend_171 : decode cX9_trend 171 = .ok (.iload 4, 2) := by decide +kernel
theorem dX9_trend_173 : decode cX9_trend 173 = .ok (.i2l, 1) := by decide +kernel
theorem dX9_trend_174 : decode cX9_trend 174 = .ok (.goto 28, 3) := by decide +kernel
theorem dX9_trend_177 : decode cX9_trend 177 = .ok (.iload_n 3, 1) := by decide +kernel
theorem dX9_trend_178 : decode cX9_trend 178 = .ok (.iconst 1, 1) := by decide +kernel
theorem dX9_trend_179 : decode cX9_trend 179 = .ok (.if_icmp .ne 9, 3) := by decide +kernel
theorem dX9_trend_182 : decode cX9_trend 182 = .ok (.iload 5, 2) := by decide +kernel
theorem dX9_trend_184 : decode cX9_trend 184 = .ok (.i2l, 1) := by decide +kernel
theorem dX9_trend_185 : decode cX9_trend 185 = .ok (.goto 17, 3) := by decide +kernel
theorem dX9_trend_188 : decode cX9_trend 188 = .ok (.iload_n 3, 1) := by decide +kernel
theorem dX9_trend_189 : decode cX9_trend 189 = .ok (.iconst 2, 1) := by decide +kernel
theorem dX9_trend_190 : decode cX9_trend 190 = .ok (.if_icmp .ne 9, 3) := by decide +kernel
theorem dX9_trend_193 : decode cX9_trend 193 = .ok (.iload 6, 2) := by decide +kernel
theorem dX9_trend_195 : decode cX9_trend 195 = .ok (.i2l, 1) := by decide +kernel
theorem dX9_trend_196 : decode cX9_trend 196 = .ok (.goto 6, 3) := by decide +kernel
theorem dX9_trend_199 : decode cX9_trend 199 = .ok (.iload 7, 2) := by decide +kernel
theorem dX9_trend_201 : decode cX9_trend 201 = .ok (.i2l, 1) := by decide +kernel
theorem dX9_trend_202 : decode cX9_trend 202 = .ok (.lreturn, 1) := by decide +kernel
theorem dX9_meanOf_0 : decode cX9_meanOf 0 = .ok (.aload_n 0, 1) := by decide +kernel
theorem dX9_meanOf_1 : decode cX9_meanOf 1 = .ok (.iload_n 1, 1) := by decide +kernel
theorem dX9_meanOf_2 : decode cX9_meanOf 2 = .ok (.iload_n 3, 1) := by decide +kernel
theorem dX9_meanOf_3 : decode cX9_meanOf 3 = .ok (.i2l, 1) := by decide +kernel
theorem dX9_meanOf_4 : decode cX9_meanOf 4 = .ok (.invokevirtual 290, 3) := by decide +kernel
theorem dX9_meanOf_7 : decode cX9_meanOf 7 = .ok (.istore 4, 2) := by decide +kernel
theorem dX9_meanOf_9 : decode cX9_meanOf 9 = .ok (.iload 4, 2) := by decide +kernel
theorem dX9_meanOf_11 : decode cX9_meanOf 11 = .ok (.aload_n 0, 1) := by decide +kernel
theorem dX9_meanOf_12 : decode cX9_meanOf 12 = .ok (.getfield 278, 3) := by decide +kernel
theorem dX9_meanOf_15 : decode cX9_meanOf 15 = .ok (.if_icmp .eq 51, 3) := by decide +kernel
theorem dX9_meanOf_18 : decode cX9_meanOf 18 = .ok (.aload_n 0, 1) := by decide +kernel
theorem dX9_meanOf_19 : decode cX9_meanOf 19 = .ok (.getfield 72, 3) := by decide +kernel
theorem dX9_meanOf_22 : decode cX9_meanOf 22 = .ok (.iload 4, 2) := by decide +kernel
theorem dX9_meanOf_24 : decode cX9_meanOf 24 = .ok (.iaload, 1) := by decide +kernel
theorem dX9_meanOf_25 : decode cX9_meanOf 25 = .ok (.iload_n 1, 1) := by decide +kernel
theorem dX9_meanOf_26 : decode cX9_meanOf 26 = .ok (.if_icmp .ne 40, 3) := by decide +kernel
theorem dX9_meanOf_29 : decode cX9_meanOf 29 = .ok (.aload_n 0, 1) := by decide +kernel
theorem dX9_meanOf_30 : decode cX9_meanOf 30 = .ok (.getfield 75, 3) := by decide +kernel
theorem dX9_meanOf_33 : decode cX9_meanOf 33 = .ok (.iload 4, 2) := by decide +kernel
theorem dX9_meanOf_35 : decode cX9_meanOf 35 = .ok (.iaload, 1) := by decide +kernel
theorem dX9_meanOf_36 : decode cX9_meanOf 36 = .ok (.i2l, 1) := by decide +kernel
theorem dX9_meanOf_37 : decode cX9_meanOf 37 = .ok (.iload_n 3, 1) := by decide +kernel
theorem dX9_meanOf_38 : decode cX9_meanOf 38 = .ok (.i2l, 1) := by decide +kernel
theorem dX9_meanOf_39 : decode cX9_meanOf 39 = .ok (.aload_n 0, 1) := by decide +kernel
theorem dX9_meanOf_40 : decode cX9_meanOf 40 = .ok (.getfield 43, 3) := by decide +kernel
theorem dX9_meanOf_43 : decode cX9_meanOf 43 = .ok (.iload_n 2, 1) := by decide +kernel
theorem dX9_meanOf_44 : decode cX9_meanOf 44 = .ok (.iaload, 1) := by decide +kernel
theorem dX9_meanOf_45 : decode cX9_meanOf 45 = .ok (.i2l, 1) := by decide +kernel
theorem dX9_meanOf_46 : decode cX9_meanOf 46 = .ok (.ladd, 1) := by decide +kernel
theorem dX9_meanOf_47 : decode cX9_meanOf 47 = .ok (.lcmp, 1) := by decide +kernel
theorem dX9_meanOf_48 : decode cX9_meanOf 48 = .ok (.ifCond .ge 18, 3) := by decide +kernel
theorem dX9_meanOf_51 : decode cX9_meanOf 51 = .ok (.aload_n 0, 1) := by decide +kernel
theorem dX9_meanOf_52 : decode cX9_meanOf 52 = .ok (.aload_n 0, 1) := by decide +kernel
theorem dX9_meanOf_53 : decode cX9_meanOf 53 = .ok (.getfield 60, 3) := by decide +kernel
theorem dX9_meanOf_56 : decode cX9_meanOf 56 = .ok (.iload_n 1, 1) := by decide +kernel
theorem dX9_meanOf_57 : decode cX9_meanOf 57 = .ok (.iaload, 1) := by decide +kernel
theorem dX9_meanOf_58 : decode cX9_meanOf 58 = .ok (.iload_n 3, 1) := by decide +kernel
theorem dX9_meanOf_59 : decode cX9_meanOf 59 = .ok (.invokevirtual 386, 3) := by decide +kernel
theorem dX9_meanOf_62 : decode cX9_meanOf 62 = .ok (.iload_n 2, 1) := by decide +kernel
theorem dX9_meanOf_63 : decode cX9_meanOf 63 = .ok (.if_icmp .eq 7, 3) := by decide +kernel
theorem dX9_meanOf_66 : decode cX9_meanOf 66 = .ok (.sipush (-20000), 3) := by decide +kernel
theorem dX9_meanOf_69 : decode cX9_meanOf 69 = .ok (.ireturn, 1) := by decide +kernel
theorem dX9_meanOf_70 : decode cX9_meanOf 70 = .ok (.aload_n 0, 1) := by decide +kernel
theorem dX9_meanOf_71 : decode cX9_meanOf 71 = .ok (.iload 4, 2) := by decide +kernel
theorem dX9_meanOf_73 : decode cX9_meanOf 73 = .ok (.invokevirtual 430, 3) := by decide +kernel
theorem dX9_meanOf_76 : decode cX9_meanOf 76 = .ok (.istore 4, 2) := by decide +kernel
theorem dX9_meanOf_78 : decode cX9_meanOf 78 = .ok (.aload_n 0, 1) := by decide +kernel
theorem dX9_meanOf_79 : decode cX9_meanOf 79 = .ok (.invokevirtual 458, 3) := by decide +kernel
theorem dX9_meanOf_82 : decode cX9_meanOf 82 = .ok (.ireturn, 1) := by decide +kernel
theorem dX9_both_0 : decode cX9_both 0 = .ok (.aload_n 0, 1) := by decide +kernel
theorem dX9_both_1 : decode cX9_both 1 = .ok (.iconst 0, 1) := by decide +kernel
theorem dX9_both_2 : decode cX9_both 2 = .ok (.putfield 130, 3) := by decide +kernel
theorem dX9_both_5 : decode cX9_both 5 = .ok (.aload_n 0, 1) := by decide +kernel
theorem dX9_both_6 : decode cX9_both 6 = .ok (.iload_n 1, 1) := by decide +kernel
theorem dX9_both_7 : decode cX9_both 7 = .ok (.invokevirtual 448, 3) := by decide +kernel
theorem dX9_both_10 : decode cX9_both 10 = .ok (.ifCond .eq 23, 3) := by decide +kernel
theorem dX9_both_13 : decode cX9_both 13 = .ok (.aload_n 0, 1) := by decide +kernel
theorem dX9_both_14 : decode cX9_both 14 = .ok (.iload_n 2, 1) := by decide +kernel
theorem dX9_both_15 : decode cX9_both 15 = .ok (.invokevirtual 448, 3) := by decide +kernel
theorem dX9_both_18 : decode cX9_both 18 = .ok (.ifCond .eq 15, 3) := by decide +kernel
theorem dX9_both_21 : decode cX9_both 21 = .ok (.iload_n 3, 1) := by decide +kernel
theorem dX9_both_22 : decode cX9_both 22 = .ok (.i2l, 1) := by decide +kernel
theorem dX9_both_23 : decode cX9_both 23 = .ok (.lconst 0, 1) := by decide +kernel
theorem dX9_both_24 : decode cX9_both 24 = .ok (.ldc2_w 461, 3) := by decide +kernel
theorem dX9_both_27 : decode cX9_both 27 = .ok (.invokestatic 210, 3) := by decide +kernel
theorem dX9_both_30 : decode cX9_both 30 = .ok (.ifCond .ne 9, 3) := by decide +kernel
theorem dX9_both_33 : decode cX9_both 33 = .ok (.aload_n 0, 1) := by decide +kernel
theorem dX9_both_34 : decode cX9_both 34 = .ok (.iconst 1, 1) := by decide +kernel
theorem dX9_both_35 : decode cX9_both 35 = .ok (.invokevirtual 263, 3) := by decide +kernel
theorem dX9_both_38 : decode cX9_both 38 = .ok (.ireturn, 1) := by decide +kernel
theorem dX9_both_39 : decode cX9_both 39 = .ok (.iconst 0, 1) := by decide +kernel
theorem dX9_both_40 : decode cX9_both 40 = .ok (.istore 4, 2) := by decide +kernel
theorem dX9_both_42 : decode cX9_both 42 = .ok (.iconst 0, 1) := by decide +kernel
theorem dX9_both_43 : decode cX9_both 43 = .ok (.istore 5, 2) := by decide +kernel
theorem dX9_both_45 : decode cX9_both 45 = .ok (.sipush (-20000), 3) := by decide +kernel
theorem dX9_both_48 : decode cX9_both 48 = .ok (.istore 6, 2) := by decide +kernel
theorem dX9_both_50 : decode cX9_both 50 = .ok (.aload_n 0, 1) := by decide +kernel
theorem dX9_both_51 : decode cX9_both 51 = .ok (.iload_n 1, 1) := by decide +kernel
theorem dX9_both_52 : decode cX9_both 52 = .ok (.invokevirtual 303, 3) := by decide +kernel
theorem dX9_both_55 : decode cX9_both 55 = .ok (.istore 7, 2) := by decide +kernel
theorem dX9_both_57 : decode cX9_both 57 = .ok (.aload_n 0, 1) := by decide +kernel
theorem dX9_both_58 : decode cX9_both 58 = .ok (.iload_n 1, 1) := by decide +kernel
theorem dX9_both_59 : decode cX9_both 59 = .ok (.invokevirtual 300, 3) := by decide +kernel
theorem dX9_both_62 : decode cX9_both 62 = .ok (.istore 8, 2) := by decide +kernel
theorem dX9_both_64 : decode cX9_both 64 = .ok (.iload 8, 2) := by decide +kernel
theorem dX9_both_66 : decode cX9_both 66 = .ok (.iload 7, 2) := by decide +kernel
theorem dX9_both_68 : decode cX9_both 68 = .ok (.if_icmp .ge 81, 3) := by decide +kernel
theorem dX9_both_71 : decode cX9_both 71 = .ok (.aload_n 0, 1) := by decide +kernel
theorem dX9_both_72 : decode cX9_both 72 = .ok (.iload 8, 2) := by decide +kernel
theorem dX9_both_74 : decode cX9_both 74 = .ok (.invokevirtual 430, 3) := by decide +kernel
theorem dX9_both_77 : decode cX9_both 77 = .ok (.istore 8, 2) := by decide +kernel
theorem dX9_both_79 : decode cX9_both 79 = .ok (.aload_n 0, 1) := by decide +kernel
theorem dX9_both_80 : decode cX9_both 80 = .ok (.invokevirtual 458, 3) := by decide +kernel
theorem dX9_both_83 : decode cX9_both 83 = .ok (.istore 9, 2) := by decide +kernel
theorem dX9_both_85 : decode cX9_both 85 = .ok (.aload_n 0, 1) := by decide +kernel
theorem dX9_both_86 : decode cX9_both 86 = .ok (.iload_n 2, 1) := by decide +kernel
theorem dX9_both_87 : decode cX9_both 87 = .ok (.aload_n 0, 1) := by decide +kernel
theorem dX9_both_88 : decode cX9_both 88 = .ok (.getfield 416, 3) := by decide +kernel
theorem dX9_both_91 : decode cX9_both 91 = .ok (.aload_n 0, 1) := by decide +kernel
theorem dX9_both_92 : decode cX9_both 92 = .ok (.getfield 418, 3) := by decide +kernel
theorem dX9_both_95 : decode cX9_both 95 = .ok (.invokevirtual 527, 3) := by decide +kernel
theorem dX9_both_98 : decode cX9_both 98 = .ok (.istore 10, 2) := by decide +kernel
theorem dX9_both_100 : decode cX9_both 100 = .ok (.iload 10, 2) := by decide +kernel
theorem dX9_both_102 : decode cX9_both 102 = .ok (.sipush (-20000), 3) := by decide +kernel
theorem dX9_both_105 : decode cX9_both 105 = .ok (.if_icmp .ne 6, 3) := by decide +kernel
theorem dX9_both_108 : decode cX9_both 108 = .ok (.goto (-44), 3) := by decide +kernel
theorem dX9_both_111 : decode cX9_both 111 = .ok (.iinc 4 1, 3) := by decide +kernel
theorem dX9_both_114 : decode cX9_both 114 = .ok (.iload 5, 2) := by decide +kernel
theorem dX9_both_116 : decode cX9_both 116 = .ok (.iload 9, 2) := by decide +kernel
theorem dX9_both_118 : decode cX9_both 118 = .ok (.iload 10, 2) := by decide +kernel
theorem dX9_both_120 : decode cX9_both 120 = .ok (.if_icmp .le 7, 3) := by decide +kernel
theorem dX9_both_123 : decode cX9_both 123 = .ok (.iconst 1, 1) := by decide +kernel
theorem dX9_both_124 : decode cX9_both 124 = .ok (.goto 4, 3) := by decide +kernel
theorem dX9_both_127 : decode cX9_both 127 = .ok (.iconst 0, 1) := by decide +kernel
theorem dX9_both_128 : decode cX9_both 128 = .ok (.iadd, 1) := by decide +kernel
theorem dX9_both_129 : decode cX9_both 129 = .ok (.istore 5, 2) := by decide +kernel
theorem dX9_both_131 : decode cX9_both 131 = .ok (.iload 6, 2) := by decide +kernel
theorem dX9_both_133 : decode cX9_both 133 = .ok (.iload 9, 2) := by decide +kernel
theorem dX9_both_135 : decode cX9_both 135 = .ok (.iload 10, 2) := by decide +kernel
theorem dX9_both_137 : decode cX9_both 137 = .ok (.isub, 1) := by decide +kernel
theorem dX9_both_138 : decode cX9_both 138 = .ok (.invokestatic 530, 3) := by decide +kernel
theorem dX9_both_141 : decode cX9_both 141 = .ok (.invokestatic 321, 3) := by decide +kernel
theorem dX9_both_144 : decode cX9_both 144 = .ok (.istore 6, 2) := by decide +kernel
theorem dX9_both_146 : decode cX9_both 146 = .ok (.goto (-82), 3) := by decide +kernel
theorem dX9_both_149 : decode cX9_both 149 = .ok (.iload_n 3, 1) := by decide +kernel
theorem dX9_both_150 : decode cX9_both 150 = .ok (.ifCond .ne 8, 3) := by decide +kernel
theorem dX9_both_153 : decode cX9_both 153 = .ok (.iload 4, 2) := by decide +kernel
theorem dX9_both_155 : decode cX9_both 155 = .ok (.goto 15, 3) := by decide +kernel
theorem dX9_both_158 : decode cX9_both 158 = .ok (.iload_n 3, 1) := by decide +kernel
theorem dX9_both_159 : decode cX9_both 159 = .ok (.iconst 1, 1) := by decide +kernel
theorem dX9_both_160 : decode cX9_both 160 = .ok (.if_icmp .ne 8, 3) := by decide +kernel
theorem dX9_both_163 : decode cX9_both 163 = .ok (.iload 5, 2) := by decide +kernel
theorem dX9_both_165 : decode cX9_both 165 = .ok (.goto 5, 3) := by decide +kernel
theorem dX9_both_168 : decode cX9_both 168 = .ok (.iload 6, 2) := by decide +kernel
theorem dX9_both_170 : decode cX9_both 170 = .ok (.ireturn, 1) := by decide +kernel
