/-! decode rows -/
theorem k12000_0 : decode (qc 12000) 0 = .ok (.iload_n 0, 1) := by decide +kernel
theorem k12000_1 : decode (qc 12000) 1 = .ok (.iload_n 1, 1) := by decide +kernel
theorem k12000_2 : decode (qc 12000) 2 = .ok (.if_icmp .lt 12, 3) := by decide +kernel
theorem k12000_5 : decode (qc 12000) 5 = .ok (.iload_n 0, 1) := by decide +kernel
theorem k12000_6 : decode (qc 12000) 6 = .ok (.iload_n 2, 1) := by decide +kernel
theorem k12000_7 : decode (qc 12000) 7 = .ok (.if_icmp .gt 7, 3) := by decide +kernel
theorem k12000_10 : decode (qc 12000) 10 = .ok (.iconst 1, 1) := by decide +kernel
theorem k12000_11 : decode (qc 12000) 11 = .ok (.goto 4, 3) := by decide +kernel
theorem k12000_14 : decode (qc 12000) 14 = .ok (.iconst 0, 1) := by decide +kernel
theorem k12000_15 : decode (qc 12000) 15 = .ok (.ireturn, 1) := by decide +kernel
theorem k12001_0 : decode (qc 12001) 0 = .ok (.iload_n 0, 1) := by decide +kernel
theorem k12001_1 : decode (qc 12001) 1 = .ok (.iload_n 1, 1) := by decide +kernel
theorem k12001_2 : decode (qc 12001) 2 = .ok (.ishr, 1) := by decide +kernel
theorem k12001_3 : decode (qc 12001) 3 = .ok (.iconst 1, 1) := by decide +kernel
theorem k12001_4 : decode (qc 12001) 4 = .ok (.iand, 1) := by decide +kernel
theorem k12001_5 : decode (qc 12001) 5 = .ok (.iconst 1, 1) := by decide +kernel
theorem k12001_6 : decode (qc 12001) 6 = .ok (.if_icmp .ne 7, 3) := by decide +kernel
theorem k12001_9 : decode (qc 12001) 9 = .ok (.iconst 1, 1) := by decide +kernel
theorem k12001_10 : decode (qc 12001) 10 = .ok (.goto 4, 3) := by decide +kernel
theorem k12001_13 : decode (qc 12001) 13 = .ok (.iconst 0, 1) := by decide +kernel
theorem k12001_14 : decode (qc 12001) 14 = .ok (.ireturn, 1) := by decide +kernel
theorem k12002_0 : decode (qc 12002) 0 = .ok (.aload_n 0, 1) := by decide +kernel
theorem k12002_1 : decode (qc 12002) 1 = .ok (.invokespecial 3, 3) := by decide +kernel
theorem k12002_4 : decode (qc 12002) 4 = .ok (.aload_n 0, 1) := by decide +kernel
theorem k12002_5 : decode (qc 12002) 5 = .ok (.sipush 160, 3) := by decide +kernel
theorem k12002_8 : decode (qc 12002) 8 = .ok (.newarray .int, 2) := by decide +kernel
theorem k12002_10 : decode (qc 12002) 10 = .ok (.putfield 9, 3) := by decide +kernel
theorem k12002_13 : decode (qc 12002) 13 = .ok (.aload_n 0, 1) := by decide +kernel
theorem k12002_14 : decode (qc 12002) 14 = .ok (.sipush 1700, 3) := by decide +kernel
theorem k12002_17 : decode (qc 12002) 17 = .ok (.newarray .int, 2) := by decide +kernel
theorem k12002_19 : decode (qc 12002) 19 = .ok (.putfield 13, 3) := by decide +kernel
theorem k12002_22 : decode (qc 12002) 22 = .ok (.aload_n 0, 1) := by decide +kernel
theorem k12002_23 : decode (qc 12002) 23 = .ok (.sipush 1700, 3) := by decide +kernel
theorem k12002_26 : decode (qc 12002) 26 = .ok (.newarray .int, 2) := by decide +kernel
theorem k12002_28 : decode (qc 12002) 28 = .ok (.putfield 16, 3) := by decide +kernel
theorem k12002_31 : decode (qc 12002) 31 = .ok (.aload_n 0, 1) := by decide +kernel
theorem k12002_32 : decode (qc 12002) 32 = .ok (.iconst 5, 1) := by decide +kernel
theorem k12002_33 : decode (qc 12002) 33 = .ok (.newarray .int, 2) := by decide +kernel
theorem k12002_35 : decode (qc 12002) 35 = .ok (.putfield 19, 3) := by decide +kernel
theorem k12002_38 : decode (qc 12002) 38 = .ok (.aload_n 0, 1) := by decide +kernel
theorem k12002_39 : decode (qc 12002) 39 = .ok (.iconst 5, 1) := by decide +kernel
theorem k12002_40 : decode (qc 12002) 40 = .ok (.newarray .int, 2) := by decide +kernel
theorem k12002_42 : decode (qc 12002) 42 = .ok (.putfield 22, 3) := by decide +kernel
theorem k12002_45 : decode (qc 12002) 45 = .ok (.aload_n 0, 1) := by decide +kernel
theorem k12002_46 : decode (qc 12002) 46 = .ok (.sipush 450, 3) := by decide +kernel
theorem k12002_49 : decode (qc 12002) 49 = .ok (.newarray .int, 2) := by decide +kernel
theorem k12002_51 : decode (qc 12002) 51 = .ok (.putfield 25, 3) := by decide +kernel
theorem k12002_54 : decode (qc 12002) 54 = .ok (.aload_n 0, 1) := by decide +kernel
theorem k12002_55 : decode (qc 12002) 55 = .ok (.sipush 450, 3) := by decide +kernel
theorem k12002_58 : decode (qc 12002) 58 = .ok (.newarray .int, 2) := by decide +kernel
theorem k12002_60 : decode (qc 12002) 60 = .ok (.putfield 28, 3) := by decide +kernel
theorem k12002_63 : decode (qc 12002) 63 = .ok (.aload_n 0, 1) := by decide +kernel
theorem k12002_64 : decode (qc 12002) 64 = .ok (.sipush 450, 3) := by decide +kernel
theorem k12002_67 : decode (qc 12002) 67 = .ok (.newarray .int, 2) := by decide +kernel
theorem k12002_69 : decode (qc 12002) 69 = .ok (.putfield 31, 3) := by decide +kernel
theorem k12002_72 : decode (qc 12002) 72 = .ok (.aload_n 0, 1) := by decide +kernel
theorem k12002_73 : decode (qc 12002) 73 = .ok (.iconst 5, 1) := by decide +kernel
theorem k12002_74 : decode (qc 12002) 74 = .ok (.newarray .int, 2) := by decide +kernel
theorem k12002_76 : decode (qc 12002) 76 = .ok (.putfield 34, 3) := by decide +kernel
theorem k12002_79 : decode (qc 12002) 79 = .ok (.aload_n 0, 1) := by decide +kernel
theorem k12002_80 : decode (qc 12002) 80 = .ok (.bipush 80, 2) := by decide +kernel
theorem k12002_82 : decode (qc 12002) 82 = .ok (.newarray .int, 2) := by decide +kernel
theorem k12002_84 : decode (qc 12002) 84 = .ok (.putfield 37, 3) := by decide +kernel
theorem k12002_87 : decode (qc 12002) 87 = .ok (.aload_n 0, 1) := by decide +kernel
theorem k12002_88 : decode (qc 12002) 88 = .ok (.bipush 34, 2) := by decide +kernel
theorem k12002_90 : decode (qc 12002) 90 = .ok (.newarray .int, 2) := by decide +kernel
theorem k12002_92 : decode (qc 12002) 92 = .ok (.putfield 40, 3) := by decide +kernel
theorem k12002_95 : decode (qc 12002) 95 = .ok (.aload_n 0, 1) := by decide +kernel
theorem k12002_96 : decode (qc 12002) 96 = .ok (.bipush 34, 2) := by decide +kernel
theorem k12002_98 : decode (qc 12002) 98 = .ok (.newarray .int, 2) := by decide +kernel
theorem k12002_100 : decode (qc 12002) 100 = .ok (.putfield 43, 3) := by decide +kernel
theorem k12002_103 : decode (qc 12002) 103 = .ok (.aload_n 0, 1) := by decide +kernel
theorem k12002_104 : decode (qc 12002) 104 = .ok (.iconst (-1), 1) := by decide +kernel
theorem k12002_105 : decode (qc 12002) 105 = .ok (.putfield 46, 3) := by decide +kernel
theorem k12002_108 : decode (qc 12002) 108 = .ok (.aload_n 0, 1) := by decide +kernel
theorem k12002_109 : decode (qc 12002) 109 = .ok (.bipush 40, 2) := by decide +kernel
theorem k12002_111 : decode (qc 12002) 111 = .ok (.newarray .int, 2) := by decide +kernel
theorem k12002_113 : decode (qc 12002) 113 = .ok (.putfield 50, 3) := by decide +kernel
theorem k12002_116 : decode (qc 12002) 116 = .ok (.aload_n 0, 1) := by decide +kernel
theorem k12002_117 : decode (qc 12002) 117 = .ok (.bipush 40, 2) := by decide +kernel
theorem k12002_119 : decode (qc 12002) 119 = .ok (.newarray .int, 2) := by decide +kernel
theorem k12002_121 : decode (qc 12002) 121 = .ok (.putfield 53, 3) := by decide +kernel
theorem k12002_124 : decode (qc 12002) 124 = .ok (.aload_n 0, 1) := by decide +kernel
theorem k12002_125 : decode (qc 12002) 125 = .ok (.bipush 40, 2) := by decide +kernel
theorem k12002_127 : decode (qc 12002) 127 = .ok (.newarray .int, 2) := by decide +kernel
theorem k12002_129 : decode (qc 12002) 129 = .ok (.putfield 56, 3) := by decide +kernel
theorem k12002_132 : decode (qc 12002) 132 = .ok (.aload_n 0, 1) := by decide +kernel
theorem k12002_133 : decode (qc 12002) 133 = .ok (.iconst (-1), 1) := by decide +kernel
theorem k12002_134 : decode (qc 12002) 134 = .ok (.putfield 59, 3) := by decide +kernel
theorem k12002_137 : decode (qc 12002) 137 = .ok (.aload_n 0, 1) := by decide +kernel
theorem k12002_138 : decode (qc 12002) 138 = .ok (.iconst 5, 1) := by decide +kernel
theorem k12002_139 : decode (qc 12002) 139 = .ok (.newarray .int, 2) := by decide +kernel
theorem k12002_141 : decode (qc 12002) 141 = .ok (.putfield 62, 3) := by decide +kernel
theorem k12002_144 : decode (qc 12002) 144 = .ok (.aload_n 0, 1) := by decide +kernel
theorem k12002_145 : decode (qc 12002) 145 = .ok (.bipush 40, 2) := by decide +kernel
theorem k12002_147 : decode (qc 12002) 147 = .ok (.newarray .boolean, 2) := by decide +kernel
theorem k12002_149 : decode (qc 12002) 149 = .ok (.putfield 65, 3) := by decide +kernel
theorem k12002_152 : decode (qc 12002) 152 = .ok (.aload_n 0, 1) := by decide +kernel
theorem k12002_153 : decode (qc 12002) 153 = .ok (.ldc 69, 2) := by decide +kernel
theorem k12002_155 : decode (qc 12002) 155 = .ok (.newarray .int, 2) := by decide +kernel
theorem k12002_157 : decode (qc 12002) 157 = .ok (.putfield 70, 3) := by decide +kernel
theorem k12002_160 : decode (qc 12002) 160 = .ok (.aload_n 0, 1) := by decide +kernel
theorem k12002_161 : decode (qc 12002) 161 = .ok (.ldc 69, 2) := by decide +kernel
theorem k12002_163 : decode (qc 12002) 163 = .ok (.newarray .int, 2) := by decide +kernel
theorem k12002_165 : decode (qc 12002) 165 = .ok (.putfield 73, 3) := by decide +kernel
theorem k12002_168 : decode (qc 12002) 168 = .ok (.aload_n 0, 1) := by decide +kernel
theorem k12002_169 : decode (qc 12002) 169 = .ok (.iconst 3, 1) := by decide +kernel
theorem k12002_170 : decode (qc 12002) 170 = .ok (.newarray .int, 2) := by decide +kernel
theorem k12002_172 : decode (qc 12002) 172 = .ok (.putfield 76, 3) := by decide +kernel
theorem k12002_175 : decode (qc 12002) 175 = .ok (.aload_n 0, 1) := by decide +kernel
theorem k12002_176 : decode (qc 12002) 176 = .ok (.bipush 32, 2) := by decide +kernel
theorem k12002_178 : decode (qc 12002) 178 = .ok (.newarray .int, 2) := by decide +kernel
theorem k12002_180 : decode (qc 12002) 180 = .ok (.putfield 79, 3) := by decide +kernel
theorem k12002_183 : decode (qc 12002) 183 = .ok (.aload_n 0, 1) := by decide +kernel
theorem k12002_184 : decode (qc 12002) 184 = .ok (.bipush 32, 2) := by decide +kernel
theorem k12002_186 : decode (qc 12002) 186 = .ok (.newarray .int, 2) := by decide +kernel
theorem k12002_188 : decode (qc 12002) 188 = .ok (.putfield 82, 3) := by decide +kernel
theorem k12002_191 : decode (qc 12002) 191 = .ok (.aload_n 0, 1) := by decide +kernel
theorem k12002_192 : decode (qc 12002) 192 = .ok (.bipush 32, 2) := by decide +kernel
theorem k12002_194 : decode (qc 12002) 194 = .ok (.newarray .int, 2) := by decide +kernel
theorem k12002_196 : decode (qc 12002) 196 = .ok (.putfield 85, 3) := by decide +kernel
theorem k12002_199 : decode (qc 12002) 199 = .ok (.aload_n 0, 1) := by decide +kernel
theorem k12002_200 : decode (qc 12002) 200 = .ok (.sipush 8748, 3) := by decide +kernel
theorem k12002_203 : decode (qc 12002) 203 = .ok (.newarray .int, 2) := by decide +kernel
theorem k12002_205 : decode (qc 12002) 205 = .ok (.putfield 88, 3) := by decide +kernel
theorem k12002_208 : decode (qc 12002) 208 = .ok (.aload_n 0, 1) := by decide +kernel
theorem k12002_209 : decode (qc 12002) 209 = .ok (.sipush 8748, 3) := by decide +kernel
theorem k12002_212 : decode (qc 12002) 212 = .ok (.newarray .int, 2) := by decide +kernel
theorem k12002_214 : decode (qc 12002) 214 = .ok (.putfield 91, 3) := by decide +kernel
theorem k12002_217 : decode (qc 12002) 217 = .ok (.aload_n 0, 1) := by decide +kernel
theorem k12002_218 : decode (qc 12002) 218 = .ok (.iconst 5, 1) := by decide +kernel
theorem k12002_219 : decode (qc 12002) 219 = .ok (.newarray .int, 2) := by decide +kernel
theorem k12002_221 : decode (qc 12002) 221 = .ok (.dup, 1) := by decide +kernel
theorem k12002_222 : decode (qc 12002) 222 = .ok (.iconst 0, 1) := by decide +kernel
theorem k12002_223 : decode (qc 12002) 223 = .ok (.iconst 1, 1) := by decide +kernel
theorem k12002_224 : decode (qc 12002) 224 = .ok (.iastore, 1) := by decide +kernel
theorem k12002_225 : decode (qc 12002) 225 = .ok (.dup, 1) := by decide +kernel
theorem k12002_226 : decode (qc 12002) 226 = .ok (.iconst 1, 1) := by decide +kernel
theorem k12002_227 : decode (qc 12002) 227 = .ok (.iconst 3, 1) := by decide +kernel
theorem k12002_228 : decode (qc 12002) 228 = .ok (.iastore, 1) := by decide +kernel
theorem k12002_229 : decode (qc 12002) 229 = .ok (.dup, 1) := by decide +kernel
theorem k12002_230 : decode (qc 12002) 230 = .ok (.iconst 2, 1) := by decide +kernel
theorem k12002_231 : decode (qc 12002) 231 = .ok (.bipush 9, 2) := by decide +kernel
theorem k12002_233 : decode (qc 12002) 233 = .ok (.iastore, 1) := by decide +kernel
theorem k12002_234 : decode (qc 12002) 234 = .ok (.dup, 1) := by decide +kernel
theorem k12002_235 : decode (qc 12002) 235 = .ok (.iconst 3, 1) := by decide +kernel
theorem k12002_236 : decode (qc 12002) 236 = .ok (.bipush 27, 2) := by decide +kernel
theorem k12002_238 : decode (qc 12002) 238 = .ok (.iastore, 1) := by decide +kernel
theorem k12002_239 : decode (qc 12002) 239 = .ok (.dup, 1) := by decide +kernel
theorem k12002_240 : decode (qc 12002) 240 = .ok (.iconst 4, 1) := by decide +kernel
theorem k12002_241 : decode (qc 12002) 241 = .ok (.bipush 81, 2) := by decide +kernel
theorem k12002_243 : decode (qc 12002) 243 = .ok (.iastore, 1) := by decide +kernel
theorem k12002_244 : decode (qc 12002) 244 = .ok (.putfield 94, 3) := by decide +kernel
theorem k12002_247 : decode (qc 12002) 247 = .ok (.aload_n 0, 1) := by decide +kernel
theorem k12002_248 : decode (qc 12002) 248 = .ok (.iconst 5, 1) := by decide +kernel
theorem k12002_249 : decode (qc 12002) 249 = .ok (.newarray .int, 2) := by decide +kernel
theorem k12002_251 : decode (qc 12002) 251 = .ok (.putfield 97, 3) := by decide +kernel
theorem k12002_254 : decode (qc 12002) 254 = .ok (.aload_n 0, 1) := by decide +kernel
theorem k12002_255 : decode (qc 12002) 255 = .ok (.sipush 1024, 3) := by decide +kernel
theorem k12002_258 : decode (qc 12002) 258 = .ok (.newarray .long, 2) := by decide +kernel
theorem k12002_260 : decode (qc 12002) 260 = .ok (.putfield 100, 3) := by decide +kernel
theorem k12002_263 : decode (qc 12002) 263 = .ok (.aload_n 0, 1) := by decide +kernel
theorem k12002_264 : decode (qc 12002) 264 = .ok (.sipush 1024, 3) := by decide +kernel
theorem k12002_267 : decode (qc 12002) 267 = .ok (.newarray .long, 2) := by decide +kernel
theorem k12002_269 : decode (qc 12002) 269 = .ok (.putfield 104, 3) := by decide +kernel
theorem k12002_272 : decode (qc 12002) 272 = .ok (.aload_n 0, 1) := by decide +kernel
theorem k12002_273 : decode (qc 12002) 273 = .ok (.iconst 5, 1) := by decide +kernel
theorem k12002_274 : decode (qc 12002) 274 = .ok (.newarray .int, 2) := by decide +kernel
theorem k12002_276 : decode (qc 12002) 276 = .ok (.putfield 107, 3) := by decide +kernel
theorem k12002_279 : decode (qc 12002) 279 = .ok (.aload_n 0, 1) := by decide +kernel
theorem k12002_280 : decode (qc 12002) 280 = .ok (.iconst 5, 1) := by decide +kernel
theorem k12002_281 : decode (qc 12002) 281 = .ok (.newarray .int, 2) := by decide +kernel
theorem k12002_283 : decode (qc 12002) 283 = .ok (.putfield 110, 3) := by decide +kernel
theorem k12002_286 : decode (qc 12002) 286 = .ok (.aload_n 0, 1) := by decide +kernel
theorem k12002_287 : decode (qc 12002) 287 = .ok (.bipush 125, 2) := by decide +kernel
theorem k12002_289 : decode (qc 12002) 289 = .ok (.newarray .int, 2) := by decide +kernel
theorem k12002_291 : decode (qc 12002) 291 = .ok (.putfield 113, 3) := by decide +kernel
theorem k12002_294 : decode (qc 12002) 294 = .ok (.iconst 0, 1) := by decide +kernel
theorem k12002_295 : decode (qc 12002) 295 = .ok (.istore_n 1, 1) := by decide +kernel
theorem k12002_296 : decode (qc 12002) 296 = .ok (.iload_n 1, 1) := by decide +kernel
theorem k12002_297 : decode (qc 12002) 297 = .ok (.iconst 5, 1) := by decide +kernel
theorem k12002_298 : decode (qc 12002) 298 = .ok (.if_icmp .ge 16, 3) := by decide +kernel
theorem k12002_301 : decode (qc 12002) 301 = .ok (.aload_n 0, 1) := by decide +kernel
theorem k12002_302 : decode (qc 12002) 302 = .ok (.getfield 97, 3) := by decide +kernel
theorem k12002_305 : decode (qc 12002) 305 = .ok (.iload_n 1, 1) := by decide +kernel
theorem k12002_306 : decode (qc 12002) 306 = .ok (.iconst (-1), 1) := by decide +kernel
theorem k12002_307 : decode (qc 12002) 307 = .ok (.iastore, 1) := by decide +kernel
theorem k12002_308 : decode (qc 12002) 308 = .ok (.iinc 1 1, 3) := by decide +kernel
theorem k12002_311 : decode (qc 12002) 311 = .ok (.goto (-15), 3) := by decide +kernel
theorem k12002_314 : decode (qc 12002) 314 = .ok (.return_, 1) := by decide +kernel
theorem k12003_0 : decode (qc 12003) 0 = .ok (.aload_n 0, 1) := by decide +kernel
theorem k12003_1 : decode (qc 12003) 1 = .ok (.getfield 116, 3) := by decide +kernel
theorem k12003_4 : decode (qc 12003) 4 = .ok (.ireturn, 1) := by decide +kernel
theorem k12004_0 : decode (qc 12004) 0 = .ok (.iload 5, 2) := by decide +kernel
theorem k12004_2 : decode (qc 12004) 2 = .ok (.iconst 4, 1) := by decide +kernel
theorem k12004_3 : decode (qc 12004) 3 = .ok (.if_icmp .ge 7, 3) := by decide +kernel
theorem k12004_6 : decode (qc 12004) 6 = .ok (.iload_n 0, 1) := by decide +kernel
theorem k12004_7 : decode (qc 12004) 7 = .ok (.goto 38, 3) := by decide +kernel
theorem k12004_10 : decode (qc 12004) 10 = .ok (.iload 5, 2) := by decide +kernel
theorem k12004_12 : decode (qc 12004) 12 = .ok (.bipush 8, 2) := by decide +kernel
theorem k12004_14 : decode (qc 12004) 14 = .ok (.if_icmp .ge 7, 3) := by decide +kernel
theorem k12004_17 : decode (qc 12004) 17 = .ok (.iload_n 1, 1) := by decide +kernel
theorem k12004_18 : decode (qc 12004) 18 = .ok (.goto 27, 3) := by decide +kernel
theorem k12004_21 : decode (qc 12004) 21 = .ok (.iload 5, 2) := by decide +kernel
theorem k12004_23 : decode (qc 12004) 23 = .ok (.bipush 12, 2) := by decide +kernel
theorem k12004_25 : decode (qc 12004) 25 = .ok (.if_icmp .ge 7, 3) := by decide +kernel
theorem k12004_28 : decode (qc 12004) 28 = .ok (.iload_n 2, 1) := by decide +kernel
theorem k12004_29 : decode (qc 12004) 29 = .ok (.goto 16, 3) := by decide +kernel
theorem k12004_32 : decode (qc 12004) 32 = .ok (.iload 5, 2) := by decide +kernel
theorem k12004_34 : decode (qc 12004) 34 = .ok (.bipush 16, 2) := by decide +kernel
theorem k12004_36 : decode (qc 12004) 36 = .ok (.if_icmp .ge 7, 3) := by decide +kernel
theorem k12004_39 : decode (qc 12004) 39 = .ok (.iload_n 3, 1) := by decide +kernel
theorem k12004_40 : decode (qc 12004) 40 = .ok (.goto 5, 3) := by decide +kernel
theorem k12004_43 : decode (qc 12004) 43 = .ok (.iload 4, 2) := by decide +kernel
theorem k12004_45 : decode (qc 12004) 45 = .ok (.istore 6, 2) := by decide +kernel
theorem k12004_47 : decode (qc 12004) 47 = .ok (.iload 6, 2) := by decide +kernel
theorem k12004_49 : decode (qc 12004) 49 = .ok (.bipush 24, 2) := by decide +kernel
theorem k12004_51 : decode (qc 12004) 51 = .ok (.bipush 8, 2) := by decide +kernel
theorem k12004_53 : decode (qc 12004) 53 = .ok (.iload 5, 2) := by decide +kernel
theorem k12004_55 : decode (qc 12004) 55 = .ok (.iconst 4, 1) := by decide +kernel
theorem k12004_56 : decode (qc 12004) 56 = .ok (.irem, 1) := by decide +kernel
theorem k12004_57 : decode (qc 12004) 57 = .ok (.imul, 1) := by decide +kernel
theorem k12004_58 : decode (qc 12004) 58 = .ok (.isub, 1) := by decide +kernel
theorem k12004_59 : decode (qc 12004) 59 = .ok (.ishr, 1) := by decide +kernel
theorem k12004_60 : decode (qc 12004) 60 = .ok (.sipush 255, 3) := by decide +kernel
theorem k12004_63 : decode (qc 12004) 63 = .ok (.iand, 1) := by decide +kernel
theorem k12004_64 : decode (qc 12004) 64 = .ok (.ireturn, 1) := by decide +kernel
theorem k12005_0 : decode (qc 12005) 0 = .ok (.iconst 0, 1) := by decide +kernel
theorem k12005_1 : decode (qc 12005) 1 = .ok (.istore 6, 2) := by decide +kernel
theorem k12005_3 : decode (qc 12005) 3 = .ok (.iconst 0, 1) := by decide +kernel
theorem k12005_4 : decode (qc 12005) 4 = .ok (.istore 7, 2) := by decide +kernel
theorem k12005_6 : decode (qc 12005) 6 = .ok (.iload 7, 2) := by decide +kernel
theorem k12005_8 : decode (qc 12005) 8 = .ok (.bipush 20, 2) := by decide +kernel
theorem k12005_10 : decode (qc 12005) 10 = .ok (.if_icmp .ge 34, 3) := by decide +kernel
theorem k12005_13 : decode (qc 12005) 13 = .ok (.iload 6, 2) := by decide +kernel
theorem k12005_15 : decode (qc 12005) 15 = .ok (.iload_n 1, 1) := by decide +kernel
theorem k12005_16 : decode (qc 12005) 16 = .ok (.iload_n 2, 1) := by decide +kernel
theorem k12005_17 : decode (qc 12005) 17 = .ok (.iload_n 3, 1) := by decide +kernel
theorem k12005_18 : decode (qc 12005) 18 = .ok (.iload 4, 2) := by decide +kernel
theorem k12005_20 : decode (qc 12005) 20 = .ok (.iload 5, 2) := by decide +kernel
theorem k12005_22 : decode (qc 12005) 22 = .ok (.iload 7, 2) := by decide +kernel
theorem k12005_24 : decode (qc 12005) 24 = .ok (.invokestatic 119, 3) := by decide +kernel
theorem k12005_27 : decode (qc 12005) 27 = .ok (.ifCond .eq 7, 3) := by decide +kernel
theorem k12005_30 : decode (qc 12005) 30 = .ok (.iconst 1, 1) := by decide +kernel
theorem k12005_31 : decode (qc 12005) 31 = .ok (.goto 4, 3) := by decide +kernel
theorem k12005_34 : decode (qc 12005) 34 = .ok (.iconst 0, 1) := by decide +kernel
theorem k12005_35 : decode (qc 12005) 35 = .ok (.iadd, 1) := by decide +kernel
theorem k12005_36 : decode (qc 12005) 36 = .ok (.istore 6, 2) := by decide +kernel
theorem k12005_38 : decode (qc 12005) 38 = .ok (.iinc 7 1, 3) := by decide +kernel
theorem k12005_41 : decode (qc 12005) 41 = .ok (.goto (-35), 3) := by decide +kernel
theorem k12005_44 : decode (qc 12005) 44 = .ok (.aload_n 0, 1) := by decide +kernel
theorem k12005_45 : decode (qc 12005) 45 = .ok (.getfield 123, 3) := by decide +kernel
theorem k12005_48 : decode (qc 12005) 48 = .ok (.iload 6, 2) := by decide +kernel
theorem k12005_50 : decode (qc 12005) 50 = .ok (.iadd, 1) := by decide +kernel
theorem k12005_51 : decode (qc 12005) 51 = .ok (.sipush 160, 3) := by decide +kernel
theorem k12005_54 : decode (qc 12005) 54 = .ok (.if_icmp .le 5, 3) := by decide +kernel
theorem k12005_57 : decode (qc 12005) 57 = .ok (.iconst (-1), 1) := by decide +kernel
theorem k12005_58 : decode (qc 12005) 58 = .ok (.ireturn, 1) := by decide +kernel
theorem k12005_59 : decode (qc 12005) 59 = .ok (.iconst 0, 1) := by decide +kernel
theorem k12005_60 : decode (qc 12005) 60 = .ok (.istore 7, 2) := by decide +kernel
theorem k12005_62 : decode (qc 12005) 62 = .ok (.iload 7, 2) := by decide +kernel
theorem k12005_64 : decode (qc 12005) 64 = .ok (.bipush 20, 2) := by decide +kernel
theorem k12005_66 : decode (qc 12005) 66 = .ok (.if_icmp .ge 49, 3) := by decide +kernel
theorem k12005_69 : decode (qc 12005) 69 = .ok (.iload_n 1, 1) := by decide +kernel
theorem k12005_70 : decode (qc 12005) 70 = .ok (.iload_n 2, 1) := by decide +kernel
theorem k12005_71 : decode (qc 12005) 71 = .ok (.iload_n 3, 1) := by decide +kernel
theorem k12005_72 : decode (qc 12005) 72 = .ok (.iload 4, 2) := by decide +kernel
theorem k12005_74 : decode (qc 12005) 74 = .ok (.iload 5, 2) := by decide +kernel
theorem k12005_76 : decode (qc 12005) 76 = .ok (.iload 7, 2) := by decide +kernel
theorem k12005_78 : decode (qc 12005) 78 = .ok (.invokestatic 119, 3) := by decide +kernel
theorem k12005_81 : decode (qc 12005) 81 = .ok (.istore 8, 2) := by decide +kernel
theorem k12005_83 : decode (qc 12005) 83 = .ok (.iload 8, 2) := by decide +kernel
theorem k12005_85 : decode (qc 12005) 85 = .ok (.ifCond .eq 24, 3) := by decide +kernel
theorem k12005_88 : decode (qc 12005) 88 = .ok (.aload_n 0, 1) := by decide +kernel
theorem k12005_89 : decode (qc 12005) 89 = .ok (.getfield 9, 3) := by decide +kernel
theorem k12005_92 : decode (qc 12005) 92 = .ok (.aload_n 0, 1) := by decide +kernel
theorem k12005_93 : decode (qc 12005) 93 = .ok (.getfield 123, 3) := by decide +kernel
theorem k12005_96 : decode (qc 12005) 96 = .ok (.iload 8, 2) := by decide +kernel
theorem k12005_98 : decode (qc 12005) 98 = .ok (.iastore, 1) := by decide +kernel
theorem k12005_99 : decode (qc 12005) 99 = .ok (.aload_n 0, 1) := by decide +kernel
theorem k12005_100 : decode (qc 12005) 100 = .ok (.dup, 1) := by decide +kernel
theorem k12005_101 : decode (qc 12005) 101 = .ok (.getfield 123, 3) := by decide +kernel
theorem k12005_104 : decode (qc 12005) 104 = .ok (.iconst 1, 1) := by decide +kernel
theorem k12005_105 : decode (qc 12005) 105 = .ok (.iadd, 1) := by decide +kernel
theorem k12005_106 : decode (qc 12005) 106 = .ok (.putfield 123, 3) := by decide +kernel
theorem k12005_109 : decode (qc 12005) 109 = .ok (.iinc 7 1, 3) := by decide +kernel
theorem k12005_112 : decode (qc 12005) 112 = .ok (.goto (-50), 3) := by decide +kernel
theorem k12005_115 : decode (qc 12005) 115 = .ok (.aload_n 0, 1) := by decide +kernel
theorem k12005_116 : decode (qc 12005) 116 = .ok (.getfield 123, 3) := by decide +kernel
theorem k12005_119 : decode (qc 12005) 119 = .ok (.ireturn, 1) := by decide +kernel
theorem k12006_0 : decode (qc 12006) 0 = .ok (.iload_n 1, 1) := by decide +kernel
theorem k12006_1 : decode (qc 12006) 1 = .ok (.ifCond .lt 11, 3) := by decide +kernel
theorem k12006_4 : decode (qc 12006) 4 = .ok (.iload_n 1, 1) := by decide +kernel
theorem k12006_5 : decode (qc 12006) 5 = .ok (.aload_n 0, 1) := by decide +kernel
theorem k12006_6 : decode (qc 12006) 6 = .ok (.getfield 123, 3) := by decide +kernel
theorem k12006_9 : decode (qc 12006) 9 = .ok (.if_icmp .le 5, 3) := by decide +kernel
theorem k12006_12 : decode (qc 12006) 12 = .ok (.iconst 0, 1) := by decide +kernel
theorem k12006_13 : decode (qc 12006) 13 = .ok (.ireturn, 1) := by decide +kernel
theorem k12006_14 : decode (qc 12006) 14 = .ok (.aload_n 0, 1) := by decide +kernel
theorem k12006_15 : decode (qc 12006) 15 = .ok (.iload_n 1, 1) := by decide +kernel
theorem k12006_16 : decode (qc 12006) 16 = .ok (.putfield 123, 3) := by decide +kernel
theorem k12006_19 : decode (qc 12006) 19 = .ok (.iconst 1, 1) := by decide +kernel
theorem k12006_20 : decode (qc 12006) 20 = .ok (.ireturn, 1) := by decide +kernel
theorem k12007_0 : decode (qc 12007) 0 = .ok (.aload_n 0, 1) := by decide +kernel
theorem k12007_1 : decode (qc 12007) 1 = .ok (.getfield 126, 3) := by decide +kernel
theorem k12007_4 : decode (qc 12007) 4 = .ok (.aload_n 0, 1) := by decide +kernel
theorem k12007_5 : decode (qc 12007) 5 = .ok (.getfield 123, 3) := by decide +kernel
theorem k12007_8 : decode (qc 12007) 8 = .ok (.if_icmp .ge 15, 3) := by decide +kernel
theorem k12007_11 : decode (qc 12007) 11 = .ok (.aload_n 0, 1) := by decide +kernel
theorem k12007_12 : decode (qc 12007) 12 = .ok (.getfield 9, 3) := by decide +kernel
theorem k12007_15 : decode (qc 12007) 15 = .ok (.aload_n 0, 1) := by decide +kernel
theorem k12007_16 : decode (qc 12007) 16 = .ok (.getfield 126, 3) := by decide +kernel
theorem k12007_19 : decode (qc 12007) 19 = .ok (.iaload, 1) := by decide +kernel
theorem k12007_20 : decode (qc 12007) 20 = .ok (.goto 4, 3) := by decide +kernel
theorem k12007_23 : decode (qc 12007) 23 = .ok (.iconst (-1), 1) := by decide +kernel
theorem k12007_24 : decode (qc 12007) 24 = .ok (.ireturn, 1) := by decide +kernel
theorem k12008_0 : decode (qc 12008) 0 = .ok (.aload_n 0, 1) := by decide +kernel
theorem k12008_1 : decode (qc 12008) 1 = .ok (.invokevirtual 129, 3) := by decide +kernel
theorem k12008_4 : decode (qc 12008) 4 = .ok (.bipush 32, 2) := by decide +kernel
theorem k12008_6 : decode (qc 12008) 6 = .ok (.if_icmp .ne 16, 3) := by decide +kernel
theorem k12008_9 : decode (qc 12008) 9 = .ok (.aload_n 0, 1) := by decide +kernel
theorem k12008_10 : decode (qc 12008) 10 = .ok (.dup, 1) := by decide +kernel
theorem k12008_11 : decode (qc 12008) 11 = .ok (.getfield 126, 3) := by decide +kernel
theorem k12008_14 : decode (qc 12008) 14 = .ok (.iconst 1, 1) := by decide +kernel
theorem k12008_15 : decode (qc 12008) 15 = .ok (.iadd, 1) := by decide +kernel
theorem k12008_16 : decode (qc 12008) 16 = .ok (.putfield 126, 3) := by decide +kernel
theorem k12008_19 : decode (qc 12008) 19 = .ok (.goto (-19), 3) := by decide +kernel
theorem k12008_22 : decode (qc 12008) 22 = .ok (.aload_n 0, 1) := by decide +kernel
theorem k12008_23 : decode (qc 12008) 23 = .ok (.invokevirtual 129, 3) := by decide +kernel
theorem k12008_26 : decode (qc 12008) 26 = .ok (.ireturn, 1) := by decide +kernel
theorem k12009_0 : decode (qc 12009) 0 = .ok (.aload_n 0, 1) := by decide +kernel
theorem k12009_1 : decode (qc 12009) 1 = .ok (.aload_n 0, 1) := by decide +kernel
theorem k12009_2 : decode (qc 12009) 2 = .ok (.getfield 133, 3) := by decide +kernel
theorem k12009_5 : decode (qc 12009) 5 = .ok (.iconst (-1), 1) := by decide +kernel
theorem k12009_6 : decode (qc 12009) 6 = .ok (.if_icmp .ne 10, 3) := by decide +kernel
theorem k12009_9 : decode (qc 12009) 9 = .ok (.aload_n 0, 1) := by decide +kernel
theorem k12009_10 : decode (qc 12009) 10 = .ok (.getfield 126, 3) := by decide +kernel
theorem k12009_13 : decode (qc 12009) 13 = .ok (.goto 7, 3) := by decide +kernel
theorem k12009_16 : decode (qc 12009) 16 = .ok (.aload_n 0, 1) := by decide +kernel
theorem k12009_17 : decode (qc 12009) 17 = .ok (.getfield 133, 3) := by decide +kernel
theorem k12009_20 : decode (qc 12009) 20 = .ok (.putfield 133, 3) := by decide +kernel
theorem k12009_23 : decode (qc 12009) 23 = .ok (.return_, 1) := by decide +kernel
theorem k12010_0 : decode (qc 12010) 0 = .ok (.iload_n 0, 1) := by decide +kernel
theorem k12010_1 : decode (qc 12010) 1 = .ok (.bipush 48, 2) := by decide +kernel
theorem k12010_3 : decode (qc 12010) 3 = .ok (.if_icmp .lt 13, 3) := by decide +kernel
theorem k12010_6 : decode (qc 12010) 6 = .ok (.iload_n 0, 1) := by decide +kernel
theorem k12010_7 : decode (qc 12010) 7 = .ok (.bipush 57, 2) := by decide +kernel
theorem k12010_9 : decode (qc 12010) 9 = .ok (.if_icmp .gt 7, 3) := by decide +kernel
theorem k12010_12 : decode (qc 12010) 12 = .ok (.iconst 1, 1) := by decide +kernel
theorem k12010_13 : decode (qc 12010) 13 = .ok (.goto 4, 3) := by decide +kernel
theorem k12010_16 : decode (qc 12010) 16 = .ok (.iconst 0, 1) := by decide +kernel
theorem k12010_17 : decode (qc 12010) 17 = .ok (.ireturn, 1) := by decide +kernel
theorem k12011_0 : decode (qc 12011) 0 = .ok (.aload_n 0, 1) := by decide +kernel
theorem k12011_1 : decode (qc 12011) 1 = .ok (.getfield 13, 3) := by decide +kernel
theorem k12011_4 : decode (qc 12011) 4 = .ok (.sipush 340, 3) := by decide +kernel
theorem k12011_7 : decode (qc 12011) 7 = .ok (.aload_n 0, 1) := by decide +kernel
theorem k12011_8 : decode (qc 12011) 8 = .ok (.getfield 136, 3) := by decide +kernel
theorem k12011_11 : decode (qc 12011) 11 = .ok (.imul, 1) := by decide +kernel
theorem k12011_12 : decode (qc 12011) 12 = .ok (.aload_n 0, 1) := by decide +kernel
theorem k12011_13 : decode (qc 12011) 13 = .ok (.getfield 19, 3) := by decide +kernel
theorem k12011_16 : decode (qc 12011) 16 = .ok (.aload_n 0, 1) := by decide +kernel
theorem k12011_17 : decode (qc 12011) 17 = .ok (.getfield 136, 3) := by decide +kernel
theorem k12011_20 : decode (qc 12011) 20 = .ok (.iaload, 1) := by decide +kernel
theorem k12011_21 : decode (qc 12011) 21 = .ok (.iadd, 1) := by decide +kernel
theorem k12011_22 : decode (qc 12011) 22 = .ok (.iload_n 1, 1) := by decide +kernel
theorem k12011_23 : decode (qc 12011) 23 = .ok (.iastore, 1) := by decide +kernel
theorem k12011_24 : decode (qc 12011) 24 = .ok (.aload_n 0, 1) := by decide +kernel
theorem k12011_25 : decode (qc 12011) 25 = .ok (.getfield 16, 3) := by decide +kernel
theorem k12011_28 : decode (qc 12011) 28 = .ok (.sipush 340, 3) := by decide +kernel
theorem k12011_31 : decode (qc 12011) 31 = .ok (.aload_n 0, 1) := by decide +kernel
theorem k12011_32 : decode (qc 12011) 32 = .ok (.getfield 136, 3) := by decide +kernel
theorem k12011_35 : decode (qc 12011) 35 = .ok (.imul, 1) := by decide +kernel
theorem k12011_36 : decode (qc 12011) 36 = .ok (.aload_n 0, 1) := by decide +kernel
theorem k12011_37 : decode (qc 12011) 37 = .ok (.getfield 19, 3) := by decide +kernel
theorem k12011_40 : decode (qc 12011) 40 = .ok (.aload_n 0, 1) := by decide +kernel
theorem k12011_41 : decode (qc 12011) 41 = .ok (.getfield 136, 3) := by decide +kernel
theorem k12011_44 : decode (qc 12011) 44 = .ok (.iaload, 1) := by decide +kernel
theorem k12011_45 : decode (qc 12011) 45 = .ok (.iadd, 1) := by decide +kernel
theorem k12011_46 : decode (qc 12011) 46 = .ok (.iload_n 2, 1) := by decide +kernel
theorem k12011_47 : decode (qc 12011) 47 = .ok (.iastore, 1) := by decide +kernel
theorem k12011_48 : decode (qc 12011) 48 = .ok (.aload_n 0, 1) := by decide +kernel
theorem k12011_49 : decode (qc 12011) 49 = .ok (.getfield 19, 3) := by decide +kernel
theorem k12011_52 : decode (qc 12011) 52 = .ok (.aload_n 0, 1) := by decide +kernel
theorem k12011_53 : decode (qc 12011) 53 = .ok (.getfield 136, 3) := by decide +kernel
theorem k12011_56 : decode (qc 12011) 56 = .ok (.dup2, 1) := by decide +kernel
theorem k12011_57 : decode (qc 12011) 57 = .ok (.iaload, 1) := by decide +kernel
theorem k12011_58 : decode (qc 12011) 58 = .ok (.iconst 1, 1) := by decide +kernel
theorem k12011_59 : decode (qc 12011) 59 = .ok (.iadd, 1) := by decide +kernel
theorem k12011_60 : decode (qc 12011) 60 = .ok (.iastore, 1) := by decide +kernel
theorem k12011_61 : decode (qc 12011) 61 = .ok (.return_, 1) := by decide +kernel
theorem k12012_0 : decode (qc 12012) 0 = .ok (.iload_n 0, 1) := by decide +kernel
theorem k12012_1 : decode (qc 12012) 1 = .ok (.bipush 109, 2) := by decide +kernel
theorem k12012_3 : decode (qc 12012) 3 = .ok (.if_icmp .ne 7, 3) := by decide +kernel
theorem k12012_6 : decode (qc 12012) 6 = .ok (.iconst 0, 1) := by decide +kernel
theorem k12012_7 : decode (qc 12012) 7 = .ok (.goto 44, 3) := by decide +kernel
theorem k12012_10 : decode (qc 12012) 10 = .ok (.iload_n 0, 1) := by decide +kernel
theorem k12012_11 : decode (qc 12012) 11 = .ok (.bipush 115, 2) := by decide +kernel
theorem k12012_13 : decode (qc 12012) 13 = .ok (.if_icmp .ne 7, 3) := by decide +kernel
theorem k12012_16 : decode (qc 12012) 16 = .ok (.iconst 1, 1) := by decide +kernel
theorem k12012_17 : decode (qc 12012) 17 = .ok (.goto 34, 3) := by decide +kernel
theorem k12012_20 : decode (qc 12012) 20 = .ok (.iload_n 0, 1) := by decide +kernel
theorem k12012_21 : decode (qc 12012) 21 = .ok (.bipush 116, 2) := by decide +kernel
theorem k12012_23 : decode (qc 12012) 23 = .ok (.if_icmp .ne 7, 3) := by decide +kernel
theorem k12012_26 : decode (qc 12012) 26 = .ok (.iconst 2, 1) := by decide +kernel
theorem k12012_27 : decode (qc 12012) 27 = .ok (.goto 24, 3) := by decide +kernel
theorem k12012_30 : decode (qc 12012) 30 = .ok (.iload_n 0, 1) := by decide +kernel
theorem k12012_31 : decode (qc 12012) 31 = .ok (.bipush 110, 2) := by decide +kernel
theorem k12012_33 : decode (qc 12012) 33 = .ok (.if_icmp .ne 7, 3) := by decide +kernel
theorem k12012_36 : decode (qc 12012) 36 = .ok (.iconst 3, 1) := by decide +kernel
theorem k12012_37 : decode (qc 12012) 37 = .ok (.goto 14, 3) := by decide +kernel
theorem k12012_40 : decode (qc 12012) 40 = .ok (.iload_n 0, 1) := by decide +kernel
theorem k12012_41 : decode (qc 12012) 41 = .ok (.bipush 108, 2) := by decide +kernel
theorem k12012_43 : decode (qc 12012) 43 = .ok (.if_icmp .ne 7, 3) := by decide +kernel
theorem k12012_46 : decode (qc 12012) 46 = .ok (.iconst 4, 1) := by decide +kernel
theorem k12012_47 : decode (qc 12012) 47 = .ok (.goto 4, 3) := by decide +kernel
theorem k12012_50 : decode (qc 12012) 50 = .ok (.iconst (-1), 1) := by decide +kernel
theorem k12012_51 : decode (qc 12012) 51 = .ok (.ireturn, 1) := by decide +kernel
theorem k12013_0 : decode (qc 12013) 0 = .ok (.aload_n 0, 1) := by decide +kernel
theorem k12013_1 : decode (qc 12013) 1 = .ok (.getfield 139, 3) := by decide +kernel
theorem k12013_4 : decode (qc 12013) 4 = .ok (.bipush 6, 2) := by decide +kernel
theorem k12013_6 : decode (qc 12013) 6 = .ok (.if_icmp .ne 7, 3) := by decide +kernel
theorem k12013_9 : decode (qc 12013) 9 = .ok (.aload_n 0, 1) := by decide +kernel
theorem k12013_10 : decode (qc 12013) 10 = .ok (.invokevirtual 142, 3) := by decide +kernel
theorem k12013_13 : decode (qc 12013) 13 = .ok (.aload_n 0, 1) := by decide +kernel
theorem k12013_14 : decode (qc 12013) 14 = .ok (.dup, 1) := by decide +kernel
theorem k12013_15 : decode (qc 12013) 15 = .ok (.getfield 139, 3) := by decide +kernel
theorem k12013_18 : decode (qc 12013) 18 = .ok (.iconst 1, 1) := by decide +kernel
theorem k12013_19 : decode (qc 12013) 19 = .ok (.iadd, 1) := by decide +kernel
theorem k12013_20 : decode (qc 12013) 20 = .ok (.putfield 139, 3) := by decide +kernel
theorem k12013_23 : decode (qc 12013) 23 = .ok (.aload_n 0, 1) := by decide +kernel
theorem k12013_24 : decode (qc 12013) 24 = .ok (.dup, 1) := by decide +kernel
theorem k12013_25 : decode (qc 12013) 25 = .ok (.getfield 126, 3) := by decide +kernel
theorem k12013_28 : decode (qc 12013) 28 = .ok (.iconst 1, 1) := by decide +kernel
theorem k12013_29 : decode (qc 12013) 29 = .ok (.iadd, 1) := by decide +kernel
theorem k12013_30 : decode (qc 12013) 30 = .ok (.putfield 126, 3) := by decide +kernel
theorem k12013_33 : decode (qc 12013) 33 = .ok (.return_, 1) := by decide +kernel
theorem k12014_0 : decode (qc 12014) 0 = .ok (.aload_n 0, 1) := by decide +kernel
theorem k12014_1 : decode (qc 12014) 1 = .ok (.getfield 133, 3) := by decide +kernel
theorem k12014_4 : decode (qc 12014) 4 = .ok (.iconst (-1), 1) := by decide +kernel
theorem k12014_5 : decode (qc 12014) 5 = .ok (.if_icmp .ne 15, 3) := by decide +kernel
theorem k12014_8 : decode (qc 12014) 8 = .ok (.aload_n 0, 1) := by decide +kernel
theorem k12014_9 : decode (qc 12014) 9 = .ok (.invokevirtual 145, 3) := by decide +kernel
theorem k12014_12 : decode (qc 12014) 12 = .ok (.iload_n 1, 1) := by decide +kernel
theorem k12014_13 : decode (qc 12014) 13 = .ok (.if_icmp .eq 7, 3) := by decide +kernel
theorem k12014_16 : decode (qc 12014) 16 = .ok (.aload_n 0, 1) := by decide +kernel
theorem k12014_17 : decode (qc 12014) 17 = .ok (.invokevirtual 142, 3) := by decide +kernel
theorem k12014_20 : decode (qc 12014) 20 = .ok (.aload_n 0, 1) := by decide +kernel
theorem k12014_21 : decode (qc 12014) 21 = .ok (.dup, 1) := by decide +kernel
theorem k12014_22 : decode (qc 12014) 22 = .ok (.getfield 126, 3) := by decide +kernel
theorem k12014_25 : decode (qc 12014) 25 = .ok (.iconst 1, 1) := by decide +kernel
theorem k12014_26 : decode (qc 12014) 26 = .ok (.iadd, 1) := by decide +kernel
theorem k12014_27 : decode (qc 12014) 27 = .ok (.putfield 126, 3) := by decide +kernel
theorem k12014_30 : decode (qc 12014) 30 = .ok (.aload_n 0, 1) := by decide +kernel
theorem k12014_31 : decode (qc 12014) 31 = .ok (.dup, 1) := by decide +kernel
theorem k12014_32 : decode (qc 12014) 32 = .ok (.getfield 139, 3) := by decide +kernel
theorem k12014_35 : decode (qc 12014) 35 = .ok (.iconst 1, 1) := by decide +kernel
theorem k12014_36 : decode (qc 12014) 36 = .ok (.isub, 1) := by decide +kernel
theorem k12014_37 : decode (qc 12014) 37 = .ok (.putfield 139, 3) := by decide +kernel
theorem k12014_40 : decode (qc 12014) 40 = .ok (.return_, 1) := by decide +kernel
theorem k12015_0 : decode (qc 12015) 0 = .ok (.iconst 0, 1) := by decide +kernel
theorem k12015_1 : decode (qc 12015) 1 = .ok (.istore_n 1, 1) := by decide +kernel
theorem k12015_2 : decode (qc 12015) 2 = .ok (.iconst 0, 1) := by decide +kernel
theorem k12015_3 : decode (qc 12015) 3 = .ok (.istore_n 2, 1) := by decide +kernel
theorem k12015_4 : decode (qc 12015) 4 = .ok (.iload_n 2, 1) := by decide +kernel
theorem k12015_5 : decode (qc 12015) 5 = .ok (.iconst 4, 1) := by decide +kernel
theorem k12015_6 : decode (qc 12015) 6 = .ok (.if_icmp .ge 42, 3) := by decide +kernel
theorem k12015_9 : decode (qc 12015) 9 = .ok (.aload_n 0, 1) := by decide +kernel
theorem k12015_10 : decode (qc 12015) 10 = .ok (.invokevirtual 129, 3) := by decide +kernel
theorem k12015_13 : decode (qc 12015) 13 = .ok (.invokestatic 148, 3) := by decide +kernel
theorem k12015_16 : decode (qc 12015) 16 = .ok (.ifCond .eq 32, 3) := by decide +kernel
theorem k12015_19 : decode (qc 12015) 19 = .ok (.bipush 10, 2) := by decide +kernel
theorem k12015_21 : decode (qc 12015) 21 = .ok (.iload_n 1, 1) := by decide +kernel
theorem k12015_22 : decode (qc 12015) 22 = .ok (.imul, 1) := by decide +kernel
theorem k12015_23 : decode (qc 12015) 23 = .ok (.aload_n 0, 1) := by decide +kernel
theorem k12015_24 : decode (qc 12015) 24 = .ok (.invokevirtual 129, 3) := by decide +kernel
theorem k12015_27 : decode (qc 12015) 27 = .ok (.iadd, 1) := by decide +kernel
theorem k12015_28 : decode (qc 12015) 28 = .ok (.bipush 48, 2) := by decide +kernel
theorem k12015_30 : decode (qc 12015) 30 = .ok (.isub, 1) := by decide +kernel
theorem k12015_31 : decode (qc 12015) 31 = .ok (.istore_n 1, 1) := by decide +kernel
theorem k12015_32 : decode (qc 12015) 32 = .ok (.aload_n 0, 1) := by decide +kernel
theorem k12015_33 : decode (qc 12015) 33 = .ok (.dup, 1) := by decide +kernel
theorem k12015_34 : decode (qc 12015) 34 = .ok (.getfield 126, 3) := by decide +kernel
theorem k12015_37 : decode (qc 12015) 37 = .ok (.iconst 1, 1) := by decide +kernel
theorem k12015_38 : decode (qc 12015) 38 = .ok (.iadd, 1) := by decide +kernel
theorem k12015_39 : decode (qc 12015) 39 = .ok (.putfield 126, 3) := by decide +kernel
theorem k12015_42 : decode (qc 12015) 42 = .ok (.iinc 2 1, 3) := by decide +kernel
theorem k12015_45 : decode (qc 12015) 45 = .ok (.goto (-41), 3) := by decide +kernel
theorem k12015_48 : decode (qc 12015) 48 = .ok (.aload_n 0, 1) := by decide +kernel
theorem k12015_49 : decode (qc 12015) 49 = .ok (.invokevirtual 129, 3) := by decide +kernel
theorem k12015_52 : decode (qc 12015) 52 = .ok (.invokestatic 148, 3) := by decide +kernel
theorem k12015_55 : decode (qc 12015) 55 = .ok (.ifCond .eq 7, 3) := by decide +kernel
theorem k12015_58 : decode (qc 12015) 58 = .ok (.aload_n 0, 1) := by decide +kernel
theorem k12015_59 : decode (qc 12015) 59 = .ok (.invokevirtual 142, 3) := by decide +kernel
theorem k12015_62 : decode (qc 12015) 62 = .ok (.iload_n 1, 1) := by decide +kernel
theorem k12015_63 : decode (qc 12015) 63 = .ok (.ireturn, 1) := by decide +kernel
theorem k12016_0 : decode (qc 12016) 0 = .ok (.aload_n 0, 1) := by decide +kernel
theorem k12016_1 : decode (qc 12016) 1 = .ok (.invokevirtual 145, 3) := by decide +kernel
theorem k12016_4 : decode (qc 12016) 4 = .ok (.istore_n 1, 1) := by decide +kernel
theorem k12016_5 : decode (qc 12016) 5 = .ok (.iload_n 1, 1) := by decide +kernel
theorem k12016_6 : decode (qc 12016) 6 = .ok (.invokestatic 148, 3) := by decide +kernel
theorem k12016_9 : decode (qc 12016) 9 = .ok (.ifCond .eq 15, 3) := by decide +kernel
theorem k12016_12 : decode (qc 12016) 12 = .ok (.aload_n 0, 1) := by decide +kernel
theorem k12016_13 : decode (qc 12016) 13 = .ok (.iconst 0, 1) := by decide +kernel
theorem k12016_14 : decode (qc 12016) 14 = .ok (.aload_n 0, 1) := by decide +kernel
theorem k12016_15 : decode (qc 12016) 15 = .ok (.invokevirtual 152, 3) := by decide +kernel
theorem k12016_18 : decode (qc 12016) 18 = .ok (.invokevirtual 155, 3) := by decide +kernel
theorem k12016_21 : decode (qc 12016) 21 = .ok (.goto 68, 3) := by decide +kernel
theorem k12016_24 : decode (qc 12016) 24 = .ok (.iload_n 1, 1) := by decide +kernel
theorem k12016_25 : decode (qc 12016) 25 = .ok (.invokestatic 159, 3) := by decide +kernel
theorem k12016_28 : decode (qc 12016) 28 = .ok (.iconst (-1), 1) := by decide +kernel
theorem k12016_29 : decode (qc 12016) 29 = .ok (.if_icmp .eq 25, 3) := by decide +kernel
theorem k12016_32 : decode (qc 12016) 32 = .ok (.aload_n 0, 1) := by decide +kernel
theorem k12016_33 : decode (qc 12016) 33 = .ok (.dup, 1) := by decide +kernel
theorem k12016_34 : decode (qc 12016) 34 = .ok (.getfield 126, 3) := by decide +kernel
theorem k12016_37 : decode (qc 12016) 37 = .ok (.iconst 1, 1) := by decide +kernel
theorem k12016_38 : decode (qc 12016) 38 = .ok (.iadd, 1) := by decide +kernel
theorem k12016_39 : decode (qc 12016) 39 = .ok (.putfield 126, 3) := by decide +kernel
theorem k12016_42 : decode (qc 12016) 42 = .ok (.aload_n 0, 1) := by decide +kernel
theorem k12016_43 : decode (qc 12016) 43 = .ok (.iconst 1, 1) := by decide +kernel
theorem k12016_44 : decode (qc 12016) 44 = .ok (.iload_n 1, 1) := by decide +kernel
theorem k12016_45 : decode (qc 12016) 45 = .ok (.invokestatic 159, 3) := by decide +kernel
theorem k12016_48 : decode (qc 12016) 48 = .ok (.invokevirtual 155, 3) := by decide +kernel
theorem k12016_51 : decode (qc 12016) 51 = .ok (.goto 38, 3) := by decide +kernel
theorem k12016_54 : decode (qc 12016) 54 = .ok (.iload_n 1, 1) := by decide +kernel
theorem k12016_55 : decode (qc 12016) 55 = .ok (.bipush 91, 2) := by decide +kernel
theorem k12016_57 : decode (qc 12016) 57 = .ok (.if_icmp .ne 28, 3) := by decide +kernel
theorem k12016_60 : decode (qc 12016) 60 = .ok (.aload_n 0, 1) := by decide +kernel
theorem k12016_61 : decode (qc 12016) 61 = .ok (.invokevirtual 163, 3) := by decide +kernel
theorem k12016_64 : decode (qc 12016) 64 = .ok (.aload_n 0, 1) := by decide +kernel
theorem k12016_65 : decode (qc 12016) 65 = .ok (.getfield 133, 3) := by decide +kernel
theorem k12016_68 : decode (qc 12016) 68 = .ok (.iconst (-1), 1) := by decide +kernel
theorem k12016_69 : decode (qc 12016) 69 = .ok (.if_icmp .ne 20, 3) := by decide +kernel
theorem k12016_72 : decode (qc 12016) 72 = .ok (.aload_n 0, 1) := by decide +kernel
theorem k12016_73 : decode (qc 12016) 73 = .ok (.invokevirtual 166, 3) := by decide +kernel
theorem k12016_76 : decode (qc 12016) 76 = .ok (.aload_n 0, 1) := by decide +kernel
theorem k12016_77 : decode (qc 12016) 77 = .ok (.bipush 93, 2) := by decide +kernel
theorem k12016_79 : decode (qc 12016) 79 = .ok (.invokevirtual 169, 3) := by decide +kernel
theorem k12016_82 : decode (qc 12016) 82 = .ok (.goto 7, 3) := by decide +kernel
theorem k12016_85 : decode (qc 12016) 85 = .ok (.aload_n 0, 1) := by decide +kernel
theorem k12016_86 : decode (qc 12016) 86 = .ok (.invokevirtual 142, 3) := by decide +kernel
theorem k12016_89 : decode (qc 12016) 89 = .ok (.return_, 1) := by decide +kernel
theorem k12017_0 : decode (qc 12017) 0 = .ok (.aload_n 0, 1) := by decide +kernel
theorem k12017_1 : decode (qc 12017) 1 = .ok (.invokevirtual 173, 3) := by decide +kernel
theorem k12017_4 : decode (qc 12017) 4 = .ok (.aload_n 0, 1) := by decide +kernel
theorem k12017_5 : decode (qc 12017) 5 = .ok (.getfield 133, 3) := by decide +kernel
theorem k12017_8 : decode (qc 12017) 8 = .ok (.iconst (-1), 1) := by decide +kernel
theorem k12017_9 : decode (qc 12017) 9 = .ok (.if_icmp .ne 10, 3) := by decide +kernel
theorem k12017_12 : decode (qc 12017) 12 = .ok (.aload_n 0, 1) := by decide +kernel
theorem k12017_13 : decode (qc 12017) 13 = .ok (.invokevirtual 145, 3) := by decide +kernel
theorem k12017_16 : decode (qc 12017) 16 = .ok (.goto 4, 3) := by decide +kernel
theorem k12017_19 : decode (qc 12017) 19 = .ok (.iconst (-1), 1) := by decide +kernel
theorem k12017_20 : decode (qc 12017) 20 = .ok (.istore_n 1, 1) := by decide +kernel
theorem k12017_21 : decode (qc 12017) 21 = .ok (.iload_n 1, 1) := by decide +kernel
theorem k12017_22 : decode (qc 12017) 22 = .ok (.bipush 42, 2) := by decide +kernel
theorem k12017_24 : decode (qc 12017) 24 = .ok (.if_icmp .eq 9, 3) := by decide +kernel
theorem k12017_27 : decode (qc 12017) 27 = .ok (.iload_n 1, 1) := by decide +kernel
theorem k12017_28 : decode (qc 12017) 28 = .ok (.bipush 47, 2) := by decide +kernel
theorem k12017_30 : decode (qc 12017) 30 = .ok (.if_icmp .ne 53, 3) := by decide +kernel
theorem k12017_33 : decode (qc 12017) 33 = .ok (.aload_n 0, 1) := by decide +kernel
theorem k12017_34 : decode (qc 12017) 34 = .ok (.dup, 1) := by decide +kernel
theorem k12017_35 : decode (qc 12017) 35 = .ok (.getfield 126, 3) := by decide +kernel
theorem k12017_38 : decode (qc 12017) 38 = .ok (.iconst 1, 1) := by decide +kernel
theorem k12017_39 : decode (qc 12017) 39 = .ok (.iadd, 1) := by decide +kernel
theorem k12017_40 : decode (qc 12017) 40 = .ok (.putfield 126, 3) := by decide +kernel
theorem k12017_43 : decode (qc 12017) 43 = .ok (.aload_n 0, 1) := by decide +kernel
theorem k12017_44 : decode (qc 12017) 44 = .ok (.invokevirtual 173, 3) := by decide +kernel
theorem k12017_47 : decode (qc 12017) 47 = .ok (.aload_n 0, 1) := by decide +kernel
theorem k12017_48 : decode (qc 12017) 48 = .ok (.iload_n 1, 1) := by decide +kernel
theorem k12017_49 : decode (qc 12017) 49 = .ok (.bipush 42, 2) := by decide +kernel
theorem k12017_51 : decode (qc 12017) 51 = .ok (.if_icmp .ne 7, 3) := by decide +kernel
theorem k12017_54 : decode (qc 12017) 54 = .ok (.iconst 4, 1) := by decide +kernel
theorem k12017_55 : decode (qc 12017) 55 = .ok (.goto 4, 3) := by decide +kernel
theorem k12017_58 : decode (qc 12017) 58 = .ok (.iconst 5, 1) := by decide +kernel
theorem k12017_59 : decode (qc 12017) 59 = .ok (.iconst 0, 1) := by decide +kernel
theorem k12017_60 : decode (qc 12017) 60 = .ok (.invokevirtual 155, 3) := by decide +kernel
theorem k12017_63 : decode (qc 12017) 63 = .ok (.aload_n 0, 1) := by decide +kernel
theorem k12017_64 : decode (qc 12017) 64 = .ok (.getfield 133, 3) := by decide +kernel
theorem k12017_67 : decode (qc 12017) 67 = .ok (.iconst (-1), 1) := by decide +kernel
theorem k12017_68 : decode (qc 12017) 68 = .ok (.if_icmp .ne 10, 3) := by decide +kernel
theorem k12017_71 : decode (qc 12017) 71 = .ok (.aload_n 0, 1) := by decide +kernel
theorem k12017_72 : decode (qc 12017) 72 = .ok (.invokevirtual 145, 3) := by decide +kernel
theorem k12017_75 : decode (qc 12017) 75 = .ok (.goto 4, 3) := by decide +kernel
theorem k12017_78 : decode (qc 12017) 78 = .ok (.iconst (-1), 1) := by decide +kernel
theorem k12017_79 : decode (qc 12017) 79 = .ok (.istore_n 1, 1) := by decide +kernel
theorem k12017_80 : decode (qc 12017) 80 = .ok (.goto (-59), 3) := by decide +kernel
theorem k12017_83 : decode (qc 12017) 83 = .ok (.return_, 1) := by decide +kernel
theorem k12018_0 : decode (qc 12018) 0 = .ok (.aload_n 0, 1) := by decide +kernel
theorem k12018_1 : decode (qc 12018) 1 = .ok (.invokevirtual 176, 3) := by decide +kernel
theorem k12018_4 : decode (qc 12018) 4 = .ok (.aload_n 0, 1) := by decide +kernel
theorem k12018_5 : decode (qc 12018) 5 = .ok (.getfield 133, 3) := by decide +kernel
theorem k12018_8 : decode (qc 12018) 8 = .ok (.iconst (-1), 1) := by decide +kernel
theorem k12018_9 : decode (qc 12018) 9 = .ok (.if_icmp .ne 10, 3) := by decide +kernel
theorem k12018_12 : decode (qc 12018) 12 = .ok (.aload_n 0, 1) := by decide +kernel
theorem k12018_13 : decode (qc 12018) 13 = .ok (.invokevirtual 145, 3) := by decide +kernel
theorem k12018_16 : decode (qc 12018) 16 = .ok (.goto 4, 3) := by decide +kernel
theorem k12018_19 : decode (qc 12018) 19 = .ok (.iconst (-1), 1) := by decide +kernel
theorem k12018_20 : decode (qc 12018) 20 = .ok (.istore_n 1, 1) := by decide +kernel
theorem k12018_21 : decode (qc 12018) 21 = .ok (.iload_n 1, 1) := by decide +kernel
theorem k12018_22 : decode (qc 12018) 22 = .ok (.bipush 43, 2) := by decide +kernel
theorem k12018_24 : decode (qc 12018) 24 = .ok (.if_icmp .eq 9, 3) := by decide +kernel
theorem k12018_27 : decode (qc 12018) 27 = .ok (.iload_n 1, 1) := by decide +kernel
theorem k12018_28 : decode (qc 12018) 28 = .ok (.bipush 45, 2) := by decide +kernel
theorem k12018_30 : decode (qc 12018) 30 = .ok (.if_icmp .ne 53, 3) := by decide +kernel
theorem k12018_33 : decode (qc 12018) 33 = .ok (.aload_n 0, 1) := by decide +kernel
theorem k12018_34 : decode (qc 12018) 34 = .ok (.dup, 1) := by decide +kernel
theorem k12018_35 : decode (qc 12018) 35 = .ok (.getfield 126, 3) := by decide +kernel
theorem k12018_38 : decode (qc 12018) 38 = .ok (.iconst 1, 1) := by decide +kernel
theorem k12018_39 : decode (qc 12018) 39 = .ok (.iadd, 1) := by decide +kernel
theorem k12018_40 : decode (qc 12018) 40 = .ok (.putfield 126, 3) := by decide +kernel
theorem k12018_43 : decode (qc 12018) 43 = .ok (.aload_n 0, 1) := by decide +kernel
theorem k12018_44 : decode (qc 12018) 44 = .ok (.invokevirtual 176, 3) := by decide +kernel
theorem k12018_47 : decode (qc 12018) 47 = .ok (.aload_n 0, 1) := by decide +kernel
theorem k12018_48 : decode (qc 12018) 48 = .ok (.iload_n 1, 1) := by decide +kernel
theorem k12018_49 : decode (qc 12018) 49 = .ok (.bipush 43, 2) := by decide +kernel
theorem k12018_51 : decode (qc 12018) 51 = .ok (.if_icmp .ne 7, 3) := by decide +kernel
theorem k12018_54 : decode (qc 12018) 54 = .ok (.iconst 2, 1) := by decide +kernel
theorem k12018_55 : decode (qc 12018) 55 = .ok (.goto 4, 3) := by decide +kernel
theorem k12018_58 : decode (qc 12018) 58 = .ok (.iconst 3, 1) := by decide +kernel
theorem k12018_59 : decode (qc 12018) 59 = .ok (.iconst 0, 1) := by decide +kernel
theorem k12018_60 : decode (qc 12018) 60 = .ok (.invokevirtual 155, 3) := by decide +kernel
theorem k12018_63 : decode (qc 12018) 63 = .ok (.aload_n 0, 1) := by decide +kernel
theorem k12018_64 : decode (qc 12018) 64 = .ok (.getfield 133, 3) := by decide +kernel
theorem k12018_67 : decode (qc 12018) 67 = .ok (.iconst (-1), 1) := by decide +kernel
theorem k12018_68 : decode (qc 12018) 68 = .ok (.if_icmp .ne 10, 3) := by decide +kernel
theorem k12018_71 : decode (qc 12018) 71 = .ok (.aload_n 0, 1) := by decide +kernel
theorem k12018_72 : decode (qc 12018) 72 = .ok (.invokevirtual 145, 3) := by decide +kernel
theorem k12018_75 : decode (qc 12018) 75 = .ok (.goto 4, 3) := by decide +kernel
theorem k12018_78 : decode (qc 12018) 78 = .ok (.iconst (-1), 1) := by decide +kernel
theorem k12018_79 : decode (qc 12018) 79 = .ok (.istore_n 1, 1) := by decide +kernel
theorem k12018_80 : decode (qc 12018) 80 = .ok (.goto (-59), 3) := by decide +kernel
theorem k12018_83 : decode (qc 12018) 83 = .ok (.return_, 1) := by decide +kernel
theorem k12019_0 : decode (qc 12019) 0 = .ok (.iload_n 0, 1) := by decide +kernel
theorem k12019_1 : decode (qc 12019) 1 = .ok (.bipush 61, 2) := by decide +kernel
theorem k12019_3 : decode (qc 12019) 3 = .ok (.if_icmp .eq 15, 3) := by decide +kernel
theorem k12019_6 : decode (qc 12019) 6 = .ok (.iload_n 0, 1) := by decide +kernel
theorem k12019_7 : decode (qc 12019) 7 = .ok (.bipush 60, 2) := by decide +kernel
theorem k12019_9 : decode (qc 12019) 9 = .ok (.if_icmp .eq 9, 3) := by decide +kernel
theorem k12019_12 : decode (qc 12019) 12 = .ok (.iload_n 0, 1) := by decide +kernel
theorem k12019_13 : decode (qc 12019) 13 = .ok (.bipush 62, 2) := by decide +kernel
theorem k12019_15 : decode (qc 12019) 15 = .ok (.if_icmp .ne 7, 3) := by decide +kernel
theorem k12019_18 : decode (qc 12019) 18 = .ok (.iconst 1, 1) := by decide +kernel
theorem k12019_19 : decode (qc 12019) 19 = .ok (.goto 4, 3) := by decide +kernel
theorem k12019_22 : decode (qc 12019) 22 = .ok (.iconst 0, 1) := by decide +kernel
theorem k12019_23 : decode (qc 12019) 23 = .ok (.ireturn, 1) := by decide +kernel
theorem k12020_0 : decode (qc 12020) 0 = .ok (.aload_n 0, 1) := by decide +kernel
theorem k12020_1 : decode (qc 12020) 1 = .ok (.getfield 133, 3) := by decide +kernel
theorem k12020_4 : decode (qc 12020) 4 = .ok (.iconst (-1), 1) := by decide +kernel
theorem k12020_5 : decode (qc 12020) 5 = .ok (.if_icmp .ne 10, 3) := by decide +kernel
theorem k12020_8 : decode (qc 12020) 8 = .ok (.aload_n 0, 1) := by decide +kernel
theorem k12020_9 : decode (qc 12020) 9 = .ok (.invokevirtual 145, 3) := by decide +kernel
theorem k12020_12 : decode (qc 12020) 12 = .ok (.goto 4, 3) := by decide +kernel
theorem k12020_15 : decode (qc 12020) 15 = .ok (.iconst (-1), 1) := by decide +kernel
theorem k12020_16 : decode (qc 12020) 16 = .ok (.istore_n 1, 1) := by decide +kernel
theorem k12020_17 : decode (qc 12020) 17 = .ok (.iload_n 1, 1) := by decide +kernel
theorem k12020_18 : decode (qc 12020) 18 = .ok (.invokestatic 179, 3) := by decide +kernel
theorem k12020_21 : decode (qc 12020) 21 = .ok (.ifCond .ne 8, 3) := by decide +kernel
theorem k12020_24 : decode (qc 12020) 24 = .ok (.aload_n 0, 1) := by decide +kernel
theorem k12020_25 : decode (qc 12020) 25 = .ok (.invokevirtual 142, 3) := by decide +kernel
theorem k12020_28 : decode (qc 12020) 28 = .ok (.return_, 1) := by decide +kernel
theorem k12020_29 : decode (qc 12020) 29 = .ok (.aload_n 0, 1) := by decide +kernel
theorem k12020_30 : decode (qc 12020) 30 = .ok (.dup, 1) := by decide +kernel
theorem k12020_31 : decode (qc 12020) 31 = .ok (.getfield 126, 3) := by decide +kernel
theorem k12020_34 : decode (qc 12020) 34 = .ok (.iconst 1, 1) := by decide +kernel
theorem k12020_35 : decode (qc 12020) 35 = .ok (.iadd, 1) := by decide +kernel
theorem k12020_36 : decode (qc 12020) 36 = .ok (.putfield 126, 3) := by decide +kernel
theorem k12020_39 : decode (qc 12020) 39 = .ok (.aload_n 0, 1) := by decide +kernel
theorem k12020_40 : decode (qc 12020) 40 = .ok (.invokevirtual 166, 3) := by decide +kernel
theorem k12020_43 : decode (qc 12020) 43 = .ok (.aload_n 0, 1) := by decide +kernel
theorem k12020_44 : decode (qc 12020) 44 = .ok (.iload_n 1, 1) := by decide +kernel
theorem k12020_45 : decode (qc 12020) 45 = .ok (.bipush 61, 2) := by decide +kernel
theorem k12020_47 : decode (qc 12020) 47 = .ok (.if_icmp .ne 8, 3) := by decide +kernel
theorem k12020_50 : decode (qc 12020) 50 = .ok (.bipush 6, 2) := by decide +kernel
theorem k12020_52 : decode (qc 12020) 52 = .ok (.goto 16, 3) := by decide +kernel
theorem k12020_55 : decode (qc 12020) 55 = .ok (.iload_n 1, 1) := by decide +kernel
theorem k12020_56 : decode (qc 12020) 56 = .ok (.bipush 60, 2) := by decide +kernel
theorem k12020_58 : decode (qc 12020) 58 = .ok (.if_icmp .ne 8, 3) := by decide +kernel
theorem k12020_61 : decode (qc 12020) 61 = .ok (.bipush 7, 2) := by decide +kernel
theorem k12020_63 : decode (qc 12020) 63 = .ok (.goto 5, 3) := by decide +kernel
theorem k12020_66 : decode (qc 12020) 66 = .ok (.bipush 8, 2) := by decide +kernel
theorem k12020_68 : decode (qc 12020) 68 = .ok (.iconst 0, 1) := by decide +kernel
theorem k12020_69 : decode (qc 12020) 69 = .ok (.invokevirtual 155, 3) := by decide +kernel
theorem k12020_72 : decode (qc 12020) 72 = .ok (.return_, 1) := by decide +kernel
theorem k12021_0 : decode (qc 12021) 0 = .ok (.aload_n 0, 1) := by decide +kernel
theorem k12021_1 : decode (qc 12021) 1 = .ok (.invokevirtual 145, 3) := by decide +kernel
theorem k12021_4 : decode (qc 12021) 4 = .ok (.istore_n 1, 1) := by decide +kernel
theorem k12021_5 : decode (qc 12021) 5 = .ok (.iload_n 1, 1) := by decide +kernel
theorem k12021_6 : decode (qc 12021) 6 = .ok (.bipush 33, 2) := by decide +kernel
theorem k12021_8 : decode (qc 12021) 8 = .ok (.if_icmp .ne 39, 3) := by decide +kernel
theorem k12021_11 : decode (qc 12021) 11 = .ok (.aload_n 0, 1) := by decide +kernel
theorem k12021_12 : decode (qc 12021) 12 = .ok (.invokevirtual 163, 3) := by decide +kernel
theorem k12021_15 : decode (qc 12021) 15 = .ok (.aload_n 0, 1) := by decide +kernel
theorem k12021_16 : decode (qc 12021) 16 = .ok (.getfield 133, 3) := by decide +kernel
theorem k12021_19 : decode (qc 12021) 19 = .ok (.iconst (-1), 1) := by decide +kernel
theorem k12021_20 : decode (qc 12021) 20 = .ok (.if_icmp .ne 74, 3) := by decide +kernel
theorem k12021_23 : decode (qc 12021) 23 = .ok (.aload_n 0, 1) := by decide +kernel
theorem k12021_24 : decode (qc 12021) 24 = .ok (.invokevirtual 182, 3) := by decide +kernel
theorem k12021_27 : decode (qc 12021) 27 = .ok (.aload_n 0, 1) := by decide +kernel
theorem k12021_28 : decode (qc 12021) 28 = .ok (.bipush 9, 2) := by decide +kernel
theorem k12021_30 : decode (qc 12021) 30 = .ok (.iconst 0, 1) := by decide +kernel
theorem k12021_31 : decode (qc 12021) 31 = .ok (.invokevirtual 155, 3) := by decide +kernel
theorem k12021_34 : decode (qc 12021) 34 = .ok (.aload_n 0, 1) := by decide +kernel
theorem k12021_35 : decode (qc 12021) 35 = .ok (.dup, 1) := by decide +kernel
theorem k12021_36 : decode (qc 12021) 36 = .ok (.getfield 139, 3) := by decide +kernel
theorem k12021_39 : decode (qc 12021) 39 = .ok (.iconst 1, 1) := by decide +kernel
theorem k12021_40 : decode (qc 12021) 40 = .ok (.isub, 1) := by decide +kernel
theorem k12021_41 : decode (qc 12021) 41 = .ok (.putfield 139, 3) := by decide +kernel
theorem k12021_44 : decode (qc 12021) 44 = .ok (.goto 50, 3) := by decide +kernel
theorem k12021_47 : decode (qc 12021) 47 = .ok (.iload_n 1, 1) := by decide +kernel
theorem k12021_48 : decode (qc 12021) 48 = .ok (.bipush 40, 2) := by decide +kernel
theorem k12021_50 : decode (qc 12021) 50 = .ok (.if_icmp .ne 28, 3) := by decide +kernel
theorem k12021_53 : decode (qc 12021) 53 = .ok (.aload_n 0, 1) := by decide +kernel
theorem k12021_54 : decode (qc 12021) 54 = .ok (.invokevirtual 163, 3) := by decide +kernel
theorem k12021_57 : decode (qc 12021) 57 = .ok (.aload_n 0, 1) := by decide +kernel
theorem k12021_58 : decode (qc 12021) 58 = .ok (.getfield 133, 3) := by decide +kernel
theorem k12021_61 : decode (qc 12021) 61 = .ok (.iconst (-1), 1) := by decide +kernel
theorem k12021_62 : decode (qc 12021) 62 = .ok (.if_icmp .ne 32, 3) := by decide +kernel
theorem k12021_65 : decode (qc 12021) 65 = .ok (.aload_n 0, 1) := by decide +kernel
theorem k12021_66 : decode (qc 12021) 66 = .ok (.invokevirtual 185, 3) := by decide +kernel
theorem k12021_69 : decode (qc 12021) 69 = .ok (.aload_n 0, 1) := by decide +kernel
theorem k12021_70 : decode (qc 12021) 70 = .ok (.bipush 41, 2) := by decide +kernel
theorem k12021_72 : decode (qc 12021) 72 = .ok (.invokevirtual 169, 3) := by decide +kernel
theorem k12021_75 : decode (qc 12021) 75 = .ok (.goto 19, 3) := by decide +kernel
theorem k12021_78 : decode (qc 12021) 78 = .ok (.aload_n 0, 1) := by decide +kernel
theorem k12021_79 : decode (qc 12021) 79 = .ok (.invokevirtual 166, 3) := by decide +kernel
theorem k12021_82 : decode (qc 12021) 82 = .ok (.aload_n 0, 1) := by decide +kernel
theorem k12021_83 : decode (qc 12021) 83 = .ok (.getfield 133, 3) := by decide +kernel
theorem k12021_86 : decode (qc 12021) 86 = .ok (.iconst (-1), 1) := by decide +kernel
theorem k12021_87 : decode (qc 12021) 87 = .ok (.if_icmp .ne 7, 3) := by decide +kernel
theorem k12021_90 : decode (qc 12021) 90 = .ok (.aload_n 0, 1) := by decide +kernel
theorem k12021_91 : decode (qc 12021) 91 = .ok (.invokevirtual 188, 3) := by decide +kernel
theorem k12021_94 : decode (qc 12021) 94 = .ok (.return_, 1) := by decide +kernel
theorem k12022_0 : decode (qc 12022) 0 = .ok (.aload_n 0, 1) := by decide +kernel
theorem k12022_1 : decode (qc 12022) 1 = .ok (.getfield 133, 3) := by decide +kernel
theorem k12022_4 : decode (qc 12022) 4 = .ok (.iconst (-1), 1) := by decide +kernel
theorem k12022_5 : decode (qc 12022) 5 = .ok (.if_icmp .ne 36, 3) := by decide +kernel
theorem k12022_8 : decode (qc 12022) 8 = .ok (.aload_n 0, 1) := by decide +kernel
theorem k12022_9 : decode (qc 12022) 9 = .ok (.invokevirtual 145, 3) := by decide +kernel
theorem k12022_12 : decode (qc 12022) 12 = .ok (.bipush 38, 2) := by decide +kernel
theorem k12022_14 : decode (qc 12022) 14 = .ok (.if_icmp .ne 27, 3) := by decide +kernel
theorem k12022_17 : decode (qc 12022) 17 = .ok (.aload_n 0, 1) := by decide +kernel
theorem k12022_18 : decode (qc 12022) 18 = .ok (.dup, 1) := by decide +kernel
theorem k12022_19 : decode (qc 12022) 19 = .ok (.getfield 126, 3) := by decide +kernel
theorem k12022_22 : decode (qc 12022) 22 = .ok (.iconst 1, 1) := by decide +kernel
theorem k12022_23 : decode (qc 12022) 23 = .ok (.iadd, 1) := by decide +kernel
theorem k12022_24 : decode (qc 12022) 24 = .ok (.putfield 126, 3) := by decide +kernel
theorem k12022_27 : decode (qc 12022) 27 = .ok (.aload_n 0, 1) := by decide +kernel
theorem k12022_28 : decode (qc 12022) 28 = .ok (.invokevirtual 182, 3) := by decide +kernel
theorem k12022_31 : decode (qc 12022) 31 = .ok (.aload_n 0, 1) := by decide +kernel
theorem k12022_32 : decode (qc 12022) 32 = .ok (.bipush 10, 2) := by decide +kernel
theorem k12022_34 : decode (qc 12022) 34 = .ok (.iconst 0, 1) := by decide +kernel
theorem k12022_35 : decode (qc 12022) 35 = .ok (.invokevirtual 155, 3) := by decide +kernel
theorem k12022_38 : decode (qc 12022) 38 = .ok (.goto (-38), 3) := by decide +kernel
theorem k12022_41 : decode (qc 12022) 41 = .ok (.return_, 1) := by decide +kernel
theorem k12023_0 : decode (qc 12023) 0 = .ok (.aload_n 0, 1) := by decide +kernel
theorem k12023_1 : decode (qc 12023) 1 = .ok (.getfield 133, 3) := by decide +kernel
theorem k12023_4 : decode (qc 12023) 4 = .ok (.iconst (-1), 1) := by decide +kernel
theorem k12023_5 : decode (qc 12023) 5 = .ok (.if_icmp .ne 40, 3) := by decide +kernel
theorem k12023_8 : decode (qc 12023) 8 = .ok (.aload_n 0, 1) := by decide +kernel
theorem k12023_9 : decode (qc 12023) 9 = .ok (.invokevirtual 145, 3) := by decide +kernel
theorem k12023_12 : decode (qc 12023) 12 = .ok (.bipush 124, 2) := by decide +kernel
theorem k12023_14 : decode (qc 12023) 14 = .ok (.if_icmp .ne 31, 3) := by decide +kernel
theorem k12023_17 : decode (qc 12023) 17 = .ok (.aload_n 0, 1) := by decide +kernel
theorem k12023_18 : decode (qc 12023) 18 = .ok (.dup, 1) := by decide +kernel
theorem k12023_19 : decode (qc 12023) 19 = .ok (.getfield 126, 3) := by decide +kernel
theorem k12023_22 : decode (qc 12023) 22 = .ok (.iconst 1, 1) := by decide +kernel
theorem k12023_23 : decode (qc 12023) 23 = .ok (.iadd, 1) := by decide +kernel
theorem k12023_24 : decode (qc 12023) 24 = .ok (.putfield 126, 3) := by decide +kernel
theorem k12023_27 : decode (qc 12023) 27 = .ok (.aload_n 0, 1) := by decide +kernel
theorem k12023_28 : decode (qc 12023) 28 = .ok (.invokevirtual 182, 3) := by decide +kernel
theorem k12023_31 : decode (qc 12023) 31 = .ok (.aload_n 0, 1) := by decide +kernel
theorem k12023_32 : decode (qc 12023) 32 = .ok (.invokevirtual 191, 3) := by decide +kernel
theorem k12023_35 : decode (qc 12023) 35 = .ok (.aload_n 0, 1) := by decide +kernel
theorem k12023_36 : decode (qc 12023) 36 = .ok (.bipush 11, 2) := by decide +kernel
theorem k12023_38 : decode (qc 12023) 38 = .ok (.iconst 0, 1) := by decide +kernel
theorem k12023_39 : decode (qc 12023) 39 = .ok (.invokevirtual 155, 3) := by decide +kernel
theorem k12023_42 : decode (qc 12023) 42 = .ok (.goto (-42), 3) := by decide +kernel
theorem k12023_45 : decode (qc 12023) 45 = .ok (.return_, 1) := by decide +kernel
theorem k12024_0 : decode (qc 12024) 0 = .ok (.aload_n 0, 1) := by decide +kernel
theorem k12024_1 : decode (qc 12024) 1 = .ok (.invokevirtual 182, 3) := by decide +kernel
theorem k12024_4 : decode (qc 12024) 4 = .ok (.aload_n 0, 1) := by decide +kernel
theorem k12024_5 : decode (qc 12024) 5 = .ok (.invokevirtual 191, 3) := by decide +kernel
theorem k12024_8 : decode (qc 12024) 8 = .ok (.aload_n 0, 1) := by decide +kernel
theorem k12024_9 : decode (qc 12024) 9 = .ok (.invokevirtual 194, 3) := by decide +kernel
theorem k12024_12 : decode (qc 12024) 12 = .ok (.return_, 1) := by decide +kernel
theorem k12025_0 : decode (qc 12025) 0 = .ok (.bipush 90, 2) := by decide +kernel
theorem k12025_2 : decode (qc 12025) 2 = .ok (.aload_n 0, 1) := by decide +kernel
theorem k12025_3 : decode (qc 12025) 3 = .ok (.getfield 136, 3) := by decide +kernel
theorem k12025_6 : decode (qc 12025) 6 = .ok (.imul, 1) := by decide +kernel
theorem k12025_7 : decode (qc 12025) 7 = .ok (.aload_n 0, 1) := by decide +kernel
theorem k12025_8 : decode (qc 12025) 8 = .ok (.getfield 22, 3) := by decide +kernel
theorem k12025_11 : decode (qc 12025) 11 = .ok (.aload_n 0, 1) := by decide +kernel
theorem k12025_12 : decode (qc 12025) 12 = .ok (.getfield 136, 3) := by decide +kernel
theorem k12025_15 : decode (qc 12025) 15 = .ok (.iaload, 1) := by decide +kernel
theorem k12025_16 : decode (qc 12025) 16 = .ok (.iadd, 1) := by decide +kernel
theorem k12025_17 : decode (qc 12025) 17 = .ok (.istore_n 1, 1) := by decide +kernel
theorem k12025_18 : decode (qc 12025) 18 = .ok (.aload_n 0, 1) := by decide +kernel
theorem k12025_19 : decode (qc 12025) 19 = .ok (.getfield 133, 3) := by decide +kernel
theorem k12025_22 : decode (qc 12025) 22 = .ok (.iconst (-1), 1) := by decide +kernel
theorem k12025_23 : decode (qc 12025) 23 = .ok (.if_icmp .ne 16, 3) := by decide +kernel
theorem k12025_26 : decode (qc 12025) 26 = .ok (.aload_n 0, 1) := by decide +kernel
theorem k12025_27 : decode (qc 12025) 27 = .ok (.invokevirtual 145, 3) := by decide +kernel
theorem k12025_30 : decode (qc 12025) 30 = .ok (.bipush 121, 2) := by decide +kernel
theorem k12025_32 : decode (qc 12025) 32 = .ok (.if_icmp .eq 7, 3) := by decide +kernel
theorem k12025_35 : decode (qc 12025) 35 = .ok (.aload_n 0, 1) := by decide +kernel
theorem k12025_36 : decode (qc 12025) 36 = .ok (.invokevirtual 142, 3) := by decide +kernel
theorem k12025_39 : decode (qc 12025) 39 = .ok (.aload_n 0, 1) := by decide +kernel
theorem k12025_40 : decode (qc 12025) 40 = .ok (.dup, 1) := by decide +kernel
theorem k12025_41 : decode (qc 12025) 41 = .ok (.getfield 126, 3) := by decide +kernel
theorem k12025_44 : decode (qc 12025) 44 = .ok (.iconst 1, 1) := by decide +kernel
theorem k12025_45 : decode (qc 12025) 45 = .ok (.iadd, 1) := by decide +kernel
theorem k12025_46 : decode (qc 12025) 46 = .ok (.putfield 126, 3) := by decide +kernel
theorem k12025_49 : decode (qc 12025) 49 = .ok (.aload_n 0, 1) := by decide +kernel
theorem k12025_50 : decode (qc 12025) 50 = .ok (.getfield 133, 3) := by decide +kernel
theorem k12025_53 : decode (qc 12025) 53 = .ok (.iconst (-1), 1) := by decide +kernel
theorem k12025_54 : decode (qc 12025) 54 = .ok (.if_icmp .ne 16, 3) := by decide +kernel
theorem k12025_57 : decode (qc 12025) 57 = .ok (.aload_n 0, 1) := by decide +kernel
theorem k12025_58 : decode (qc 12025) 58 = .ok (.invokevirtual 145, 3) := by decide +kernel
theorem k12025_61 : decode (qc 12025) 61 = .ok (.bipush 58, 2) := by decide +kernel
theorem k12025_63 : decode (qc 12025) 63 = .ok (.if_icmp .eq 7, 3) := by decide +kernel
theorem k12025_66 : decode (qc 12025) 66 = .ok (.aload_n 0, 1) := by decide +kernel
theorem k12025_67 : decode (qc 12025) 67 = .ok (.invokevirtual 142, 3) := by decide +kernel
theorem k12025_70 : decode (qc 12025) 70 = .ok (.aload_n 0, 1) := by decide +kernel
theorem k12025_71 : decode (qc 12025) 71 = .ok (.dup, 1) := by decide +kernel
theorem k12025_72 : decode (qc 12025) 72 = .ok (.getfield 126, 3) := by decide +kernel
theorem k12025_75 : decode (qc 12025) 75 = .ok (.iconst 1, 1) := by decide +kernel
theorem k12025_76 : decode (qc 12025) 76 = .ok (.iadd, 1) := by decide +kernel
theorem k12025_77 : decode (qc 12025) 77 = .ok (.putfield 126, 3) := by decide +kernel
theorem k12025_80 : decode (qc 12025) 80 = .ok (.aload_n 0, 1) := by decide +kernel
theorem k12025_81 : decode (qc 12025) 81 = .ok (.getfield 133, 3) := by decide +kernel
theorem k12025_84 : decode (qc 12025) 84 = .ok (.iconst (-1), 1) := by decide +kernel
theorem k12025_85 : decode (qc 12025) 85 = .ok (.if_icmp .eq 4, 3) := by decide +kernel
theorem k12025_88 : decode (qc 12025) 88 = .ok (.return_, 1) := by decide +kernel
theorem k12025_89 : decode (qc 12025) 89 = .ok (.aload_n 0, 1) := by decide +kernel
theorem k12025_90 : decode (qc 12025) 90 = .ok (.getfield 25, 3) := by decide +kernel
theorem k12025_93 : decode (qc 12025) 93 = .ok (.iload_n 1, 1) := by decide +kernel
theorem k12025_94 : decode (qc 12025) 94 = .ok (.aload_n 0, 1) := by decide +kernel
theorem k12025_95 : decode (qc 12025) 95 = .ok (.getfield 19, 3) := by decide +kernel
theorem k12025_98 : decode (qc 12025) 98 = .ok (.aload_n 0, 1) := by decide +kernel
theorem k12025_99 : decode (qc 12025) 99 = .ok (.getfield 136, 3) := by decide +kernel
theorem k12025_102 : decode (qc 12025) 102 = .ok (.iaload, 1) := by decide +kernel
theorem k12025_103 : decode (qc 12025) 103 = .ok (.iastore, 1) := by decide +kernel
theorem k12025_104 : decode (qc 12025) 104 = .ok (.aload_n 0, 1) := by decide +kernel
theorem k12025_105 : decode (qc 12025) 105 = .ok (.invokevirtual 145, 3) := by decide +kernel
theorem k12025_108 : decode (qc 12025) 108 = .ok (.bipush 33, 2) := by decide +kernel
theorem k12025_110 : decode (qc 12025) 110 = .ok (.if_icmp .eq 12, 3) := by decide +kernel
theorem k12025_113 : decode (qc 12025) 113 = .ok (.aload_n 0, 1) := by decide +kernel
theorem k12025_114 : decode (qc 12025) 114 = .ok (.invokevirtual 145, 3) := by decide +kernel
theorem k12025_117 : decode (qc 12025) 117 = .ok (.bipush 40, 2) := by decide +kernel
theorem k12025_119 : decode (qc 12025) 119 = .ok (.if_icmp .ne 7, 3) := by decide +kernel
theorem k12025_122 : decode (qc 12025) 122 = .ok (.iconst 1, 1) := by decide +kernel
theorem k12025_123 : decode (qc 12025) 123 = .ok (.goto 4, 3) := by decide +kernel
theorem k12025_126 : decode (qc 12025) 126 = .ok (.iconst 0, 1) := by decide +kernel
theorem k12025_127 : decode (qc 12025) 127 = .ok (.istore_n 2, 1) := by decide +kernel
theorem k12025_128 : decode (qc 12025) 128 = .ok (.iload_n 2, 1) := by decide +kernel
theorem k12025_129 : decode (qc 12025) 129 = .ok (.ifCond .eq 10, 3) := by decide +kernel
theorem k12025_132 : decode (qc 12025) 132 = .ok (.aload_n 0, 1) := by decide +kernel
theorem k12025_133 : decode (qc 12025) 133 = .ok (.invokevirtual 185, 3) := by decide +kernel
theorem k12025_136 : decode (qc 12025) 136 = .ok (.goto 47, 3) := by decide +kernel
theorem k12025_139 : decode (qc 12025) 139 = .ok (.aload_n 0, 1) := by decide +kernel
theorem k12025_140 : decode (qc 12025) 140 = .ok (.invokevirtual 166, 3) := by decide +kernel
theorem k12025_143 : decode (qc 12025) 143 = .ok (.aload_n 0, 1) := by decide +kernel
theorem k12025_144 : decode (qc 12025) 144 = .ok (.getfield 133, 3) := by decide +kernel
theorem k12025_147 : decode (qc 12025) 147 = .ok (.iconst (-1), 1) := by decide +kernel
theorem k12025_148 : decode (qc 12025) 148 = .ok (.if_icmp .ne 17, 3) := by decide +kernel
theorem k12025_151 : decode (qc 12025) 151 = .ok (.aload_n 0, 1) := by decide +kernel
theorem k12025_152 : decode (qc 12025) 152 = .ok (.invokevirtual 145, 3) := by decide +kernel
theorem k12025_155 : decode (qc 12025) 155 = .ok (.invokestatic 179, 3) := by decide +kernel
theorem k12025_158 : decode (qc 12025) 158 = .ok (.ifCond .eq 7, 3) := by decide +kernel
theorem k12025_161 : decode (qc 12025) 161 = .ok (.iconst 1, 1) := by decide +kernel
theorem k12025_162 : decode (qc 12025) 162 = .ok (.goto 4, 3) := by decide +kernel
theorem k12025_165 : decode (qc 12025) 165 = .ok (.iconst 0, 1) := by decide +kernel
theorem k12025_166 : decode (qc 12025) 166 = .ok (.istore_n 2, 1) := by decide +kernel
theorem k12025_167 : decode (qc 12025) 167 = .ok (.iload_n 2, 1) := by decide +kernel
theorem k12025_168 : decode (qc 12025) 168 = .ok (.ifCond .eq 15, 3) := by decide +kernel
theorem k12025_171 : decode (qc 12025) 171 = .ok (.aload_n 0, 1) := by decide +kernel
theorem k12025_172 : decode (qc 12025) 172 = .ok (.invokevirtual 188, 3) := by decide +kernel
theorem k12025_175 : decode (qc 12025) 175 = .ok (.aload_n 0, 1) := by decide +kernel
theorem k12025_176 : decode (qc 12025) 176 = .ok (.invokevirtual 191, 3) := by decide +kernel
theorem k12025_179 : decode (qc 12025) 179 = .ok (.aload_n 0, 1) := by decide +kernel
theorem k12025_180 : decode (qc 12025) 180 = .ok (.invokevirtual 194, 3) := by decide +kernel
theorem k12025_183 : decode (qc 12025) 183 = .ok (.aload_n 0, 1) := by decide +kernel
theorem k12025_184 : decode (qc 12025) 184 = .ok (.getfield 28, 3) := by decide +kernel
theorem k12025_187 : decode (qc 12025) 187 = .ok (.iload_n 1, 1) := by decide +kernel
theorem k12025_188 : decode (qc 12025) 188 = .ok (.aload_n 0, 1) := by decide +kernel
theorem k12025_189 : decode (qc 12025) 189 = .ok (.getfield 25, 3) := by decide +kernel
theorem k12025_192 : decode (qc 12025) 192 = .ok (.iload_n 1, 1) := by decide +kernel
theorem k12025_193 : decode (qc 12025) 193 = .ok (.iaload, 1) := by decide +kernel
theorem k12025_194 : decode (qc 12025) 194 = .ok (.iastore, 1) := by decide +kernel
theorem k12025_195 : decode (qc 12025) 195 = .ok (.iload_n 2, 1) := by decide +kernel
theorem k12025_196 : decode (qc 12025) 196 = .ok (.ifCond .eq 54, 3) := by decide +kernel
theorem k12025_199 : decode (qc 12025) 199 = .ok (.aload_n 0, 1) := by decide +kernel
theorem k12025_200 : decode (qc 12025) 200 = .ok (.getfield 133, 3) := by decide +kernel
theorem k12025_203 : decode (qc 12025) 203 = .ok (.iconst (-1), 1) := by decide +kernel
theorem k12025_204 : decode (qc 12025) 204 = .ok (.if_icmp .ne 46, 3) := by decide +kernel
theorem k12025_207 : decode (qc 12025) 207 = .ok (.aload_n 0, 1) := by decide +kernel
theorem k12025_208 : decode (qc 12025) 208 = .ok (.invokevirtual 145, 3) := by decide +kernel
theorem k12025_211 : decode (qc 12025) 211 = .ok (.bipush 63, 2) := by decide +kernel
theorem k12025_213 : decode (qc 12025) 213 = .ok (.if_icmp .eq 8, 3) := by decide +kernel
theorem k12025_216 : decode (qc 12025) 216 = .ok (.aload_n 0, 1) := by decide +kernel
theorem k12025_217 : decode (qc 12025) 217 = .ok (.invokevirtual 142, 3) := by decide +kernel
theorem k12025_220 : decode (qc 12025) 220 = .ok (.return_, 1) := by decide +kernel
theorem k12025_221 : decode (qc 12025) 221 = .ok (.aload_n 0, 1) := by decide +kernel
theorem k12025_222 : decode (qc 12025) 222 = .ok (.dup, 1) := by decide +kernel
theorem k12025_223 : decode (qc 12025) 223 = .ok (.getfield 126, 3) := by decide +kernel
theorem k12025_226 : decode (qc 12025) 226 = .ok (.iconst 1, 1) := by decide +kernel
theorem k12025_227 : decode (qc 12025) 227 = .ok (.iadd, 1) := by decide +kernel
theorem k12025_228 : decode (qc 12025) 228 = .ok (.putfield 126, 3) := by decide +kernel
theorem k12025_231 : decode (qc 12025) 231 = .ok (.aload_n 0, 1) := by decide +kernel
theorem k12025_232 : decode (qc 12025) 232 = .ok (.getfield 28, 3) := by decide +kernel
theorem k12025_235 : decode (qc 12025) 235 = .ok (.iload_n 1, 1) := by decide +kernel
theorem k12025_236 : decode (qc 12025) 236 = .ok (.aload_n 0, 1) := by decide +kernel
theorem k12025_237 : decode (qc 12025) 237 = .ok (.getfield 19, 3) := by decide +kernel
theorem k12025_240 : decode (qc 12025) 240 = .ok (.aload_n 0, 1) := by decide +kernel
theorem k12025_241 : decode (qc 12025) 241 = .ok (.getfield 136, 3) := by decide +kernel
theorem k12025_244 : decode (qc 12025) 244 = .ok (.iaload, 1) := by decide +kernel
theorem k12025_245 : decode (qc 12025) 245 = .ok (.iastore, 1) := by decide +kernel
theorem k12025_246 : decode (qc 12025) 246 = .ok (.aload_n 0, 1) := by decide +kernel
theorem k12025_247 : decode (qc 12025) 247 = .ok (.invokevirtual 166, 3) := by decide +kernel
theorem k12025_250 : decode (qc 12025) 250 = .ok (.aload_n 0, 1) := by decide +kernel
theorem k12025_251 : decode (qc 12025) 251 = .ok (.getfield 31, 3) := by decide +kernel
theorem k12025_254 : decode (qc 12025) 254 = .ok (.iload_n 1, 1) := by decide +kernel
theorem k12025_255 : decode (qc 12025) 255 = .ok (.aload_n 0, 1) := by decide +kernel
theorem k12025_256 : decode (qc 12025) 256 = .ok (.getfield 19, 3) := by decide +kernel
theorem k12025_259 : decode (qc 12025) 259 = .ok (.aload_n 0, 1) := by decide +kernel
theorem k12025_260 : decode (qc 12025) 260 = .ok (.getfield 136, 3) := by decide +kernel
theorem k12025_263 : decode (qc 12025) 263 = .ok (.iaload, 1) := by decide +kernel
theorem k12025_264 : decode (qc 12025) 264 = .ok (.iastore, 1) := by decide +kernel
theorem k12025_265 : decode (qc 12025) 265 = .ok (.aload_n 0, 1) := by decide +kernel
theorem k12025_266 : decode (qc 12025) 266 = .ok (.getfield 22, 3) := by decide +kernel
theorem k12025_269 : decode (qc 12025) 269 = .ok (.aload_n 0, 1) := by decide +kernel
theorem k12025_270 : decode (qc 12025) 270 = .ok (.getfield 136, 3) := by decide +kernel
theorem k12025_273 : decode (qc 12025) 273 = .ok (.dup2, 1) := by decide +kernel
theorem k12025_274 : decode (qc 12025) 274 = .ok (.iaload, 1) := by decide +kernel
theorem k12025_275 : decode (qc 12025) 275 = .ok (.iconst 1, 1) := by decide +kernel
theorem k12025_276 : decode (qc 12025) 276 = .ok (.iadd, 1) := by decide +kernel
theorem k12025_277 : decode (qc 12025) 277 = .ok (.iastore, 1) := by decide +kernel
theorem k12025_278 : decode (qc 12025) 278 = .ok (.return_, 1) := by decide +kernel
theorem k12026_0 : decode (qc 12026) 0 = .ok (.aload_n 0, 1) := by decide +kernel
theorem k12026_1 : decode (qc 12026) 1 = .ok (.iload_n 1, 1) := by decide +kernel
theorem k12026_2 : decode (qc 12026) 2 = .ok (.putfield 136, 3) := by decide +kernel
theorem k12026_5 : decode (qc 12026) 5 = .ok (.aload_n 0, 1) := by decide +kernel
theorem k12026_6 : decode (qc 12026) 6 = .ok (.iconst 0, 1) := by decide +kernel
theorem k12026_7 : decode (qc 12026) 7 = .ok (.putfield 126, 3) := by decide +kernel
theorem k12026_10 : decode (qc 12026) 10 = .ok (.aload_n 0, 1) := by decide +kernel
theorem k12026_11 : decode (qc 12026) 11 = .ok (.iconst (-1), 1) := by decide +kernel
theorem k12026_12 : decode (qc 12026) 12 = .ok (.putfield 133, 3) := by decide +kernel
theorem k12026_15 : decode (qc 12026) 15 = .ok (.aload_n 0, 1) := by decide +kernel
theorem k12026_16 : decode (qc 12026) 16 = .ok (.iconst 0, 1) := by decide +kernel
theorem k12026_17 : decode (qc 12026) 17 = .ok (.putfield 139, 3) := by decide +kernel
theorem k12026_20 : decode (qc 12026) 20 = .ok (.aload_n 0, 1) := by decide +kernel
theorem k12026_21 : decode (qc 12026) 21 = .ok (.getfield 19, 3) := by decide +kernel
theorem k12026_24 : decode (qc 12026) 24 = .ok (.iload_n 1, 1) := by decide +kernel
theorem k12026_25 : decode (qc 12026) 25 = .ok (.iconst 0, 1) := by decide +kernel
theorem k12026_26 : decode (qc 12026) 26 = .ok (.iastore, 1) := by decide +kernel
theorem k12026_27 : decode (qc 12026) 27 = .ok (.aload_n 0, 1) := by decide +kernel
theorem k12026_28 : decode (qc 12026) 28 = .ok (.getfield 22, 3) := by decide +kernel
theorem k12026_31 : decode (qc 12026) 31 = .ok (.iload_n 1, 1) := by decide +kernel
theorem k12026_32 : decode (qc 12026) 32 = .ok (.iconst 0, 1) := by decide +kernel
theorem k12026_33 : decode (qc 12026) 33 = .ok (.iastore, 1) := by decide +kernel
theorem k12026_34 : decode (qc 12026) 34 = .ok (.return_, 1) := by decide +kernel
theorem k12027_0 : decode (qc 12027) 0 = .ok (.aload_n 0, 1) := by decide +kernel
theorem k12027_1 : decode (qc 12027) 1 = .ok (.getfield 133, 3) := by decide +kernel
theorem k12027_4 : decode (qc 12027) 4 = .ok (.iconst (-1), 1) := by decide +kernel
theorem k12027_5 : decode (qc 12027) 5 = .ok (.if_icmp .ne 15, 3) := by decide +kernel
theorem k12027_8 : decode (qc 12027) 8 = .ok (.aload_n 0, 1) := by decide +kernel
theorem k12027_9 : decode (qc 12027) 9 = .ok (.invokevirtual 145, 3) := by decide +kernel
theorem k12027_12 : decode (qc 12027) 12 = .ok (.iconst (-1), 1) := by decide +kernel
theorem k12027_13 : decode (qc 12027) 13 = .ok (.if_icmp .eq 7, 3) := by decide +kernel
theorem k12027_16 : decode (qc 12027) 16 = .ok (.aload_n 0, 1) := by decide +kernel
theorem k12027_17 : decode (qc 12027) 17 = .ok (.invokevirtual 142, 3) := by decide +kernel
theorem k12027_20 : decode (qc 12027) 20 = .ok (.aload_n 0, 1) := by decide +kernel
theorem k12027_21 : decode (qc 12027) 21 = .ok (.getfield 133, 3) := by decide +kernel
theorem k12027_24 : decode (qc 12027) 24 = .ok (.ireturn, 1) := by decide +kernel
theorem k12028_0 : decode (qc 12028) 0 = .ok (.aload_n 0, 1) := by decide +kernel
theorem k12028_1 : decode (qc 12028) 1 = .ok (.iload_n 1, 1) := by decide +kernel
theorem k12028_2 : decode (qc 12028) 2 = .ok (.invokevirtual 197, 3) := by decide +kernel
theorem k12028_5 : decode (qc 12028) 5 = .ok (.aload_n 0, 1) := by decide +kernel
theorem k12028_6 : decode (qc 12028) 6 = .ok (.invokevirtual 200, 3) := by decide +kernel
theorem k12028_9 : decode (qc 12028) 9 = .ok (.aload_n 0, 1) := by decide +kernel
theorem k12028_10 : decode (qc 12028) 10 = .ok (.getfield 133, 3) := by decide +kernel
theorem k12028_13 : decode (qc 12028) 13 = .ok (.iconst (-1), 1) := by decide +kernel
theorem k12028_14 : decode (qc 12028) 14 = .ok (.if_icmp .ne 29, 3) := by decide +kernel
theorem k12028_17 : decode (qc 12028) 17 = .ok (.aload_n 0, 1) := by decide +kernel
theorem k12028_18 : decode (qc 12028) 18 = .ok (.invokevirtual 145, 3) := by decide +kernel
theorem k12028_21 : decode (qc 12028) 21 = .ok (.bipush 59, 2) := by decide +kernel
theorem k12028_23 : decode (qc 12028) 23 = .ok (.if_icmp .ne 20, 3) := by decide +kernel
theorem k12028_26 : decode (qc 12028) 26 = .ok (.aload_n 0, 1) := by decide +kernel
theorem k12028_27 : decode (qc 12028) 27 = .ok (.dup, 1) := by decide +kernel
theorem k12028_28 : decode (qc 12028) 28 = .ok (.getfield 126, 3) := by decide +kernel
theorem k12028_31 : decode (qc 12028) 31 = .ok (.iconst 1, 1) := by decide +kernel
theorem k12028_32 : decode (qc 12028) 32 = .ok (.iadd, 1) := by decide +kernel
theorem k12028_33 : decode (qc 12028) 33 = .ok (.putfield 126, 3) := by decide +kernel
theorem k12028_36 : decode (qc 12028) 36 = .ok (.aload_n 0, 1) := by decide +kernel
theorem k12028_37 : decode (qc 12028) 37 = .ok (.invokevirtual 200, 3) := by decide +kernel
theorem k12028_40 : decode (qc 12028) 40 = .ok (.goto (-31), 3) := by decide +kernel
theorem k12028_43 : decode (qc 12028) 43 = .ok (.aload_n 0, 1) := by decide +kernel
theorem k12028_44 : decode (qc 12028) 44 = .ok (.invokevirtual 203, 3) := by decide +kernel
theorem k12028_47 : decode (qc 12028) 47 = .ok (.ireturn, 1) := by decide +kernel
theorem k12029_0 : decode (qc 12029) 0 = .ok (.ldc2_w 206, 3) := by decide +kernel
theorem k12029_3 : decode (qc 12029) 3 = .ok (.ldc2_w 208, 3) := by decide +kernel
theorem k12029_6 : decode (qc 12029) 6 = .ok (.lload_n 0, 1) := by decide +kernel
theorem k12029_7 : decode (qc 12029) 7 = .ok (.invokestatic 210, 3) := by decide +kernel
theorem k12029_10 : decode (qc 12029) 10 = .ok (.invokestatic 216, 3) := by decide +kernel
theorem k12029_13 : decode (qc 12029) 13 = .ok (.l2i, 1) := by decide +kernel
theorem k12029_14 : decode (qc 12029) 14 = .ok (.ireturn, 1) := by decide +kernel
theorem k12030_0 : decode (qc 12030) 0 = .ok (.iload_n 0, 1) := by decide +kernel
theorem k12030_1 : decode (qc 12030) 1 = .ok (.tableswitch 143 2 10 #[51, 58, 65, 72, 89, 101, 113, 143, 125], 51) := by decide +kernel
theorem k12030_52 : decode (qc 12030) 52 = .ok (.lload_n 1, 1) := by decide +kernel
theorem k12030_53 : decode (qc 12030) 53 = .ok (.lload_n 3, 1) := by decide +kernel
theorem k12030_54 : decode (qc 12030) 54 = .ok (.ladd, 1) := by decide +kernel
theorem k12030_55 : decode (qc 12030) 55 = .ok (.invokestatic 219, 3) := by decide +kernel
theorem k12030_58 : decode (qc 12030) 58 = .ok (.ireturn, 1) := by decide +kernel
theorem k12030_59 : decode (qc 12030) 59 = .ok (.lload_n 1, 1) := by decide +kernel
theorem k12030_60 : decode (qc 12030) 60 = .ok (.lload_n 3, 1) := by decide +kernel
theorem k12030_61 : decode (qc 12030) 61 = .ok (.lsub, 1) := by decide +kernel
theorem k12030_62 : decode (qc 12030) 62 = .ok (.invokestatic 219, 3) := by decide +kernel
theorem k12030_65 : decode (qc 12030) 65 = .ok (.ireturn, 1) := by decide +kernel
theorem k12030_66 : decode (qc 12030) 66 = .ok (.lload_n 1, 1) := by decide +kernel
theorem k12030_67 : decode (qc 12030) 67 = .ok (.lload_n 3, 1) := by decide +kernel
theorem k12030_68 : decode (qc 12030) 68 = .ok (.lmul, 1) := by decide +kernel
theorem k12030_69 : decode (qc 12030) 69 = .ok (.invokestatic 219, 3) := by decide +kernel
theorem k12030_72 : decode (qc 12030) 72 = .ok (.ireturn, 1) := by decide +kernel
theorem k12030_73 : decode (qc 12030) 73 = .ok (.lload_n 3, 1) := by decide +kernel
theorem k12030_74 : decode (qc 12030) 74 = .ok (.lconst 0, 1) := by decide +kernel
theorem k12030_75 : decode (qc 12030) 75 = .ok (.lcmp, 1) := by decide +kernel
theorem k12030_76 : decode (qc 12030) 76 = .ok (.ifCond .ne 7, 3) := by decide +kernel
theorem k12030_79 : decode (qc 12030) 79 = .ok (.iconst 0, 1) := by decide +kernel
theorem k12030_80 : decode (qc 12030) 80 = .ok (.goto 9, 3) := by decide +kernel
theorem k12030_83 : decode (qc 12030) 83 = .ok (.lload_n 1, 1) := by decide +kernel
theorem k12030_84 : decode (qc 12030) 84 = .ok (.lload_n 3, 1) := by decide +kernel
theorem k12030_85 : decode (qc 12030) 85 = .ok (.ldiv, 1) := by decide +kernel
theorem k12030_86 : decode (qc 12030) 86 = .ok (.invokestatic 219, 3) := by decide +kernel
theorem k12030_89 : decode (qc 12030) 89 = .ok (.ireturn, 1) := by decide +kernel
theorem k12030_90 : decode (qc 12030) 90 = .ok (.lload_n 1, 1) := by decide +kernel
theorem k12030_91 : decode (qc 12030) 91 = .ok (.lload_n 3, 1) := by decide +kernel
theorem k12030_92 : decode (qc 12030) 92 = .ok (.lcmp, 1) := by decide +kernel
theorem k12030_93 : decode (qc 12030) 93 = .ok (.ifCond .ne 7, 3) := by decide +kernel
theorem k12030_96 : decode (qc 12030) 96 = .ok (.iconst 1, 1) := by decide +kernel
theorem k12030_97 : decode (qc 12030) 97 = .ok (.goto 4, 3) := by decide +kernel
theorem k12030_100 : decode (qc 12030) 100 = .ok (.iconst 0, 1) := by decide +kernel
theorem k12030_101 : decode (qc 12030) 101 = .ok (.ireturn, 1) := by decide +kernel
theorem k12030_102 : decode (qc 12030) 102 = .ok (.lload_n 1, 1) := by decide +kernel
theorem k12030_103 : decode (qc 12030) 103 = .ok (.lload_n 3, 1) := by decide +kernel
theorem k12030_104 : decode (qc 12030) 104 = .ok (.lcmp, 1) := by decide +kernel
theorem k12030_105 : decode (qc 12030) 105 = .ok (.ifCond .ge 7, 3) := by decide +kernel
theorem k12030_108 : decode (qc 12030) 108 = .ok (.iconst 1, 1) := by decide +kernel
theorem k12030_109 : decode (qc 12030) 109 = .ok (.goto 4, 3) := by decide +kernel
theorem k12030_112 : decode (qc 12030) 112 = .ok (.iconst 0, 1) := by decide +kernel
theorem k12030_113 : decode (qc 12030) 113 = .ok (.ireturn, 1) := by decide +kernel
theorem k12030_114 : decode (qc 12030) 114 = .ok (.lload_n 1, 1) := by decide +kernel
theorem k12030_115 : decode (qc 12030) 115 = .ok (.lload_n 3, 1) := by decide +kernel
theorem k12030_116 : decode (qc 12030) 116 = .ok (.lcmp, 1) := by decide +kernel
theorem k12030_117 : decode (qc 12030) 117 = .ok (.ifCond .le 7, 3) := by decide +kernel
theorem k12030_120 : decode (qc 12030) 120 = .ok (.iconst 1, 1) := by decide +kernel
theorem k12030_121 : decode (qc 12030) 121 = .ok (.goto 4, 3) := by decide +kernel
theorem k12030_124 : decode (qc 12030) 124 = .ok (.iconst 0, 1) := by decide +kernel
theorem k12030_125 : decode (qc 12030) 125 = .ok (.ireturn, 1) := by decide +kernel
theorem k12030_126 : decode (qc 12030) 126 = .ok (.lload_n 1, 1) := by decide +kernel
theorem k12030_127 : decode (qc 12030) 127 = .ok (.lconst 0, 1) := by decide +kernel
theorem k12030_128 : decode (qc 12030) 128 = .ok (.lcmp, 1) := by decide +kernel
theorem k12030_129 : decode (qc 12030) 129 = .ok (.ifCond .eq 13, 3) := by decide +kernel
theorem k12030_132 : decode (qc 12030) 132 = .ok (.lload_n 3, 1) := by decide +kernel
theorem k12030_133 : decode (qc 12030) 133 = .ok (.lconst 0, 1) := by decide +kernel
theorem k12030_134 : decode (qc 12030) 134 = .ok (.lcmp, 1) := by decide +kernel
theorem k12030_135 : decode (qc 12030) 135 = .ok (.ifCond .eq 7, 3) := by decide +kernel
theorem k12030_138 : decode (qc 12030) 138 = .ok (.iconst 1, 1) := by decide +kernel
theorem k12030_139 : decode (qc 12030) 139 = .ok (.goto 4, 3) := by decide +kernel
theorem k12030_142 : decode (qc 12030) 142 = .ok (.iconst 0, 1) := by decide +kernel
theorem k12030_143 : decode (qc 12030) 143 = .ok (.ireturn, 1) := by decide +kernel
theorem k12030_144 : decode (qc 12030) 144 = .ok (.lload_n 1, 1) := by decide +kernel
theorem k12030_145 : decode (qc 12030) 145 = .ok (.lconst 0, 1) := by decide +kernel
theorem k12030_146 : decode (qc 12030) 146 = .ok (.lcmp, 1) := by decide +kernel
theorem k12030_147 : decode (qc 12030) 147 = .ok (.ifCond .ne 9, 3) := by decide +kernel
theorem k12030_150 : decode (qc 12030) 150 = .ok (.lload_n 3, 1) := by decide +kernel
theorem k12030_151 : decode (qc 12030) 151 = .ok (.lconst 0, 1) := by decide +kernel
theorem k12030_152 : decode (qc 12030) 152 = .ok (.lcmp, 1) := by decide +kernel
theorem k12030_153 : decode (qc 12030) 153 = .ok (.ifCond .eq 7, 3) := by decide +kernel
theorem k12030_156 : decode (qc 12030) 156 = .ok (.iconst 1, 1) := by decide +kernel
theorem k12030_157 : decode (qc 12030) 157 = .ok (.goto 4, 3) := by decide +kernel
theorem k12030_160 : decode (qc 12030) 160 = .ok (.iconst 0, 1) := by decide +kernel
theorem k12030_161 : decode (qc 12030) 161 = .ok (.ireturn, 1) := by decide +kernel
theorem k12031_0 : decode (qc 12031) 0 = .ok (.iconst 0, 1) := by decide +kernel
theorem k12031_1 : decode (qc 12031) 1 = .ok (.istore 4, 2) := by decide +kernel
theorem k12031_3 : decode (qc 12031) 3 = .ok (.sipush 340, 3) := by decide +kernel
theorem k12031_6 : decode (qc 12031) 6 = .ok (.iload_n 1, 1) := by decide +kernel
theorem k12031_7 : decode (qc 12031) 7 = .ok (.imul, 1) := by decide +kernel
theorem k12031_8 : decode (qc 12031) 8 = .ok (.iload_n 2, 1) := by decide +kernel
theorem k12031_9 : decode (qc 12031) 9 = .ok (.iadd, 1) := by decide +kernel
theorem k12031_10 : decode (qc 12031) 10 = .ok (.istore 5, 2) := by decide +kernel
theorem k12031_12 : decode (qc 12031) 12 = .ok (.iload 5, 2) := by decide +kernel
theorem k12031_14 : decode (qc 12031) 14 = .ok (.sipush 340, 3) := by decide +kernel
theorem k12031_17 : decode (qc 12031) 17 = .ok (.iload_n 1, 1) := by decide +kernel
theorem k12031_18 : decode (qc 12031) 18 = .ok (.imul, 1) := by decide +kernel
theorem k12031_19 : decode (qc 12031) 19 = .ok (.iload_n 3, 1) := by decide +kernel
theorem k12031_20 : decode (qc 12031) 20 = .ok (.iadd, 1) := by decide +kernel
theorem k12031_21 : decode (qc 12031) 21 = .ok (.if_icmp .ge 150, 3) := by decide +kernel
theorem k12031_24 : decode (qc 12031) 24 = .ok (.aload_n 0, 1) := by decide +kernel
theorem k12031_25 : decode (qc 12031) 25 = .ok (.getfield 13, 3) := by decide +kernel
theorem k12031_28 : decode (qc 12031) 28 = .ok (.iload 5, 2) := by decide +kernel
theorem k12031_30 : decode (qc 12031) 30 = .ok (.iaload, 1) := by decide +kernel
theorem k12031_31 : decode (qc 12031) 31 = .ok (.ifCond .eq 14, 3) := by decide +kernel
theorem k12031_34 : decode (qc 12031) 34 = .ok (.aload_n 0, 1) := by decide +kernel
theorem k12031_35 : decode (qc 12031) 35 = .ok (.getfield 13, 3) := by decide +kernel
theorem k12031_38 : decode (qc 12031) 38 = .ok (.iload 5, 2) := by decide +kernel
theorem k12031_40 : decode (qc 12031) 40 = .ok (.iaload, 1) := by decide +kernel
theorem k12031_41 : decode (qc 12031) 41 = .ok (.iconst 1, 1) := by decide +kernel
theorem k12031_42 : decode (qc 12031) 42 = .ok (.if_icmp .ne 48, 3) := by decide +kernel
theorem k12031_45 : decode (qc 12031) 45 = .ok (.aload_n 0, 1) := by decide +kernel
theorem k12031_46 : decode (qc 12031) 46 = .ok (.getfield 37, 3) := by decide +kernel
theorem k12031_49 : decode (qc 12031) 49 = .ok (.iload 4, 2) := by decide +kernel
theorem k12031_51 : decode (qc 12031) 51 = .ok (.aload_n 0, 1) := by decide +kernel
theorem k12031_52 : decode (qc 12031) 52 = .ok (.getfield 13, 3) := by decide +kernel
theorem k12031_55 : decode (qc 12031) 55 = .ok (.iload 5, 2) := by decide +kernel
theorem k12031_57 : decode (qc 12031) 57 = .ok (.iaload, 1) := by decide +kernel
theorem k12031_58 : decode (qc 12031) 58 = .ok (.ifCond .ne 13, 3) := by decide +kernel
theorem k12031_61 : decode (qc 12031) 61 = .ok (.aload_n 0, 1) := by decide +kernel
theorem k12031_62 : decode (qc 12031) 62 = .ok (.getfield 16, 3) := by decide +kernel
theorem k12031_65 : decode (qc 12031) 65 = .ok (.iload 5, 2) := by decide +kernel
theorem k12031_67 : decode (qc 12031) 67 = .ok (.iaload, 1) := by decide +kernel
theorem k12031_68 : decode (qc 12031) 68 = .ok (.goto 15, 3) := by decide +kernel
theorem k12031_71 : decode (qc 12031) 71 = .ok (.aload_n 0, 1) := by decide +kernel
theorem k12031_72 : decode (qc 12031) 72 = .ok (.getfield 34, 3) := by decide +kernel
theorem k12031_75 : decode (qc 12031) 75 = .ok (.aload_n 0, 1) := by decide +kernel
theorem k12031_76 : decode (qc 12031) 76 = .ok (.getfield 16, 3) := by decide +kernel
theorem k12031_79 : decode (qc 12031) 79 = .ok (.iload 5, 2) := by decide +kernel
theorem k12031_81 : decode (qc 12031) 81 = .ok (.iaload, 1) := by decide +kernel
theorem k12031_82 : decode (qc 12031) 82 = .ok (.iaload, 1) := by decide +kernel
theorem k12031_83 : decode (qc 12031) 83 = .ok (.iastore, 1) := by decide +kernel
theorem k12031_84 : decode (qc 12031) 84 = .ok (.iinc 4 1, 3) := by decide +kernel
theorem k12031_87 : decode (qc 12031) 87 = .ok (.goto 78, 3) := by decide +kernel
theorem k12031_90 : decode (qc 12031) 90 = .ok (.aload_n 0, 1) := by decide +kernel
theorem k12031_91 : decode (qc 12031) 91 = .ok (.getfield 13, 3) := by decide +kernel
theorem k12031_94 : decode (qc 12031) 94 = .ok (.iload 5, 2) := by decide +kernel
theorem k12031_96 : decode (qc 12031) 96 = .ok (.iaload, 1) := by decide +kernel
theorem k12031_97 : decode (qc 12031) 97 = .ok (.bipush 9, 2) := by decide +kernel
theorem k12031_99 : decode (qc 12031) 99 = .ok (.if_icmp .ne 26, 3) := by decide +kernel
theorem k12031_102 : decode (qc 12031) 102 = .ok (.aload_n 0, 1) := by decide +kernel
theorem k12031_103 : decode (qc 12031) 103 = .ok (.getfield 37, 3) := by decide +kernel
theorem k12031_106 : decode (qc 12031) 106 = .ok (.iload 4, 2) := by decide +kernel
theorem k12031_108 : decode (qc 12031) 108 = .ok (.iconst 1, 1) := by decide +kernel
theorem k12031_109 : decode (qc 12031) 109 = .ok (.isub, 1) := by decide +kernel
theorem k12031_110 : decode (qc 12031) 110 = .ok (.iconst 1, 1) := by decide +kernel
theorem k12031_111 : decode (qc 12031) 111 = .ok (.aload_n 0, 1) := by decide +kernel
theorem k12031_112 : decode (qc 12031) 112 = .ok (.getfield 37, 3) := by decide +kernel
theorem k12031_115 : decode (qc 12031) 115 = .ok (.iload 4, 2) := by decide +kernel
theorem k12031_117 : decode (qc 12031) 117 = .ok (.iconst 1, 1) := by decide +kernel
theorem k12031_118 : decode (qc 12031) 118 = .ok (.isub, 1) := by decide +kernel
theorem k12031_119 : decode (qc 12031) 119 = .ok (.iaload, 1) := by decide +kernel
theorem k12031_120 : decode (qc 12031) 120 = .ok (.isub, 1) := by decide +kernel
theorem k12031_121 : decode (qc 12031) 121 = .ok (.iastore, 1) := by decide +kernel
theorem k12031_122 : decode (qc 12031) 122 = .ok (.goto 43, 3) := by decide +kernel
theorem k12031_125 : decode (qc 12031) 125 = .ok (.iinc 4 (-1), 3) := by decide +kernel
theorem k12031_128 : decode (qc 12031) 128 = .ok (.aload_n 0, 1) := by decide +kernel
theorem k12031_129 : decode (qc 12031) 129 = .ok (.getfield 37, 3) := by decide +kernel
theorem k12031_132 : decode (qc 12031) 132 = .ok (.iload 4, 2) := by decide +kernel
theorem k12031_134 : decode (qc 12031) 134 = .ok (.iconst 1, 1) := by decide +kernel
theorem k12031_135 : decode (qc 12031) 135 = .ok (.isub, 1) := by decide +kernel
theorem k12031_136 : decode (qc 12031) 136 = .ok (.aload_n 0, 1) := by decide +kernel
theorem k12031_137 : decode (qc 12031) 137 = .ok (.getfield 13, 3) := by decide +kernel
theorem k12031_140 : decode (qc 12031) 140 = .ok (.iload 5, 2) := by decide +kernel
theorem k12031_142 : decode (qc 12031) 142 = .ok (.iaload, 1) := by decide +kernel
theorem k12031_143 : decode (qc 12031) 143 = .ok (.aload_n 0, 1) := by decide +kernel
theorem k12031_144 : decode (qc 12031) 144 = .ok (.getfield 37, 3) := by decide +kernel
theorem k12031_147 : decode (qc 12031) 147 = .ok (.iload 4, 2) := by decide +kernel
theorem k12031_149 : decode (qc 12031) 149 = .ok (.iconst 1, 1) := by decide +kernel
theorem k12031_150 : decode (qc 12031) 150 = .ok (.isub, 1) := by decide +kernel
theorem k12031_151 : decode (qc 12031) 151 = .ok (.iaload, 1) := by decide +kernel
theorem k12031_152 : decode (qc 12031) 152 = .ok (.i2l, 1) := by decide +kernel
theorem k12031_153 : decode (qc 12031) 153 = .ok (.aload_n 0, 1) := by decide +kernel
theorem k12031_154 : decode (qc 12031) 154 = .ok (.getfield 37, 3) := by decide +kernel
theorem k12031_157 : decode (qc 12031) 157 = .ok (.iload 4, 2) := by decide +kernel
theorem k12031_159 : decode (qc 12031) 159 = .ok (.iaload, 1) := by decide +kernel
theorem k12031_160 : decode (qc 12031) 160 = .ok (.i2l, 1) := by decide +kernel
theorem k12031_161 : decode (qc 12031) 161 = .ok (.invokestatic 223, 3) := by decide +kernel
theorem k12031_164 : decode (qc 12031) 164 = .ok (.iastore, 1) := by decide +kernel
theorem k12031_165 : decode (qc 12031) 165 = .ok (.iinc 5 1, 3) := by decide +kernel
theorem k12031_168 : decode (qc 12031) 168 = .ok (.goto (-156), 3) := by decide +kernel
theorem k12031_171 : decode (qc 12031) 171 = .ok (.aload_n 0, 1) := by decide +kernel
theorem k12031_172 : decode (qc 12031) 172 = .ok (.getfield 37, 3) := by decide +kernel
theorem k12031_175 : decode (qc 12031) 175 = .ok (.iconst 0, 1) := by decide +kernel
theorem k12031_176 : decode (qc 12031) 176 = .ok (.iaload, 1) := by decide +kernel
theorem k12031_177 : decode (qc 12031) 177 = .ok (.ireturn, 1) := by decide +kernel
theorem k12032_0 : decode (qc 12032) 0 = .ok (.bipush 90, 2) := by decide +kernel
theorem k12032_2 : decode (qc 12032) 2 = .ok (.iload_n 1, 1) := by decide +kernel
theorem k12032_3 : decode (qc 12032) 3 = .ok (.imul, 1) := by decide +kernel
theorem k12032_4 : decode (qc 12032) 4 = .ok (.istore_n 2, 1) := by decide +kernel
theorem k12032_5 : decode (qc 12032) 5 = .ok (.iload_n 2, 1) := by decide +kernel
theorem k12032_6 : decode (qc 12032) 6 = .ok (.bipush 90, 2) := by decide +kernel
theorem k12032_8 : decode (qc 12032) 8 = .ok (.iload_n 1, 1) := by decide +kernel
theorem k12032_9 : decode (qc 12032) 9 = .ok (.imul, 1) := by decide +kernel
theorem k12032_10 : decode (qc 12032) 10 = .ok (.aload_n 0, 1) := by decide +kernel
theorem k12032_11 : decode (qc 12032) 11 = .ok (.getfield 22, 3) := by decide +kernel
theorem k12032_14 : decode (qc 12032) 14 = .ok (.iload_n 1, 1) := by decide +kernel
theorem k12032_15 : decode (qc 12032) 15 = .ok (.iaload, 1) := by decide +kernel
theorem k12032_16 : decode (qc 12032) 16 = .ok (.iadd, 1) := by decide +kernel
theorem k12032_17 : decode (qc 12032) 17 = .ok (.if_icmp .ge 62, 3) := by decide +kernel
theorem k12032_20 : decode (qc 12032) 20 = .ok (.aload_n 0, 1) := by decide +kernel
theorem k12032_21 : decode (qc 12032) 21 = .ok (.getfield 25, 3) := by decide +kernel
theorem k12032_24 : decode (qc 12032) 24 = .ok (.iload_n 2, 1) := by decide +kernel
theorem k12032_25 : decode (qc 12032) 25 = .ok (.iaload, 1) := by decide +kernel
theorem k12032_26 : decode (qc 12032) 26 = .ok (.aload_n 0, 1) := by decide +kernel
theorem k12032_27 : decode (qc 12032) 27 = .ok (.getfield 28, 3) := by decide +kernel
theorem k12032_30 : decode (qc 12032) 30 = .ok (.iload_n 2, 1) := by decide +kernel
theorem k12032_31 : decode (qc 12032) 31 = .ok (.iaload, 1) := by decide +kernel
theorem k12032_32 : decode (qc 12032) 32 = .ok (.if_icmp .eq 23, 3) := by decide +kernel
theorem k12032_35 : decode (qc 12032) 35 = .ok (.aload_n 0, 1) := by decide +kernel
theorem k12032_36 : decode (qc 12032) 36 = .ok (.iload_n 1, 1) := by decide +kernel
theorem k12032_37 : decode (qc 12032) 37 = .ok (.aload_n 0, 1) := by decide +kernel
theorem k12032_38 : decode (qc 12032) 38 = .ok (.getfield 25, 3) := by decide +kernel
theorem k12032_41 : decode (qc 12032) 41 = .ok (.iload_n 2, 1) := by decide +kernel
theorem k12032_42 : decode (qc 12032) 42 = .ok (.iaload, 1) := by decide +kernel
theorem k12032_43 : decode (qc 12032) 43 = .ok (.aload_n 0, 1) := by decide +kernel
theorem k12032_44 : decode (qc 12032) 44 = .ok (.getfield 28, 3) := by decide +kernel
theorem k12032_47 : decode (qc 12032) 47 = .ok (.iload_n 2, 1) := by decide +kernel
theorem k12032_48 : decode (qc 12032) 48 = .ok (.iaload, 1) := by decide +kernel
theorem k12032_49 : decode (qc 12032) 49 = .ok (.invokevirtual 227, 3) := by decide +kernel
theorem k12032_52 : decode (qc 12032) 52 = .ok (.ifCond .eq 21, 3) := by decide +kernel
theorem k12032_55 : decode (qc 12032) 55 = .ok (.aload_n 0, 1) := by decide +kernel
theorem k12032_56 : decode (qc 12032) 56 = .ok (.iload_n 1, 1) := by decide +kernel
theorem k12032_57 : decode (qc 12032) 57 = .ok (.aload_n 0, 1) := by decide +kernel
theorem k12032_58 : decode (qc 12032) 58 = .ok (.getfield 28, 3) := by decide +kernel
theorem k12032_61 : decode (qc 12032) 61 = .ok (.iload_n 2, 1) := by decide +kernel
theorem k12032_62 : decode (qc 12032) 62 = .ok (.iaload, 1) := by decide +kernel
theorem k12032_63 : decode (qc 12032) 63 = .ok (.aload_n 0, 1) := by decide +kernel
theorem k12032_64 : decode (qc 12032) 64 = .ok (.getfield 31, 3) := by decide +kernel
theorem k12032_67 : decode (qc 12032) 67 = .ok (.iload_n 2, 1) := by decide +kernel
theorem k12032_68 : decode (qc 12032) 68 = .ok (.iaload, 1) := by decide +kernel
theorem k12032_69 : decode (qc 12032) 69 = .ok (.invokevirtual 227, 3) := by decide +kernel
theorem k12032_72 : decode (qc 12032) 72 = .ok (.ireturn, 1) := by decide +kernel
theorem k12032_73 : decode (qc 12032) 73 = .ok (.iinc 2 1, 3) := by decide +kernel
theorem k12032_76 : decode (qc 12032) 76 = .ok (.goto (-71), 3) := by decide +kernel
theorem k12032_79 : decode (qc 12032) 79 = .ok (.iconst 0, 1) := by decide +kernel
theorem k12032_80 : decode (qc 12032) 80 = .ok (.ireturn, 1) := by decide +kernel
theorem k12033_0 : decode (qc 12033) 0 = .ok (.iconst 3, 1) := by decide +kernel
theorem k12033_1 : decode (qc 12033) 1 = .ok (.iload_n 0, 1) := by decide +kernel
theorem k12033_2 : decode (qc 12033) 2 = .ok (.imul, 1) := by decide +kernel
theorem k12033_3 : decode (qc 12033) 3 = .ok (.iload_n 1, 1) := by decide +kernel
theorem k12033_4 : decode (qc 12033) 4 = .ok (.iadd, 1) := by decide +kernel
theorem k12033_5 : decode (qc 12033) 5 = .ok (.ireturn, 1) := by decide +kernel
theorem k12034_0 : decode (qc 12034) 0 = .ok (.bipush 15, 2) := by decide +kernel
theorem k12034_2 : decode (qc 12034) 2 = .ok (.iload_n 0, 1) := by decide +kernel
theorem k12034_3 : decode (qc 12034) 3 = .ok (.iadd, 1) := by decide +kernel
theorem k12034_4 : decode (qc 12034) 4 = .ok (.ireturn, 1) := by decide +kernel
theorem k12035_0 : decode (qc 12035) 0 = .ok (.bipush 18, 2) := by decide +kernel
theorem k12035_2 : decode (qc 12035) 2 = .ok (.iconst 4, 1) := by decide +kernel
theorem k12035_3 : decode (qc 12035) 3 = .ok (.iload_n 0, 1) := by decide +kernel
theorem k12035_4 : decode (qc 12035) 4 = .ok (.imul, 1) := by decide +kernel
theorem k12035_5 : decode (qc 12035) 5 = .ok (.iadd, 1) := by decide +kernel
theorem k12035_6 : decode (qc 12035) 6 = .ok (.iload_n 1, 1) := by decide +kernel
theorem k12035_7 : decode (qc 12035) 7 = .ok (.iadd, 1) := by decide +kernel
theorem k12035_8 : decode (qc 12035) 8 = .ok (.ireturn, 1) := by decide +kernel
theorem k12036_0 : decode (qc 12036) 0 = .ok (.aload_n 0, 1) := by decide +kernel
theorem k12036_1 : decode (qc 12036) 1 = .ok (.invokevirtual 145, 3) := by decide +kernel
theorem k12036_4 : decode (qc 12036) 4 = .ok (.invokestatic 148, 3) := by decide +kernel
theorem k12036_7 : decode (qc 12036) 7 = .ok (.ifCond .ne 9, 3) := by decide +kernel
theorem k12036_10 : decode (qc 12036) 10 = .ok (.aload_n 0, 1) := by decide +kernel
theorem k12036_11 : decode (qc 12036) 11 = .ok (.invokevirtual 142, 3) := by decide +kernel
theorem k12036_14 : decode (qc 12036) 14 = .ok (.iload_n 1, 1) := by decide +kernel
theorem k12036_15 : decode (qc 12036) 15 = .ok (.ireturn, 1) := by decide +kernel
theorem k12036_16 : decode (qc 12036) 16 = .ok (.aload_n 0, 1) := by decide +kernel
theorem k12036_17 : decode (qc 12036) 17 = .ok (.invokevirtual 129, 3) := by decide +kernel
theorem k12036_20 : decode (qc 12036) 20 = .ok (.bipush 48, 2) := by decide +kernel
theorem k12036_22 : decode (qc 12036) 22 = .ok (.isub, 1) := by decide +kernel
theorem k12036_23 : decode (qc 12036) 23 = .ok (.istore_n 3, 1) := by decide +kernel
theorem k12036_24 : decode (qc 12036) 24 = .ok (.aload_n 0, 1) := by decide +kernel
theorem k12036_25 : decode (qc 12036) 25 = .ok (.dup, 1) := by decide +kernel
theorem k12036_26 : decode (qc 12036) 26 = .ok (.getfield 126, 3) := by decide +kernel
theorem k12036_29 : decode (qc 12036) 29 = .ok (.iconst 1, 1) := by decide +kernel
theorem k12036_30 : decode (qc 12036) 30 = .ok (.iadd, 1) := by decide +kernel
theorem k12036_31 : decode (qc 12036) 31 = .ok (.putfield 126, 3) := by decide +kernel
theorem k12036_34 : decode (qc 12036) 34 = .ok (.aload_n 0, 1) := by decide +kernel
theorem k12036_35 : decode (qc 12036) 35 = .ok (.invokevirtual 129, 3) := by decide +kernel
theorem k12036_38 : decode (qc 12036) 38 = .ok (.invokestatic 148, 3) := by decide +kernel
theorem k12036_41 : decode (qc 12036) 41 = .ok (.ifCond .eq 26, 3) := by decide +kernel
theorem k12036_44 : decode (qc 12036) 44 = .ok (.bipush 10, 2) := by decide +kernel
theorem k12036_46 : decode (qc 12036) 46 = .ok (.iload_n 3, 1) := by decide +kernel
theorem k12036_47 : decode (qc 12036) 47 = .ok (.imul, 1) := by decide +kernel
theorem k12036_48 : decode (qc 12036) 48 = .ok (.aload_n 0, 1) := by decide +kernel
theorem k12036_49 : decode (qc 12036) 49 = .ok (.invokevirtual 129, 3) := by decide +kernel
theorem k12036_52 : decode (qc 12036) 52 = .ok (.iadd, 1) := by decide +kernel
theorem k12036_53 : decode (qc 12036) 53 = .ok (.bipush 48, 2) := by decide +kernel
theorem k12036_55 : decode (qc 12036) 55 = .ok (.isub, 1) := by decide +kernel
theorem k12036_56 : decode (qc 12036) 56 = .ok (.istore_n 3, 1) := by decide +kernel
theorem k12036_57 : decode (qc 12036) 57 = .ok (.aload_n 0, 1) := by decide +kernel
theorem k12036_58 : decode (qc 12036) 58 = .ok (.dup, 1) := by decide +kernel
theorem k12036_59 : decode (qc 12036) 59 = .ok (.getfield 126, 3) := by decide +kernel
theorem k12036_62 : decode (qc 12036) 62 = .ok (.iconst 1, 1) := by decide +kernel
theorem k12036_63 : decode (qc 12036) 63 = .ok (.iadd, 1) := by decide +kernel
theorem k12036_64 : decode (qc 12036) 64 = .ok (.putfield 126, 3) := by decide +kernel
theorem k12036_67 : decode (qc 12036) 67 = .ok (.aload_n 0, 1) := by decide +kernel
theorem k12036_68 : decode (qc 12036) 68 = .ok (.invokevirtual 129, 3) := by decide +kernel
theorem k12036_71 : decode (qc 12036) 71 = .ok (.invokestatic 148, 3) := by decide +kernel
theorem k12036_74 : decode (qc 12036) 74 = .ok (.ifCond .eq 10, 3) := by decide +kernel
theorem k12036_77 : decode (qc 12036) 77 = .ok (.aload_n 0, 1) := by decide +kernel
theorem k12036_78 : decode (qc 12036) 78 = .ok (.invokevirtual 142, 3) := by decide +kernel
theorem k12036_81 : decode (qc 12036) 81 = .ok (.goto 26, 3) := by decide +kernel
theorem k12036_84 : decode (qc 12036) 84 = .ok (.iload_n 3, 1) := by decide +kernel
theorem k12036_85 : decode (qc 12036) 85 = .ok (.iload_n 1, 1) := by decide +kernel
theorem k12036_86 : decode (qc 12036) 86 = .ok (.iload_n 2, 1) := by decide +kernel
theorem k12036_87 : decode (qc 12036) 87 = .ok (.invokestatic 231, 3) := by decide +kernel
theorem k12036_90 : decode (qc 12036) 90 = .ok (.ifCond .ne 17, 3) := by decide +kernel
theorem k12036_93 : decode (qc 12036) 93 = .ok (.aload_n 0, 1) := by decide +kernel
theorem k12036_94 : decode (qc 12036) 94 = .ok (.dup, 1) := by decide +kernel
theorem k12036_95 : decode (qc 12036) 95 = .ok (.getfield 126, 3) := by decide +kernel
theorem k12036_98 : decode (qc 12036) 98 = .ok (.iconst 1, 1) := by decide +kernel
theorem k12036_99 : decode (qc 12036) 99 = .ok (.isub, 1) := by decide +kernel
theorem k12036_100 : decode (qc 12036) 100 = .ok (.putfield 126, 3) := by decide +kernel
theorem k12036_103 : decode (qc 12036) 103 = .ok (.aload_n 0, 1) := by decide +kernel
theorem k12036_104 : decode (qc 12036) 104 = .ok (.invokevirtual 142, 3) := by decide +kernel
theorem k12036_107 : decode (qc 12036) 107 = .ok (.iload_n 3, 1) := by decide +kernel
theorem k12036_108 : decode (qc 12036) 108 = .ok (.ireturn, 1) := by decide +kernel
theorem k12037_0 : decode (qc 12037) 0 = .ok (.iload_n 1, 1) := by decide +kernel
theorem k12037_1 : decode (qc 12037) 1 = .ok (.bipush 115, 2) := by decide +kernel
theorem k12037_3 : decode (qc 12037) 3 = .ok (.if_icmp .ne 56, 3) := by decide +kernel
theorem k12037_6 : decode (qc 12037) 6 = .ok (.iload_n 2, 1) := by decide +kernel
theorem k12037_7 : decode (qc 12037) 7 = .ok (.bipush 97, 2) := by decide +kernel
theorem k12037_9 : decode (qc 12037) 9 = .ok (.if_icmp .ne 14, 3) := by decide +kernel
theorem k12037_12 : decode (qc 12037) 12 = .ok (.aload_n 0, 1) := by decide +kernel
theorem k12037_13 : decode (qc 12037) 13 = .ok (.getfield 235, 3) := by decide +kernel
theorem k12037_16 : decode (qc 12037) 16 = .ok (.iconst 0, 1) := by decide +kernel
theorem k12037_17 : decode (qc 12037) 17 = .ok (.invokestatic 238, 3) := by decide +kernel
theorem k12037_20 : decode (qc 12037) 20 = .ok (.goto 38, 3) := by decide +kernel
theorem k12037_23 : decode (qc 12037) 23 = .ok (.iload_n 2, 1) := by decide +kernel
theorem k12037_24 : decode (qc 12037) 24 = .ok (.bipush 111, 2) := by decide +kernel
theorem k12037_26 : decode (qc 12037) 26 = .ok (.if_icmp .ne 14, 3) := by decide +kernel
theorem k12037_29 : decode (qc 12037) 29 = .ok (.aload_n 0, 1) := by decide +kernel
theorem k12037_30 : decode (qc 12037) 30 = .ok (.getfield 235, 3) := by decide +kernel
theorem k12037_33 : decode (qc 12037) 33 = .ok (.iconst 1, 1) := by decide +kernel
theorem k12037_34 : decode (qc 12037) 34 = .ok (.invokestatic 238, 3) := by decide +kernel
theorem k12037_37 : decode (qc 12037) 37 = .ok (.goto 21, 3) := by decide +kernel
theorem k12037_40 : decode (qc 12037) 40 = .ok (.iload_n 2, 1) := by decide +kernel
theorem k12037_41 : decode (qc 12037) 41 = .ok (.bipush 119, 2) := by decide +kernel
theorem k12037_43 : decode (qc 12037) 43 = .ok (.if_icmp .ne 14, 3) := by decide +kernel
theorem k12037_46 : decode (qc 12037) 46 = .ok (.aload_n 0, 1) := by decide +kernel
theorem k12037_47 : decode (qc 12037) 47 = .ok (.getfield 235, 3) := by decide +kernel
theorem k12037_50 : decode (qc 12037) 50 = .ok (.iconst 2, 1) := by decide +kernel
theorem k12037_51 : decode (qc 12037) 51 = .ok (.invokestatic 238, 3) := by decide +kernel
theorem k12037_54 : decode (qc 12037) 54 = .ok (.goto 4, 3) := by decide +kernel
theorem k12037_57 : decode (qc 12037) 57 = .ok (.iconst (-1), 1) := by decide +kernel
theorem k12037_58 : decode (qc 12037) 58 = .ok (.ireturn, 1) := by decide +kernel
theorem k12037_59 : decode (qc 12037) 59 = .ok (.iload_n 1, 1) := by decide +kernel
theorem k12037_60 : decode (qc 12037) 60 = .ok (.bipush 109, 2) := by decide +kernel
theorem k12037_62 : decode (qc 12037) 62 = .ok (.if_icmp .ne 21, 3) := by decide +kernel
theorem k12037_65 : decode (qc 12037) 65 = .ok (.iload_n 2, 1) := by decide +kernel
theorem k12037_66 : decode (qc 12037) 66 = .ok (.bipush 97, 2) := by decide +kernel
theorem k12037_68 : decode (qc 12037) 68 = .ok (.if_icmp .ne 13, 3) := by decide +kernel
theorem k12037_71 : decode (qc 12037) 71 = .ok (.aload_n 0, 1) := by decide +kernel
theorem k12037_72 : decode (qc 12037) 72 = .ok (.getfield 242, 3) := by decide +kernel
theorem k12037_75 : decode (qc 12037) 75 = .ok (.invokestatic 245, 3) := by decide +kernel
theorem k12037_78 : decode (qc 12037) 78 = .ok (.goto 4, 3) := by decide +kernel
theorem k12037_81 : decode (qc 12037) 81 = .ok (.iconst (-1), 1) := by decide +kernel
theorem k12037_82 : decode (qc 12037) 82 = .ok (.ireturn, 1) := by decide +kernel
theorem k12037_83 : decode (qc 12037) 83 = .ok (.iload_n 2, 1) := by decide +kernel
theorem k12037_84 : decode (qc 12037) 84 = .ok (.bipush 114, 2) := by decide +kernel
theorem k12037_86 : decode (qc 12037) 86 = .ok (.if_icmp .ne 14, 3) := by decide +kernel
theorem k12037_89 : decode (qc 12037) 89 = .ok (.aload_n 0, 1) := by decide +kernel
theorem k12037_90 : decode (qc 12037) 90 = .ok (.getfield 248, 3) := by decide +kernel
theorem k12037_93 : decode (qc 12037) 93 = .ok (.iconst 0, 1) := by decide +kernel
theorem k12037_94 : decode (qc 12037) 94 = .ok (.invokestatic 251, 3) := by decide +kernel
theorem k12037_97 : decode (qc 12037) 97 = .ok (.goto 55, 3) := by decide +kernel
theorem k12037_100 : decode (qc 12037) 100 = .ok (.iload_n 2, 1) := by decide +kernel
theorem k12037_101 : decode (qc 12037) 101 = .ok (.bipush 104, 2) := by decide +kernel
theorem k12037_103 : decode (qc 12037) 103 = .ok (.if_icmp .ne 14, 3) := by decide +kernel
theorem k12037_106 : decode (qc 12037) 106 = .ok (.aload_n 0, 1) := by decide +kernel
theorem k12037_107 : decode (qc 12037) 107 = .ok (.getfield 248, 3) := by decide +kernel
theorem k12037_110 : decode (qc 12037) 110 = .ok (.iconst 1, 1) := by decide +kernel
theorem k12037_111 : decode (qc 12037) 111 = .ok (.invokestatic 251, 3) := by decide +kernel
theorem k12037_114 : decode (qc 12037) 114 = .ok (.goto 38, 3) := by decide +kernel
theorem k12037_117 : decode (qc 12037) 117 = .ok (.iload_n 2, 1) := by decide +kernel
theorem k12037_118 : decode (qc 12037) 118 = .ok (.bipush 110, 2) := by decide +kernel
theorem k12037_120 : decode (qc 12037) 120 = .ok (.if_icmp .ne 14, 3) := by decide +kernel
theorem k12037_123 : decode (qc 12037) 123 = .ok (.aload_n 0, 1) := by decide +kernel
theorem k12037_124 : decode (qc 12037) 124 = .ok (.getfield 248, 3) := by decide +kernel
theorem k12037_127 : decode (qc 12037) 127 = .ok (.iconst 2, 1) := by decide +kernel
theorem k12037_128 : decode (qc 12037) 128 = .ok (.invokestatic 251, 3) := by decide +kernel
theorem k12037_131 : decode (qc 12037) 131 = .ok (.goto 21, 3) := by decide +kernel
theorem k12037_134 : decode (qc 12037) 134 = .ok (.iload_n 2, 1) := by decide +kernel
theorem k12037_135 : decode (qc 12037) 135 = .ok (.bipush 112, 2) := by decide +kernel
theorem k12037_137 : decode (qc 12037) 137 = .ok (.if_icmp .ne 14, 3) := by decide +kernel
theorem k12037_140 : decode (qc 12037) 140 = .ok (.aload_n 0, 1) := by decide +kernel
theorem k12037_141 : decode (qc 12037) 141 = .ok (.getfield 248, 3) := by decide +kernel
theorem k12037_144 : decode (qc 12037) 144 = .ok (.iconst 3, 1) := by decide +kernel
theorem k12037_145 : decode (qc 12037) 145 = .ok (.invokestatic 251, 3) := by decide +kernel
theorem k12037_148 : decode (qc 12037) 148 = .ok (.goto 4, 3) := by decide +kernel
theorem k12037_151 : decode (qc 12037) 151 = .ok (.iconst (-1), 1) := by decide +kernel
theorem k12037_152 : decode (qc 12037) 152 = .ok (.ireturn, 1) := by decide +kernel
theorem k12038_0 : decode (qc 12038) 0 = .ok (.iload_n 2, 1) := by decide +kernel
theorem k12038_1 : decode (qc 12038) 1 = .ok (.bipush 97, 2) := by decide +kernel
theorem k12038_3 : decode (qc 12038) 3 = .ok (.if_icmp .eq 9, 3) := by decide +kernel
theorem k12038_6 : decode (qc 12038) 6 = .ok (.iload_n 2, 1) := by decide +kernel
theorem k12038_7 : decode (qc 12038) 7 = .ok (.bipush 114, 2) := by decide +kernel
theorem k12038_9 : decode (qc 12038) 9 = .ok (.if_icmp .ne 10, 3) := by decide +kernel
theorem k12038_12 : decode (qc 12038) 12 = .ok (.aload_n 0, 1) := by decide +kernel
theorem k12038_13 : decode (qc 12038) 13 = .ok (.getfield 254, 3) := by decide +kernel
theorem k12038_16 : decode (qc 12038) 16 = .ok (.iconst 1, 1) := by decide +kernel
theorem k12038_17 : decode (qc 12038) 17 = .ok (.isub, 1) := by decide +kernel
theorem k12038_18 : decode (qc 12038) 18 = .ok (.ireturn, 1) := by decide +kernel
theorem k12038_19 : decode (qc 12038) 19 = .ok (.iload_n 2, 1) := by decide +kernel
theorem k12038_20 : decode (qc 12038) 20 = .ok (.bipush 111, 2) := by decide +kernel
theorem k12038_22 : decode (qc 12038) 22 = .ok (.if_icmp .ne 7, 3) := by decide +kernel
theorem k12038_25 : decode (qc 12038) 25 = .ok (.iconst 2, 1) := by decide +kernel
theorem k12038_26 : decode (qc 12038) 26 = .ok (.goto 41, 3) := by decide +kernel
theorem k12038_29 : decode (qc 12038) 29 = .ok (.iload_n 2, 1) := by decide +kernel
theorem k12038_30 : decode (qc 12038) 30 = .ok (.bipush 119, 2) := by decide +kernel
theorem k12038_32 : decode (qc 12038) 32 = .ok (.if_icmp .ne 8, 3) := by decide +kernel
theorem k12038_35 : decode (qc 12038) 35 = .ok (.bipush 9, 2) := by decide +kernel
theorem k12038_37 : decode (qc 12038) 37 = .ok (.goto 30, 3) := by decide +kernel
theorem k12038_40 : decode (qc 12038) 40 = .ok (.iload_n 2, 1) := by decide +kernel
theorem k12038_41 : decode (qc 12038) 41 = .ok (.bipush 104, 2) := by decide +kernel
theorem k12038_43 : decode (qc 12038) 43 = .ok (.if_icmp .ne 7, 3) := by decide +kernel
theorem k12038_46 : decode (qc 12038) 46 = .ok (.iconst 3, 1) := by decide +kernel
theorem k12038_47 : decode (qc 12038) 47 = .ok (.goto 20, 3) := by decide +kernel
theorem k12038_50 : decode (qc 12038) 50 = .ok (.iload_n 2, 1) := by decide +kernel
theorem k12038_51 : decode (qc 12038) 51 = .ok (.bipush 110, 2) := by decide +kernel
theorem k12038_53 : decode (qc 12038) 53 = .ok (.if_icmp .ne 8, 3) := by decide +kernel
theorem k12038_56 : decode (qc 12038) 56 = .ok (.bipush 30, 2) := by decide +kernel
theorem k12038_58 : decode (qc 12038) 58 = .ok (.goto 9, 3) := by decide +kernel
theorem k12038_61 : decode (qc 12038) 61 = .ok (.aload_n 0, 1) := by decide +kernel
theorem k12038_62 : decode (qc 12038) 62 = .ok (.getfield 248, 3) := by decide +kernel
theorem k12038_65 : decode (qc 12038) 65 = .ok (.iconst 1, 1) := by decide +kernel
theorem k12038_66 : decode (qc 12038) 66 = .ok (.isub, 1) := by decide +kernel
theorem k12038_67 : decode (qc 12038) 67 = .ok (.ireturn, 1) := by decide +kernel
theorem k12039_0 : decode (qc 12039) 0 = .ok (.iload_n 1, 1) := by decide +kernel
theorem k12039_1 : decode (qc 12039) 1 = .ok (.bipush 115, 2) := by decide +kernel
theorem k12039_3 : decode (qc 12039) 3 = .ok (.if_icmp .ne 48, 3) := by decide +kernel
theorem k12039_6 : decode (qc 12039) 6 = .ok (.aload_n 0, 1) := by decide +kernel
theorem k12039_7 : decode (qc 12039) 7 = .ok (.getfield 40, 3) := by decide +kernel
theorem k12039_10 : decode (qc 12039) 10 = .ok (.aload_n 0, 1) := by decide +kernel
theorem k12039_11 : decode (qc 12039) 11 = .ok (.getfield 235, 3) := by decide +kernel
theorem k12039_14 : decode (qc 12039) 14 = .ok (.iconst 0, 1) := by decide +kernel
theorem k12039_15 : decode (qc 12039) 15 = .ok (.invokestatic 238, 3) := by decide +kernel
theorem k12039_18 : decode (qc 12039) 18 = .ok (.iconst 0, 1) := by decide +kernel
theorem k12039_19 : decode (qc 12039) 19 = .ok (.iastore, 1) := by decide +kernel
theorem k12039_20 : decode (qc 12039) 20 = .ok (.aload_n 0, 1) := by decide +kernel
theorem k12039_21 : decode (qc 12039) 21 = .ok (.getfield 40, 3) := by decide +kernel
theorem k12039_24 : decode (qc 12039) 24 = .ok (.aload_n 0, 1) := by decide +kernel
theorem k12039_25 : decode (qc 12039) 25 = .ok (.getfield 235, 3) := by decide +kernel
theorem k12039_28 : decode (qc 12039) 28 = .ok (.iconst 1, 1) := by decide +kernel
theorem k12039_29 : decode (qc 12039) 29 = .ok (.invokestatic 238, 3) := by decide +kernel
theorem k12039_32 : decode (qc 12039) 32 = .ok (.iconst (-1), 1) := by decide +kernel
theorem k12039_33 : decode (qc 12039) 33 = .ok (.iastore, 1) := by decide +kernel
theorem k12039_34 : decode (qc 12039) 34 = .ok (.aload_n 0, 1) := by decide +kernel
theorem k12039_35 : decode (qc 12039) 35 = .ok (.getfield 40, 3) := by decide +kernel
theorem k12039_38 : decode (qc 12039) 38 = .ok (.aload_n 0, 1) := by decide +kernel
theorem k12039_39 : decode (qc 12039) 39 = .ok (.getfield 235, 3) := by decide +kernel
theorem k12039_42 : decode (qc 12039) 42 = .ok (.iconst 2, 1) := by decide +kernel
theorem k12039_43 : decode (qc 12039) 43 = .ok (.invokestatic 238, 3) := by decide +kernel
theorem k12039_46 : decode (qc 12039) 46 = .ok (.iconst 1, 1) := by decide +kernel
theorem k12039_47 : decode (qc 12039) 47 = .ok (.iastore, 1) := by decide +kernel
theorem k12039_48 : decode (qc 12039) 48 = .ok (.goto 81, 3) := by decide +kernel
theorem k12039_51 : decode (qc 12039) 51 = .ok (.iload_n 1, 1) := by decide +kernel
theorem k12039_52 : decode (qc 12039) 52 = .ok (.bipush 109, 2) := by decide +kernel
theorem k12039_54 : decode (qc 12039) 54 = .ok (.if_icmp .ne 19, 3) := by decide +kernel
theorem k12039_57 : decode (qc 12039) 57 = .ok (.aload_n 0, 1) := by decide +kernel
theorem k12039_58 : decode (qc 12039) 58 = .ok (.getfield 40, 3) := by decide +kernel
theorem k12039_61 : decode (qc 12039) 61 = .ok (.aload_n 0, 1) := by decide +kernel
theorem k12039_62 : decode (qc 12039) 62 = .ok (.getfield 242, 3) := by decide +kernel
theorem k12039_65 : decode (qc 12039) 65 = .ok (.invokestatic 245, 3) := by decide +kernel
theorem k12039_68 : decode (qc 12039) 68 = .ok (.iconst 0, 1) := by decide +kernel
theorem k12039_69 : decode (qc 12039) 69 = .ok (.iastore, 1) := by decide +kernel
theorem k12039_70 : decode (qc 12039) 70 = .ok (.goto 59, 3) := by decide +kernel
theorem k12039_73 : decode (qc 12039) 73 = .ok (.aload_n 0, 1) := by decide +kernel
theorem k12039_74 : decode (qc 12039) 74 = .ok (.getfield 40, 3) := by decide +kernel
theorem k12039_77 : decode (qc 12039) 77 = .ok (.aload_n 0, 1) := by decide +kernel
theorem k12039_78 : decode (qc 12039) 78 = .ok (.getfield 248, 3) := by decide +kernel
theorem k12039_81 : decode (qc 12039) 81 = .ok (.iconst 0, 1) := by decide +kernel
theorem k12039_82 : decode (qc 12039) 82 = .ok (.invokestatic 251, 3) := by decide +kernel
theorem k12039_85 : decode (qc 12039) 85 = .ok (.iconst 0, 1) := by decide +kernel
theorem k12039_86 : decode (qc 12039) 86 = .ok (.iastore, 1) := by decide +kernel
theorem k12039_87 : decode (qc 12039) 87 = .ok (.aload_n 0, 1) := by decide +kernel
theorem k12039_88 : decode (qc 12039) 88 = .ok (.getfield 40, 3) := by decide +kernel
theorem k12039_91 : decode (qc 12039) 91 = .ok (.aload_n 0, 1) := by decide +kernel
theorem k12039_92 : decode (qc 12039) 92 = .ok (.getfield 248, 3) := by decide +kernel
theorem k12039_95 : decode (qc 12039) 95 = .ok (.iconst 1, 1) := by decide +kernel
theorem k12039_96 : decode (qc 12039) 96 = .ok (.invokestatic 251, 3) := by decide +kernel
theorem k12039_99 : decode (qc 12039) 99 = .ok (.iconst 1, 1) := by decide +kernel
theorem k12039_100 : decode (qc 12039) 100 = .ok (.iastore, 1) := by decide +kernel
theorem k12039_101 : decode (qc 12039) 101 = .ok (.aload_n 0, 1) := by decide +kernel
theorem k12039_102 : decode (qc 12039) 102 = .ok (.getfield 40, 3) := by decide +kernel
theorem k12039_105 : decode (qc 12039) 105 = .ok (.aload_n 0, 1) := by decide +kernel
theorem k12039_106 : decode (qc 12039) 106 = .ok (.getfield 248, 3) := by decide +kernel
theorem k12039_109 : decode (qc 12039) 109 = .ok (.iconst 2, 1) := by decide +kernel
theorem k12039_110 : decode (qc 12039) 110 = .ok (.invokestatic 251, 3) := by decide +kernel
theorem k12039_113 : decode (qc 12039) 113 = .ok (.iconst 5, 1) := by decide +kernel
theorem k12039_114 : decode (qc 12039) 114 = .ok (.iastore, 1) := by decide +kernel
theorem k12039_115 : decode (qc 12039) 115 = .ok (.aload_n 0, 1) := by decide +kernel
theorem k12039_116 : decode (qc 12039) 116 = .ok (.getfield 40, 3) := by decide +kernel
theorem k12039_119 : decode (qc 12039) 119 = .ok (.aload_n 0, 1) := by decide +kernel
theorem k12039_120 : decode (qc 12039) 120 = .ok (.getfield 248, 3) := by decide +kernel
theorem k12039_123 : decode (qc 12039) 123 = .ok (.iconst 3, 1) := by decide +kernel
theorem k12039_124 : decode (qc 12039) 124 = .ok (.invokestatic 251, 3) := by decide +kernel
theorem k12039_127 : decode (qc 12039) 127 = .ok (.iconst (-1), 1) := by decide +kernel
theorem k12039_128 : decode (qc 12039) 128 = .ok (.iastore, 1) := by decide +kernel
theorem k12039_129 : decode (qc 12039) 129 = .ok (.return_, 1) := by decide +kernel
theorem k12040_0 : decode (qc 12040) 0 = .ok (.aload_n 0, 1) := by decide +kernel
theorem k12040_1 : decode (qc 12040) 1 = .ok (.invokevirtual 145, 3) := by decide +kernel
theorem k12040_4 : decode (qc 12040) 4 = .ok (.istore_n 1, 1) := by decide +kernel
theorem k12040_5 : decode (qc 12040) 5 = .ok (.iload_n 1, 1) := by decide +kernel
theorem k12040_6 : decode (qc 12040) 6 = .ok (.bipush 115, 2) := by decide +kernel
theorem k12040_8 : decode (qc 12040) 8 = .ok (.if_icmp .ne 11, 3) := by decide +kernel
theorem k12040_11 : decode (qc 12040) 11 = .ok (.aload_n 0, 1) := by decide +kernel
theorem k12040_12 : decode (qc 12040) 12 = .ok (.getfield 235, 3) := by decide +kernel
theorem k12040_15 : decode (qc 12040) 15 = .ok (.iconst 5, 1) := by decide +kernel
theorem k12040_16 : decode (qc 12040) 16 = .ok (.if_icmp .lt 36, 3) := by decide +kernel
theorem k12040_19 : decode (qc 12040) 19 = .ok (.iload_n 1, 1) := by decide +kernel
theorem k12040_20 : decode (qc 12040) 20 = .ok (.bipush 109, 2) := by decide +kernel
theorem k12040_22 : decode (qc 12040) 22 = .ok (.if_icmp .ne 11, 3) := by decide +kernel
theorem k12040_25 : decode (qc 12040) 25 = .ok (.aload_n 0, 1) := by decide +kernel
theorem k12040_26 : decode (qc 12040) 26 = .ok (.getfield 242, 3) := by decide +kernel
theorem k12040_29 : decode (qc 12040) 29 = .ok (.iconst 3, 1) := by decide +kernel
theorem k12040_30 : decode (qc 12040) 30 = .ok (.if_icmp .lt 22, 3) := by decide +kernel
theorem k12040_33 : decode (qc 12040) 33 = .ok (.iload_n 1, 1) := by decide +kernel
theorem k12040_34 : decode (qc 12040) 34 = .ok (.bipush 116, 2) := by decide +kernel
theorem k12040_36 : decode (qc 12040) 36 = .ok (.if_icmp .ne 11, 3) := by decide +kernel
theorem k12040_39 : decode (qc 12040) 39 = .ok (.aload_n 0, 1) := by decide +kernel
theorem k12040_40 : decode (qc 12040) 40 = .ok (.getfield 248, 3) := by decide +kernel
theorem k12040_43 : decode (qc 12040) 43 = .ok (.iconst 4, 1) := by decide +kernel
theorem k12040_44 : decode (qc 12040) 44 = .ok (.if_icmp .lt 8, 3) := by decide +kernel
theorem k12040_47 : decode (qc 12040) 47 = .ok (.aload_n 0, 1) := by decide +kernel
theorem k12040_48 : decode (qc 12040) 48 = .ok (.invokevirtual 142, 3) := by decide +kernel
theorem k12040_51 : decode (qc 12040) 51 = .ok (.return_, 1) := by decide +kernel
theorem k12040_52 : decode (qc 12040) 52 = .ok (.aload_n 0, 1) := by decide +kernel
theorem k12040_53 : decode (qc 12040) 53 = .ok (.dup, 1) := by decide +kernel
theorem k12040_54 : decode (qc 12040) 54 = .ok (.getfield 126, 3) := by decide +kernel
theorem k12040_57 : decode (qc 12040) 57 = .ok (.iconst 1, 1) := by decide +kernel
theorem k12040_58 : decode (qc 12040) 58 = .ok (.iadd, 1) := by decide +kernel
theorem k12040_59 : decode (qc 12040) 59 = .ok (.putfield 126, 3) := by decide +kernel
theorem k12040_62 : decode (qc 12040) 62 = .ok (.aload_n 0, 1) := by decide +kernel
theorem k12040_63 : decode (qc 12040) 63 = .ok (.iload_n 1, 1) := by decide +kernel
theorem k12040_64 : decode (qc 12040) 64 = .ok (.invokevirtual 257, 3) := by decide +kernel
theorem k12040_67 : decode (qc 12040) 67 = .ok (.iconst 0, 1) := by decide +kernel
theorem k12040_68 : decode (qc 12040) 68 = .ok (.istore_n 2, 1) := by decide +kernel
theorem k12040_69 : decode (qc 12040) 69 = .ok (.aload_n 0, 1) := by decide +kernel
theorem k12040_70 : decode (qc 12040) 70 = .ok (.invokevirtual 145, 3) := by decide +kernel
theorem k12040_73 : decode (qc 12040) 73 = .ok (.istore_n 3, 1) := by decide +kernel
theorem k12040_74 : decode (qc 12040) 74 = .ok (.aload_n 0, 1) := by decide +kernel
theorem k12040_75 : decode (qc 12040) 75 = .ok (.getfield 133, 3) := by decide +kernel
theorem k12040_78 : decode (qc 12040) 78 = .ok (.iconst (-1), 1) := by decide +kernel
theorem k12040_79 : decode (qc 12040) 79 = .ok (.if_icmp .ne 89, 3) := by decide +kernel
theorem k12040_82 : decode (qc 12040) 82 = .ok (.aload_n 0, 1) := by decide +kernel
theorem k12040_83 : decode (qc 12040) 83 = .ok (.iload_n 1, 1) := by decide +kernel
theorem k12040_84 : decode (qc 12040) 84 = .ok (.iload_n 3, 1) := by decide +kernel
theorem k12040_85 : decode (qc 12040) 85 = .ok (.invokevirtual 260, 3) := by decide +kernel
theorem k12040_88 : decode (qc 12040) 88 = .ok (.iconst (-1), 1) := by decide +kernel
theorem k12040_89 : decode (qc 12040) 89 = .ok (.if_icmp .eq 79, 3) := by decide +kernel
theorem k12040_92 : decode (qc 12040) 92 = .ok (.iload_n 2, 1) := by decide +kernel
theorem k12040_93 : decode (qc 12040) 93 = .ok (.iload_n 3, 1) := by decide +kernel
theorem k12040_94 : decode (qc 12040) 94 = .ok (.bipush 97, 2) := by decide +kernel
theorem k12040_96 : decode (qc 12040) 96 = .ok (.isub, 1) := by decide +kernel
theorem k12040_97 : decode (qc 12040) 97 = .ok (.invokestatic 263, 3) := by decide +kernel
theorem k12040_100 : decode (qc 12040) 100 = .ok (.ifCond .ne 68, 3) := by decide +kernel
theorem k12040_103 : decode (qc 12040) 103 = .ok (.iload_n 2, 1) := by decide +kernel
theorem k12040_104 : decode (qc 12040) 104 = .ok (.iconst 1, 1) := by decide +kernel
theorem k12040_105 : decode (qc 12040) 105 = .ok (.iload_n 3, 1) := by decide +kernel
theorem k12040_106 : decode (qc 12040) 106 = .ok (.bipush 97, 2) := by decide +kernel
theorem k12040_108 : decode (qc 12040) 108 = .ok (.isub, 1) := by decide +kernel
theorem k12040_109 : decode (qc 12040) 109 = .ok (.ishl, 1) := by decide +kernel
theorem k12040_110 : decode (qc 12040) 110 = .ok (.ior, 1) := by decide +kernel
theorem k12040_111 : decode (qc 12040) 111 = .ok (.istore_n 2, 1) := by decide +kernel
theorem k12040_112 : decode (qc 12040) 112 = .ok (.aload_n 0, 1) := by decide +kernel
theorem k12040_113 : decode (qc 12040) 113 = .ok (.dup, 1) := by decide +kernel
theorem k12040_114 : decode (qc 12040) 114 = .ok (.getfield 126, 3) := by decide +kernel
theorem k12040_117 : decode (qc 12040) 117 = .ok (.iconst 1, 1) := by decide +kernel
theorem k12040_118 : decode (qc 12040) 118 = .ok (.iadd, 1) := by decide +kernel
theorem k12040_119 : decode (qc 12040) 119 = .ok (.putfield 126, 3) := by decide +kernel
theorem k12040_122 : decode (qc 12040) 122 = .ok (.aload_n 0, 1) := by decide +kernel
theorem k12040_123 : decode (qc 12040) 123 = .ok (.getfield 40, 3) := by decide +kernel
theorem k12040_126 : decode (qc 12040) 126 = .ok (.aload_n 0, 1) := by decide +kernel
theorem k12040_127 : decode (qc 12040) 127 = .ok (.iload_n 1, 1) := by decide +kernel
theorem k12040_128 : decode (qc 12040) 128 = .ok (.iload_n 3, 1) := by decide +kernel
theorem k12040_129 : decode (qc 12040) 129 = .ok (.invokevirtual 260, 3) := by decide +kernel
theorem k12040_132 : decode (qc 12040) 132 = .ok (.aload_n 0, 1) := by decide +kernel
theorem k12040_133 : decode (qc 12040) 133 = .ok (.iload_n 3, 1) := by decide +kernel
theorem k12040_134 : decode (qc 12040) 134 = .ok (.bipush 104, 2) := by decide +kernel
theorem k12040_136 : decode (qc 12040) 136 = .ok (.if_icmp .eq 9, 3) := by decide +kernel
theorem k12040_139 : decode (qc 12040) 139 = .ok (.iload_n 3, 1) := by decide +kernel
theorem k12040_140 : decode (qc 12040) 140 = .ok (.bipush 110, 2) := by decide +kernel
theorem k12040_142 : decode (qc 12040) 142 = .ok (.if_icmp .ne 7, 3) := by decide +kernel
theorem k12040_145 : decode (qc 12040) 145 = .ok (.iconst 1, 1) := by decide +kernel
theorem k12040_146 : decode (qc 12040) 146 = .ok (.goto 4, 3) := by decide +kernel
theorem k12040_149 : decode (qc 12040) 149 = .ok (.iconst 0, 1) := by decide +kernel
theorem k12040_150 : decode (qc 12040) 150 = .ok (.aload_n 0, 1) := by decide +kernel
theorem k12040_151 : decode (qc 12040) 151 = .ok (.iload_n 1, 1) := by decide +kernel
theorem k12040_152 : decode (qc 12040) 152 = .ok (.iload_n 3, 1) := by decide +kernel
theorem k12040_153 : decode (qc 12040) 153 = .ok (.invokevirtual 267, 3) := by decide +kernel
theorem k12040_156 : decode (qc 12040) 156 = .ok (.invokevirtual 270, 3) := by decide +kernel
theorem k12040_159 : decode (qc 12040) 159 = .ok (.iastore, 1) := by decide +kernel
theorem k12040_160 : decode (qc 12040) 160 = .ok (.aload_n 0, 1) := by decide +kernel
theorem k12040_161 : decode (qc 12040) 161 = .ok (.invokevirtual 145, 3) := by decide +kernel
theorem k12040_164 : decode (qc 12040) 164 = .ok (.istore_n 3, 1) := by decide +kernel
theorem k12040_165 : decode (qc 12040) 165 = .ok (.goto (-91), 3) := by decide +kernel
theorem k12040_168 : decode (qc 12040) 168 = .ok (.aload_n 0, 1) := by decide +kernel
theorem k12040_169 : decode (qc 12040) 169 = .ok (.dup, 1) := by decide +kernel
theorem k12040_170 : decode (qc 12040) 170 = .ok (.getfield 235, 3) := by decide +kernel
theorem k12040_173 : decode (qc 12040) 173 = .ok (.iload_n 1, 1) := by decide +kernel
theorem k12040_174 : decode (qc 12040) 174 = .ok (.bipush 115, 2) := by decide +kernel
theorem k12040_176 : decode (qc 12040) 176 = .ok (.if_icmp .ne 7, 3) := by decide +kernel
theorem k12040_179 : decode (qc 12040) 179 = .ok (.iconst 1, 1) := by decide +kernel
theorem k12040_180 : decode (qc 12040) 180 = .ok (.goto 4, 3) := by decide +kernel
theorem k12040_183 : decode (qc 12040) 183 = .ok (.iconst 0, 1) := by decide +kernel
theorem k12040_184 : decode (qc 12040) 184 = .ok (.iadd, 1) := by decide +kernel
theorem k12040_185 : decode (qc 12040) 185 = .ok (.putfield 235, 3) := by decide +kernel
theorem k12040_188 : decode (qc 12040) 188 = .ok (.aload_n 0, 1) := by decide +kernel
theorem k12040_189 : decode (qc 12040) 189 = .ok (.dup, 1) := by decide +kernel
theorem k12040_190 : decode (qc 12040) 190 = .ok (.getfield 242, 3) := by decide +kernel
theorem k12040_193 : decode (qc 12040) 193 = .ok (.iload_n 1, 1) := by decide +kernel
theorem k12040_194 : decode (qc 12040) 194 = .ok (.bipush 109, 2) := by decide +kernel
theorem k12040_196 : decode (qc 12040) 196 = .ok (.if_icmp .ne 7, 3) := by decide +kernel
theorem k12040_199 : decode (qc 12040) 199 = .ok (.iconst 1, 1) := by decide +kernel
theorem k12040_200 : decode (qc 12040) 200 = .ok (.goto 4, 3) := by decide +kernel
theorem k12040_203 : decode (qc 12040) 203 = .ok (.iconst 0, 1) := by decide +kernel
theorem k12040_204 : decode (qc 12040) 204 = .ok (.iadd, 1) := by decide +kernel
theorem k12040_205 : decode (qc 12040) 205 = .ok (.putfield 242, 3) := by decide +kernel
theorem k12040_208 : decode (qc 12040) 208 = .ok (.aload_n 0, 1) := by decide +kernel
theorem k12040_209 : decode (qc 12040) 209 = .ok (.dup, 1) := by decide +kernel
theorem k12040_210 : decode (qc 12040) 210 = .ok (.getfield 248, 3) := by decide +kernel
theorem k12040_213 : decode (qc 12040) 213 = .ok (.iload_n 1, 1) := by decide +kernel
theorem k12040_214 : decode (qc 12040) 214 = .ok (.bipush 116, 2) := by decide +kernel
theorem k12040_216 : decode (qc 12040) 216 = .ok (.if_icmp .ne 7, 3) := by decide +kernel
theorem k12040_219 : decode (qc 12040) 219 = .ok (.iconst 1, 1) := by decide +kernel
theorem k12040_220 : decode (qc 12040) 220 = .ok (.goto 4, 3) := by decide +kernel
theorem k12040_223 : decode (qc 12040) 223 = .ok (.iconst 0, 1) := by decide +kernel
theorem k12040_224 : decode (qc 12040) 224 = .ok (.iadd, 1) := by decide +kernel
theorem k12040_225 : decode (qc 12040) 225 = .ok (.putfield 248, 3) := by decide +kernel
theorem k12040_228 : decode (qc 12040) 228 = .ok (.return_, 1) := by decide +kernel
theorem k12041_0 : decode (qc 12041) 0 = .ok (.iconst 0, 1) := by decide +kernel
theorem k12041_1 : decode (qc 12041) 1 = .ok (.istore_n 1, 1) := by decide +kernel
theorem k12041_2 : decode (qc 12041) 2 = .ok (.iload_n 1, 1) := by decide +kernel
theorem k12041_3 : decode (qc 12041) 3 = .ok (.aload_n 0, 1) := by decide +kernel
theorem k12041_4 : decode (qc 12041) 4 = .ok (.getfield 235, 3) := by decide +kernel
theorem k12041_7 : decode (qc 12041) 7 = .ok (.if_icmp .ge 28, 3) := by decide +kernel
theorem k12041_10 : decode (qc 12041) 10 = .ok (.aload_n 0, 1) := by decide +kernel
theorem k12041_11 : decode (qc 12041) 11 = .ok (.getfield 40, 3) := by decide +kernel
theorem k12041_14 : decode (qc 12041) 14 = .ok (.iload_n 1, 1) := by decide +kernel
theorem k12041_15 : decode (qc 12041) 15 = .ok (.iconst 1, 1) := by decide +kernel
theorem k12041_16 : decode (qc 12041) 16 = .ok (.invokestatic 238, 3) := by decide +kernel
theorem k12041_19 : decode (qc 12041) 19 = .ok (.iaload, 1) := by decide +kernel
theorem k12041_20 : decode (qc 12041) 20 = .ok (.aload_n 0, 1) := by decide +kernel
theorem k12041_21 : decode (qc 12041) 21 = .ok (.getfield 242, 3) := by decide +kernel
theorem k12041_24 : decode (qc 12041) 24 = .ok (.if_icmp .lt 5, 3) := by decide +kernel
theorem k12041_27 : decode (qc 12041) 27 = .ok (.iconst 0, 1) := by decide +kernel
theorem k12041_28 : decode (qc 12041) 28 = .ok (.ireturn, 1) := by decide +kernel
theorem k12041_29 : decode (qc 12041) 29 = .ok (.iinc 1 1, 3) := by decide +kernel
theorem k12041_32 : decode (qc 12041) 32 = .ok (.goto (-30), 3) := by decide +kernel
theorem k12041_35 : decode (qc 12041) 35 = .ok (.aload_n 0, 1) := by decide +kernel
theorem k12041_36 : decode (qc 12041) 36 = .ok (.getfield 235, 3) := by decide +kernel
theorem k12041_39 : decode (qc 12041) 39 = .ok (.ifCond .le 14, 3) := by decide +kernel
theorem k12041_42 : decode (qc 12041) 42 = .ok (.aload_n 0, 1) := by decide +kernel
theorem k12041_43 : decode (qc 12041) 43 = .ok (.getfield 242, 3) := by decide +kernel
theorem k12041_46 : decode (qc 12041) 46 = .ok (.ifCond .le 7, 3) := by decide +kernel
theorem k12041_49 : decode (qc 12041) 49 = .ok (.iconst 1, 1) := by decide +kernel
theorem k12041_50 : decode (qc 12041) 50 = .ok (.goto 4, 3) := by decide +kernel
theorem k12041_53 : decode (qc 12041) 53 = .ok (.iconst 0, 1) := by decide +kernel
theorem k12041_54 : decode (qc 12041) 54 = .ok (.ireturn, 1) := by decide +kernel
theorem k12042_0 : decode (qc 12042) 0 = .ok (.aload_n 0, 1) := by decide +kernel
theorem k12042_1 : decode (qc 12042) 1 = .ok (.iconst 0, 1) := by decide +kernel
theorem k12042_2 : decode (qc 12042) 2 = .ok (.putfield 126, 3) := by decide +kernel
theorem k12042_5 : decode (qc 12042) 5 = .ok (.aload_n 0, 1) := by decide +kernel
theorem k12042_6 : decode (qc 12042) 6 = .ok (.iconst (-1), 1) := by decide +kernel
theorem k12042_7 : decode (qc 12042) 7 = .ok (.putfield 133, 3) := by decide +kernel
theorem k12042_10 : decode (qc 12042) 10 = .ok (.aload_n 0, 1) := by decide +kernel
theorem k12042_11 : decode (qc 12042) 11 = .ok (.iconst 0, 1) := by decide +kernel
theorem k12042_12 : decode (qc 12042) 12 = .ok (.putfield 235, 3) := by decide +kernel
theorem k12042_15 : decode (qc 12042) 15 = .ok (.aload_n 0, 1) := by decide +kernel
theorem k12042_16 : decode (qc 12042) 16 = .ok (.iconst 0, 1) := by decide +kernel
theorem k12042_17 : decode (qc 12042) 17 = .ok (.putfield 242, 3) := by decide +kernel
theorem k12042_20 : decode (qc 12042) 20 = .ok (.aload_n 0, 1) := by decide +kernel
theorem k12042_21 : decode (qc 12042) 21 = .ok (.iconst 0, 1) := by decide +kernel
theorem k12042_22 : decode (qc 12042) 22 = .ok (.putfield 248, 3) := by decide +kernel
theorem k12042_25 : decode (qc 12042) 25 = .ok (.aload_n 0, 1) := by decide +kernel
theorem k12042_26 : decode (qc 12042) 26 = .ok (.invokevirtual 145, 3) := by decide +kernel
theorem k12042_29 : decode (qc 12042) 29 = .ok (.bipush 114, 2) := by decide +kernel
theorem k12042_31 : decode (qc 12042) 31 = .ok (.if_icmp .eq 12, 3) := by decide +kernel
theorem k12042_34 : decode (qc 12042) 34 = .ok (.aload_n 0, 1) := by decide +kernel
theorem k12042_35 : decode (qc 12042) 35 = .ok (.invokevirtual 142, 3) := by decide +kernel
theorem k12042_38 : decode (qc 12042) 38 = .ok (.aload_n 0, 1) := by decide +kernel
theorem k12042_39 : decode (qc 12042) 39 = .ok (.getfield 133, 3) := by decide +kernel
theorem k12042_42 : decode (qc 12042) 42 = .ok (.ireturn, 1) := by decide +kernel
theorem k12042_43 : decode (qc 12042) 43 = .ok (.aload_n 0, 1) := by decide +kernel
theorem k12042_44 : decode (qc 12042) 44 = .ok (.dup, 1) := by decide +kernel
theorem k12042_45 : decode (qc 12042) 45 = .ok (.getfield 126, 3) := by decide +kernel
theorem k12042_48 : decode (qc 12042) 48 = .ok (.iconst 1, 1) := by decide +kernel
theorem k12042_49 : decode (qc 12042) 49 = .ok (.iadd, 1) := by decide +kernel
theorem k12042_50 : decode (qc 12042) 50 = .ok (.putfield 126, 3) := by decide +kernel
theorem k12042_53 : decode (qc 12042) 53 = .ok (.aload_n 0, 1) := by decide +kernel
theorem k12042_54 : decode (qc 12042) 54 = .ok (.aload_n 0, 1) := by decide +kernel
theorem k12042_55 : decode (qc 12042) 55 = .ok (.iconst 2, 1) := by decide +kernel
theorem k12042_56 : decode (qc 12042) 56 = .ok (.bipush 6, 2) := by decide +kernel
theorem k12042_58 : decode (qc 12042) 58 = .ok (.invokevirtual 270, 3) := by decide +kernel
theorem k12042_61 : decode (qc 12042) 61 = .ok (.putfield 254, 3) := by decide +kernel
theorem k12042_64 : decode (qc 12042) 64 = .ok (.aload_n 0, 1) := by decide +kernel
theorem k12042_65 : decode (qc 12042) 65 = .ok (.getfield 133, 3) := by decide +kernel
theorem k12042_68 : decode (qc 12042) 68 = .ok (.iconst (-1), 1) := by decide +kernel
theorem k12042_69 : decode (qc 12042) 69 = .ok (.if_icmp .ne 29, 3) := by decide +kernel
theorem k12042_72 : decode (qc 12042) 72 = .ok (.aload_n 0, 1) := by decide +kernel
theorem k12042_73 : decode (qc 12042) 73 = .ok (.invokevirtual 145, 3) := by decide +kernel
theorem k12042_76 : decode (qc 12042) 76 = .ok (.bipush 59, 2) := by decide +kernel
theorem k12042_78 : decode (qc 12042) 78 = .ok (.if_icmp .ne 20, 3) := by decide +kernel
theorem k12042_81 : decode (qc 12042) 81 = .ok (.aload_n 0, 1) := by decide +kernel
theorem k12042_82 : decode (qc 12042) 82 = .ok (.dup, 1) := by decide +kernel
theorem k12042_83 : decode (qc 12042) 83 = .ok (.getfield 126, 3) := by decide +kernel
theorem k12042_86 : decode (qc 12042) 86 = .ok (.iconst 1, 1) := by decide +kernel
theorem k12042_87 : decode (qc 12042) 87 = .ok (.iadd, 1) := by decide +kernel
theorem k12042_88 : decode (qc 12042) 88 = .ok (.putfield 126, 3) := by decide +kernel
theorem k12042_91 : decode (qc 12042) 91 = .ok (.aload_n 0, 1) := by decide +kernel
theorem k12042_92 : decode (qc 12042) 92 = .ok (.invokevirtual 273, 3) := by decide +kernel
theorem k12042_95 : decode (qc 12042) 95 = .ok (.goto (-31), 3) := by decide +kernel
theorem k12042_98 : decode (qc 12042) 98 = .ok (.aload_n 0, 1) := by decide +kernel
theorem k12042_99 : decode (qc 12042) 99 = .ok (.getfield 133, 3) := by decide +kernel
theorem k12042_102 : decode (qc 12042) 102 = .ok (.iconst (-1), 1) := by decide +kernel
theorem k12042_103 : decode (qc 12042) 103 = .ok (.if_icmp .ne 22, 3) := by decide +kernel
theorem k12042_106 : decode (qc 12042) 106 = .ok (.aload_n 0, 1) := by decide +kernel
theorem k12042_107 : decode (qc 12042) 107 = .ok (.invokevirtual 145, 3) := by decide +kernel
theorem k12042_110 : decode (qc 12042) 110 = .ok (.iconst (-1), 1) := by decide +kernel
theorem k12042_111 : decode (qc 12042) 111 = .ok (.if_icmp .ne 10, 3) := by decide +kernel
theorem k12042_114 : decode (qc 12042) 114 = .ok (.aload_n 0, 1) := by decide +kernel
theorem k12042_115 : decode (qc 12042) 115 = .ok (.invokevirtual 276, 3) := by decide +kernel
theorem k12042_118 : decode (qc 12042) 118 = .ok (.ifCond .ne 7, 3) := by decide +kernel
theorem k12042_121 : decode (qc 12042) 121 = .ok (.aload_n 0, 1) := by decide +kernel
theorem k12042_122 : decode (qc 12042) 122 = .ok (.invokevirtual 142, 3) := by decide +kernel
theorem k12042_125 : decode (qc 12042) 125 = .ok (.aload_n 0, 1) := by decide +kernel
theorem k12042_126 : decode (qc 12042) 126 = .ok (.getfield 133, 3) := by decide +kernel
theorem k12042_129 : decode (qc 12042) 129 = .ok (.ireturn, 1) := by decide +kernel
theorem k12043_0 : decode (qc 12043) 0 = .ok (.iload_n 1, 1) := by decide +kernel
theorem k12043_1 : decode (qc 12043) 1 = .ok (.ifCond .ne 10, 3) := by decide +kernel
theorem k12043_4 : decode (qc 12043) 4 = .ok (.aload_n 0, 1) := by decide +kernel
theorem k12043_5 : decode (qc 12043) 5 = .ok (.invokevirtual 280, 3) := by decide +kernel
theorem k12043_8 : decode (qc 12043) 8 = .ok (.goto 18, 3) := by decide +kernel
theorem k12043_11 : decode (qc 12043) 11 = .ok (.iload_n 1, 1) := by decide +kernel
theorem k12043_12 : decode (qc 12043) 12 = .ok (.iconst 1, 1) := by decide +kernel
theorem k12043_13 : decode (qc 12043) 13 = .ok (.if_icmp .ne 11, 3) := by decide +kernel
theorem k12043_16 : decode (qc 12043) 16 = .ok (.aload_n 0, 1) := by decide +kernel
theorem k12043_17 : decode (qc 12043) 17 = .ok (.iconst 4, 1) := by decide +kernel
theorem k12043_18 : decode (qc 12043) 18 = .ok (.invokevirtual 283, 3) := by decide +kernel
theorem k12043_21 : decode (qc 12043) 21 = .ok (.goto 5, 3) := by decide +kernel
theorem k12043_24 : decode (qc 12043) 24 = .ok (.bipush (-2), 2) := by decide +kernel
theorem k12043_26 : decode (qc 12043) 26 = .ok (.ireturn, 1) := by decide +kernel
theorem k12044_0 : decode (qc 12044) 0 = .ok (.aload_n 0, 1) := by decide +kernel
theorem k12044_1 : decode (qc 12044) 1 = .ok (.aload_n 0, 1) := by decide +kernel
theorem k12044_2 : decode (qc 12044) 2 = .ok (.getfield 254, 3) := by decide +kernel
theorem k12044_5 : decode (qc 12044) 5 = .ok (.putfield 286, 3) := by decide +kernel
theorem k12044_8 : decode (qc 12044) 8 = .ok (.aload_n 0, 1) := by decide +kernel
theorem k12044_9 : decode (qc 12044) 9 = .ok (.aload_n 0, 1) := by decide +kernel
theorem k12044_10 : decode (qc 12044) 10 = .ok (.getfield 235, 3) := by decide +kernel
theorem k12044_13 : decode (qc 12044) 13 = .ok (.putfield 289, 3) := by decide +kernel
theorem k12044_16 : decode (qc 12044) 16 = .ok (.aload_n 0, 1) := by decide +kernel
theorem k12044_17 : decode (qc 12044) 17 = .ok (.aload_n 0, 1) := by decide +kernel
theorem k12044_18 : decode (qc 12044) 18 = .ok (.getfield 242, 3) := by decide +kernel
theorem k12044_21 : decode (qc 12044) 21 = .ok (.putfield 292, 3) := by decide +kernel
theorem k12044_24 : decode (qc 12044) 24 = .ok (.aload_n 0, 1) := by decide +kernel
theorem k12044_25 : decode (qc 12044) 25 = .ok (.aload_n 0, 1) := by decide +kernel
theorem k12044_26 : decode (qc 12044) 26 = .ok (.getfield 248, 3) := by decide +kernel
theorem k12044_29 : decode (qc 12044) 29 = .ok (.putfield 295, 3) := by decide +kernel
theorem k12044_32 : decode (qc 12044) 32 = .ok (.iconst 0, 1) := by decide +kernel
theorem k12044_33 : decode (qc 12044) 33 = .ok (.istore_n 1, 1) := by decide +kernel
theorem k12044_34 : decode (qc 12044) 34 = .ok (.iload_n 1, 1) := by decide +kernel
theorem k12044_35 : decode (qc 12044) 35 = .ok (.aload_n 0, 1) := by decide +kernel
theorem k12044_36 : decode (qc 12044) 36 = .ok (.getfield 43, 3) := by decide +kernel
theorem k12044_39 : decode (qc 12044) 39 = .ok (.arraylength, 1) := by decide +kernel
theorem k12044_40 : decode (qc 12044) 40 = .ok (.if_icmp .ge 21, 3) := by decide +kernel
theorem k12044_43 : decode (qc 12044) 43 = .ok (.aload_n 0, 1) := by decide +kernel
theorem k12044_44 : decode (qc 12044) 44 = .ok (.getfield 43, 3) := by decide +kernel
theorem k12044_47 : decode (qc 12044) 47 = .ok (.iload_n 1, 1) := by decide +kernel
theorem k12044_48 : decode (qc 12044) 48 = .ok (.aload_n 0, 1) := by decide +kernel
theorem k12044_49 : decode (qc 12044) 49 = .ok (.getfield 40, 3) := by decide +kernel
theorem k12044_52 : decode (qc 12044) 52 = .ok (.iload_n 1, 1) := by decide +kernel
theorem k12044_53 : decode (qc 12044) 53 = .ok (.iaload, 1) := by decide +kernel
theorem k12044_54 : decode (qc 12044) 54 = .ok (.iastore, 1) := by decide +kernel
theorem k12044_55 : decode (qc 12044) 55 = .ok (.iinc 1 1, 3) := by decide +kernel
theorem k12044_58 : decode (qc 12044) 58 = .ok (.goto (-24), 3) := by decide +kernel
theorem k12044_61 : decode (qc 12044) 61 = .ok (.aload_n 0, 1) := by decide +kernel
theorem k12044_62 : decode (qc 12044) 62 = .ok (.iconst 0, 1) := by decide +kernel
theorem k12044_63 : decode (qc 12044) 63 = .ok (.putfield 298, 3) := by decide +kernel
theorem k12044_66 : decode (qc 12044) 66 = .ok (.iconst 0, 1) := by decide +kernel
theorem k12044_67 : decode (qc 12044) 67 = .ok (.istore_n 1, 1) := by decide +kernel
theorem k12044_68 : decode (qc 12044) 68 = .ok (.iload_n 1, 1) := by decide +kernel
theorem k12044_69 : decode (qc 12044) 69 = .ok (.iconst 5, 1) := by decide +kernel
theorem k12044_70 : decode (qc 12044) 70 = .ok (.if_icmp .ge 16, 3) := by decide +kernel
theorem k12044_73 : decode (qc 12044) 73 = .ok (.aload_n 0, 1) := by decide +kernel
theorem k12044_74 : decode (qc 12044) 74 = .ok (.getfield 97, 3) := by decide +kernel
theorem k12044_77 : decode (qc 12044) 77 = .ok (.iload_n 1, 1) := by decide +kernel
theorem k12044_78 : decode (qc 12044) 78 = .ok (.iconst (-1), 1) := by decide +kernel
theorem k12044_79 : decode (qc 12044) 79 = .ok (.iastore, 1) := by decide +kernel
theorem k12044_80 : decode (qc 12044) 80 = .ok (.iinc 1 1, 3) := by decide +kernel
theorem k12044_83 : decode (qc 12044) 83 = .ok (.goto (-15), 3) := by decide +kernel
theorem k12044_86 : decode (qc 12044) 86 = .ok (.aload_n 0, 1) := by decide +kernel
theorem k12044_87 : decode (qc 12044) 87 = .ok (.iconst 0, 1) := by decide +kernel
theorem k12044_88 : decode (qc 12044) 88 = .ok (.putfield 301, 3) := by decide +kernel
theorem k12044_91 : decode (qc 12044) 91 = .ok (.aload_n 0, 1) := by decide +kernel
theorem k12044_92 : decode (qc 12044) 92 = .ok (.getfield 289, 3) := by decide +kernel
theorem k12044_95 : decode (qc 12044) 95 = .ok (.ireturn, 1) := by decide +kernel
theorem k12045_0 : decode (qc 12045) 0 = .ok (.iload_n 1, 1) := by decide +kernel
theorem k12045_1 : decode (qc 12045) 1 = .ok (.ifCond .ne 21, 3) := by decide +kernel
theorem k12045_4 : decode (qc 12045) 4 = .ok (.aload_n 0, 1) := by decide +kernel
theorem k12045_5 : decode (qc 12045) 5 = .ok (.invokevirtual 280, 3) := by decide +kernel
theorem k12045_8 : decode (qc 12045) 8 = .ok (.iconst (-1), 1) := by decide +kernel
theorem k12045_9 : decode (qc 12045) 9 = .ok (.if_icmp .ne 13, 3) := by decide +kernel
theorem k12045_12 : decode (qc 12045) 12 = .ok (.aload_n 0, 1) := by decide +kernel
theorem k12045_13 : decode (qc 12045) 13 = .ok (.iconst 0, 1) := by decide +kernel
theorem k12045_14 : decode (qc 12045) 14 = .ok (.putfield 123, 3) := by decide +kernel
theorem k12045_17 : decode (qc 12045) 17 = .ok (.aload_n 0, 1) := by decide +kernel
theorem k12045_18 : decode (qc 12045) 18 = .ok (.invokevirtual 305, 3) := by decide +kernel
theorem k12045_21 : decode (qc 12045) 21 = .ok (.ireturn, 1) := by decide +kernel
theorem k12045_22 : decode (qc 12045) 22 = .ok (.iload_n 1, 1) := by decide +kernel
theorem k12045_23 : decode (qc 12045) 23 = .ok (.iconst 1, 1) := by decide +kernel
theorem k12045_24 : decode (qc 12045) 24 = .ok (.if_icmp .ne 45, 3) := by decide +kernel
theorem k12045_27 : decode (qc 12045) 27 = .ok (.aload_n 0, 1) := by decide +kernel
theorem k12045_28 : decode (qc 12045) 28 = .ok (.getfield 308, 3) := by decide +kernel
theorem k12045_31 : decode (qc 12045) 31 = .ok (.iconst 4, 1) := by decide +kernel
theorem k12045_32 : decode (qc 12045) 32 = .ok (.if_icmp .ge 37, 3) := by decide +kernel
theorem k12045_35 : decode (qc 12045) 35 = .ok (.aload_n 0, 1) := by decide +kernel
theorem k12045_36 : decode (qc 12045) 36 = .ok (.aload_n 0, 1) := by decide +kernel
theorem k12045_37 : decode (qc 12045) 37 = .ok (.getfield 308, 3) := by decide +kernel
theorem k12045_40 : decode (qc 12045) 40 = .ok (.invokevirtual 283, 3) := by decide +kernel
theorem k12045_43 : decode (qc 12045) 43 = .ok (.iconst (-1), 1) := by decide +kernel
theorem k12045_44 : decode (qc 12045) 44 = .ok (.if_icmp .ne 25, 3) := by decide +kernel
theorem k12045_47 : decode (qc 12045) 47 = .ok (.aload_n 0, 1) := by decide +kernel
theorem k12045_48 : decode (qc 12045) 48 = .ok (.iconst 0, 1) := by decide +kernel
theorem k12045_49 : decode (qc 12045) 49 = .ok (.putfield 123, 3) := by decide +kernel
theorem k12045_52 : decode (qc 12045) 52 = .ok (.aload_n 0, 1) := by decide +kernel
theorem k12045_53 : decode (qc 12045) 53 = .ok (.dup, 1) := by decide +kernel
theorem k12045_54 : decode (qc 12045) 54 = .ok (.getfield 308, 3) := by decide +kernel
theorem k12045_57 : decode (qc 12045) 57 = .ok (.iconst 1, 1) := by decide +kernel
theorem k12045_58 : decode (qc 12045) 58 = .ok (.iadd, 1) := by decide +kernel
theorem k12045_59 : decode (qc 12045) 59 = .ok (.putfield 308, 3) := by decide +kernel
theorem k12045_62 : decode (qc 12045) 62 = .ok (.aload_n 0, 1) := by decide +kernel
theorem k12045_63 : decode (qc 12045) 63 = .ok (.getfield 308, 3) := by decide +kernel
theorem k12045_66 : decode (qc 12045) 66 = .ok (.iconst 1, 1) := by decide +kernel
theorem k12045_67 : decode (qc 12045) 67 = .ok (.isub, 1) := by decide +kernel
theorem k12045_68 : decode (qc 12045) 68 = .ok (.ireturn, 1) := by decide +kernel
theorem k12045_69 : decode (qc 12045) 69 = .ok (.iconst (-1), 1) := by decide +kernel
theorem k12045_70 : decode (qc 12045) 70 = .ok (.ireturn, 1) := by decide +kernel
theorem k12046_0 : decode (qc 12046) 0 = .ok (.iload_n 1, 1) := by decide +kernel
theorem k12046_1 : decode (qc 12046) 1 = .ok (.iconst 0, 1) := by decide +kernel
theorem k12046_2 : decode (qc 12046) 2 = .ok (.aload_n 0, 1) := by decide +kernel
theorem k12046_3 : decode (qc 12046) 3 = .ok (.getfield 289, 3) := by decide +kernel
theorem k12046_6 : decode (qc 12046) 6 = .ok (.iconst 1, 1) := by decide +kernel
theorem k12046_7 : decode (qc 12046) 7 = .ok (.isub, 1) := by decide +kernel
theorem k12046_8 : decode (qc 12046) 8 = .ok (.invokestatic 231, 3) := by decide +kernel
theorem k12046_11 : decode (qc 12046) 11 = .ok (.ireturn, 1) := by decide +kernel
theorem k12047_0 : decode (qc 12047) 0 = .ok (.iload_n 1, 1) := by decide +kernel
theorem k12047_1 : decode (qc 12047) 1 = .ok (.iconst 0, 1) := by decide +kernel
theorem k12047_2 : decode (qc 12047) 2 = .ok (.aload_n 0, 1) := by decide +kernel
theorem k12047_3 : decode (qc 12047) 3 = .ok (.getfield 292, 3) := by decide +kernel
theorem k12047_6 : decode (qc 12047) 6 = .ok (.iconst 1, 1) := by decide +kernel
theorem k12047_7 : decode (qc 12047) 7 = .ok (.isub, 1) := by decide +kernel
theorem k12047_8 : decode (qc 12047) 8 = .ok (.invokestatic 231, 3) := by decide +kernel
theorem k12047_11 : decode (qc 12047) 11 = .ok (.ireturn, 1) := by decide +kernel
theorem k12048_0 : decode (qc 12048) 0 = .ok (.aload_n 0, 1) := by decide +kernel
theorem k12048_1 : decode (qc 12048) 1 = .ok (.getfield 43, 3) := by decide +kernel
theorem k12048_4 : decode (qc 12048) 4 = .ok (.iload_n 2, 1) := by decide +kernel
theorem k12048_5 : decode (qc 12048) 5 = .ok (.iconst 1, 1) := by decide +kernel
theorem k12048_6 : decode (qc 12048) 6 = .ok (.invokestatic 238, 3) := by decide +kernel
theorem k12048_9 : decode (qc 12048) 9 = .ok (.iaload, 1) := by decide +kernel
theorem k12048_10 : decode (qc 12048) 10 = .ok (.iload_n 1, 1) := by decide +kernel
theorem k12048_11 : decode (qc 12048) 11 = .ok (.if_icmp .eq 7, 3) := by decide +kernel
theorem k12048_14 : decode (qc 12048) 14 = .ok (.iconst 1, 1) := by decide +kernel
theorem k12048_15 : decode (qc 12048) 15 = .ok (.goto 4, 3) := by decide +kernel
theorem k12048_18 : decode (qc 12048) 18 = .ok (.iconst 0, 1) := by decide +kernel
theorem k12048_19 : decode (qc 12048) 19 = .ok (.ireturn, 1) := by decide +kernel
theorem k12049_0 : decode (qc 12049) 0 = .ok (.aload_n 0, 1) := by decide +kernel
theorem k12049_1 : decode (qc 12049) 1 = .ok (.aload_n 0, 1) := by decide +kernel
theorem k12049_2 : decode (qc 12049) 2 = .ok (.iload_n 1, 1) := by decide +kernel
theorem k12049_3 : decode (qc 12049) 3 = .ok (.invokevirtual 311, 3) := by decide +kernel
theorem k12049_6 : decode (qc 12049) 6 = .ok (.ifCond .eq 16, 3) := by decide +kernel
theorem k12049_9 : decode (qc 12049) 9 = .ok (.iload_n 2, 1) := by decide +kernel
theorem k12049_10 : decode (qc 12049) 10 = .ok (.iconst 0, 1) := by decide +kernel
theorem k12049_11 : decode (qc 12049) 11 = .ok (.iconst 2, 1) := by decide +kernel
theorem k12049_12 : decode (qc 12049) 12 = .ok (.invokestatic 231, 3) := by decide +kernel
theorem k12049_15 : decode (qc 12049) 15 = .ok (.ifCond .eq 7, 3) := by decide +kernel
theorem k12049_18 : decode (qc 12049) 18 = .ok (.iconst 0, 1) := by decide +kernel
theorem k12049_19 : decode (qc 12049) 19 = .ok (.goto 4, 3) := by decide +kernel
theorem k12049_22 : decode (qc 12049) 22 = .ok (.iconst 1, 1) := by decide +kernel
theorem k12049_23 : decode (qc 12049) 23 = .ok (.putfield 116, 3) := by decide +kernel
theorem k12049_26 : decode (qc 12049) 26 = .ok (.aload_n 0, 1) := by decide +kernel
theorem k12049_27 : decode (qc 12049) 27 = .ok (.getfield 116, 3) := by decide +kernel
theorem k12049_30 : decode (qc 12049) 30 = .ok (.iconst 1, 1) := by decide +kernel
theorem k12049_31 : decode (qc 12049) 31 = .ok (.if_icmp .ne 7, 3) := by decide +kernel
theorem k12049_34 : decode (qc 12049) 34 = .ok (.iconst 0, 1) := by decide +kernel
theorem k12049_35 : decode (qc 12049) 35 = .ok (.goto 13, 3) := by decide +kernel
theorem k12049_38 : decode (qc 12049) 38 = .ok (.aload_n 0, 1) := by decide +kernel
theorem k12049_39 : decode (qc 12049) 39 = .ok (.getfield 43, 3) := by decide +kernel
theorem k12049_42 : decode (qc 12049) 42 = .ok (.iload_n 1, 1) := by decide +kernel
theorem k12049_43 : decode (qc 12049) 43 = .ok (.iload_n 2, 1) := by decide +kernel
theorem k12049_44 : decode (qc 12049) 44 = .ok (.invokestatic 238, 3) := by decide +kernel
theorem k12049_47 : decode (qc 12049) 47 = .ok (.iaload, 1) := by decide +kernel
theorem k12049_48 : decode (qc 12049) 48 = .ok (.ireturn, 1) := by decide +kernel
theorem k12050_0 : decode (qc 12050) 0 = .ok (.aload_n 0, 1) := by decide +kernel
theorem k12050_1 : decode (qc 12050) 1 = .ok (.iload_n 1, 1) := by decide +kernel
theorem k12050_2 : decode (qc 12050) 2 = .ok (.invokevirtual 314, 3) := by decide +kernel
theorem k12050_5 : decode (qc 12050) 5 = .ok (.ifCond .eq 15, 3) := by decide +kernel
theorem k12050_8 : decode (qc 12050) 8 = .ok (.aload_n 0, 1) := by decide +kernel
theorem k12050_9 : decode (qc 12050) 9 = .ok (.getfield 43, 3) := by decide +kernel
theorem k12050_12 : decode (qc 12050) 12 = .ok (.iload_n 1, 1) := by decide +kernel
theorem k12050_13 : decode (qc 12050) 13 = .ok (.invokestatic 245, 3) := by decide +kernel
theorem k12050_16 : decode (qc 12050) 16 = .ok (.iaload, 1) := by decide +kernel
theorem k12050_17 : decode (qc 12050) 17 = .ok (.goto 4, 3) := by decide +kernel
theorem k12050_20 : decode (qc 12050) 20 = .ok (.iconst (-1), 1) := by decide +kernel
theorem k12050_21 : decode (qc 12050) 21 = .ok (.ireturn, 1) := by decide +kernel
theorem k12051_0 : decode (qc 12051) 0 = .ok (.iload_n 1, 1) := by decide +kernel
theorem k12051_1 : decode (qc 12051) 1 = .ok (.iconst 0, 1) := by decide +kernel
theorem k12051_2 : decode (qc 12051) 2 = .ok (.aload_n 0, 1) := by decide +kernel
theorem k12051_3 : decode (qc 12051) 3 = .ok (.getfield 295, 3) := by decide +kernel
theorem k12051_6 : decode (qc 12051) 6 = .ok (.iconst 1, 1) := by decide +kernel
theorem k12051_7 : decode (qc 12051) 7 = .ok (.isub, 1) := by decide +kernel
theorem k12051_8 : decode (qc 12051) 8 = .ok (.invokestatic 231, 3) := by decide +kernel
theorem k12051_11 : decode (qc 12051) 11 = .ok (.ifCond .eq 25, 3) := by decide +kernel
theorem k12051_14 : decode (qc 12051) 14 = .ok (.iload_n 2, 1) := by decide +kernel
theorem k12051_15 : decode (qc 12051) 15 = .ok (.iconst 0, 1) := by decide +kernel
theorem k12051_16 : decode (qc 12051) 16 = .ok (.iconst 3, 1) := by decide +kernel
theorem k12051_17 : decode (qc 12051) 17 = .ok (.invokestatic 231, 3) := by decide +kernel
theorem k12051_20 : decode (qc 12051) 20 = .ok (.ifCond .eq 16, 3) := by decide +kernel
theorem k12051_23 : decode (qc 12051) 23 = .ok (.aload_n 0, 1) := by decide +kernel
theorem k12051_24 : decode (qc 12051) 24 = .ok (.getfield 43, 3) := by decide +kernel
theorem k12051_27 : decode (qc 12051) 27 = .ok (.iload_n 1, 1) := by decide +kernel
theorem k12051_28 : decode (qc 12051) 28 = .ok (.iload_n 2, 1) := by decide +kernel
theorem k12051_29 : decode (qc 12051) 29 = .ok (.invokestatic 251, 3) := by decide +kernel
theorem k12051_32 : decode (qc 12051) 32 = .ok (.iaload, 1) := by decide +kernel
theorem k12051_33 : decode (qc 12051) 33 = .ok (.goto 6, 3) := by decide +kernel
theorem k12051_36 : decode (qc 12051) 36 = .ok (.ldc_w 317, 3) := by decide +kernel
theorem k12051_39 : decode (qc 12051) 39 = .ok (.ireturn, 1) := by decide +kernel
theorem k12052_0 : decode (qc 12052) 0 = .ok (.iload_n 1, 1) := by decide +kernel
theorem k12052_1 : decode (qc 12052) 1 = .ok (.iconst 0, 1) := by decide +kernel
theorem k12052_2 : decode (qc 12052) 2 = .ok (.iconst 2, 1) := by decide +kernel
theorem k12052_3 : decode (qc 12052) 3 = .ok (.invokestatic 231, 3) := by decide +kernel
theorem k12052_6 : decode (qc 12052) 6 = .ok (.ifCond .eq 44, 3) := by decide +kernel
theorem k12052_9 : decode (qc 12052) 9 = .ok (.iload_n 2, 1) := by decide +kernel
theorem k12052_10 : decode (qc 12052) 10 = .ok (.iload_n 1, 1) := by decide +kernel
theorem k12052_11 : decode (qc 12052) 11 = .ok (.ifCond .ne 7, 3) := by decide +kernel
theorem k12052_14 : decode (qc 12052) 14 = .ok (.iconst (-1), 1) := by decide +kernel
theorem k12052_15 : decode (qc 12052) 15 = .ok (.goto 4, 3) := by decide +kernel
theorem k12052_18 : decode (qc 12052) 18 = .ok (.iconst 0, 1) := by decide +kernel
theorem k12052_19 : decode (qc 12052) 19 = .ok (.iload_n 1, 1) := by decide +kernel
theorem k12052_20 : decode (qc 12052) 20 = .ok (.ifCond .ne 12, 3) := by decide +kernel
theorem k12052_23 : decode (qc 12052) 23 = .ok (.aload_n 0, 1) := by decide +kernel
theorem k12052_24 : decode (qc 12052) 24 = .ok (.getfield 308, 3) := by decide +kernel
theorem k12052_27 : decode (qc 12052) 27 = .ok (.iconst 1, 1) := by decide +kernel
theorem k12052_28 : decode (qc 12052) 28 = .ok (.isub, 1) := by decide +kernel
theorem k12052_29 : decode (qc 12052) 29 = .ok (.goto 15, 3) := by decide +kernel
theorem k12052_32 : decode (qc 12052) 32 = .ok (.iload_n 1, 1) := by decide +kernel
theorem k12052_33 : decode (qc 12052) 33 = .ok (.iconst 1, 1) := by decide +kernel
theorem k12052_34 : decode (qc 12052) 34 = .ok (.if_icmp .ne 9, 3) := by decide +kernel
theorem k12052_37 : decode (qc 12052) 37 = .ok (.sipush 999, 3) := by decide +kernel
theorem k12052_40 : decode (qc 12052) 40 = .ok (.goto 4, 3) := by decide +kernel
theorem k12052_43 : decode (qc 12052) 43 = .ok (.iconst 1, 1) := by decide +kernel
theorem k12052_44 : decode (qc 12052) 44 = .ok (.invokestatic 231, 3) := by decide +kernel
theorem k12052_47 : decode (qc 12052) 47 = .ok (.ifCond .ne 5, 3) := by decide +kernel
theorem k12052_50 : decode (qc 12052) 50 = .ok (.iconst 0, 1) := by decide +kernel
theorem k12052_51 : decode (qc 12052) 51 = .ok (.ireturn, 1) := by decide +kernel
theorem k12052_52 : decode (qc 12052) 52 = .ok (.aload_n 0, 1) := by decide +kernel
theorem k12052_53 : decode (qc 12052) 53 = .ok (.iload_n 1, 1) := by decide +kernel
theorem k12052_54 : decode (qc 12052) 54 = .ok (.ifCond .ne 7, 3) := by decide +kernel
theorem k12052_57 : decode (qc 12052) 57 = .ok (.iload_n 2, 1) := by decide +kernel
theorem k12052_58 : decode (qc 12052) 58 = .ok (.goto 7, 3) := by decide +kernel
theorem k12052_61 : decode (qc 12052) 61 = .ok (.aload_n 0, 1) := by decide +kernel
theorem k12052_62 : decode (qc 12052) 62 = .ok (.getfield 46, 3) := by decide +kernel
theorem k12052_65 : decode (qc 12052) 65 = .ok (.putfield 46, 3) := by decide +kernel
theorem k12052_68 : decode (qc 12052) 68 = .ok (.aload_n 0, 1) := by decide +kernel
theorem k12052_69 : decode (qc 12052) 69 = .ok (.iload_n 1, 1) := by decide +kernel
theorem k12052_70 : decode (qc 12052) 70 = .ok (.iconst 1, 1) := by decide +kernel
theorem k12052_71 : decode (qc 12052) 71 = .ok (.if_icmp .ne 7, 3) := by decide +kernel
theorem k12052_74 : decode (qc 12052) 74 = .ok (.iload_n 2, 1) := by decide +kernel
theorem k12052_75 : decode (qc 12052) 75 = .ok (.goto 7, 3) := by decide +kernel
theorem k12052_78 : decode (qc 12052) 78 = .ok (.aload_n 0, 1) := by decide +kernel
theorem k12052_79 : decode (qc 12052) 79 = .ok (.getfield 318, 3) := by decide +kernel
theorem k12052_82 : decode (qc 12052) 82 = .ok (.putfield 318, 3) := by decide +kernel
theorem k12052_85 : decode (qc 12052) 85 = .ok (.aload_n 0, 1) := by decide +kernel
theorem k12052_86 : decode (qc 12052) 86 = .ok (.iload_n 1, 1) := by decide +kernel
theorem k12052_87 : decode (qc 12052) 87 = .ok (.iconst 2, 1) := by decide +kernel
theorem k12052_88 : decode (qc 12052) 88 = .ok (.if_icmp .ne 7, 3) := by decide +kernel
theorem k12052_91 : decode (qc 12052) 91 = .ok (.iload_n 2, 1) := by decide +kernel
theorem k12052_92 : decode (qc 12052) 92 = .ok (.goto 7, 3) := by decide +kernel
theorem k12052_95 : decode (qc 12052) 95 = .ok (.aload_n 0, 1) := by decide +kernel
theorem k12052_96 : decode (qc 12052) 96 = .ok (.getfield 321, 3) := by decide +kernel
theorem k12052_99 : decode (qc 12052) 99 = .ok (.putfield 321, 3) := by decide +kernel
theorem k12052_102 : decode (qc 12052) 102 = .ok (.iconst 1, 1) := by decide +kernel
theorem k12052_103 : decode (qc 12052) 103 = .ok (.ireturn, 1) := by decide +kernel
theorem k12053_0 : decode (qc 12053) 0 = .ok (.aload_n 0, 1) := by decide +kernel
theorem k12053_1 : decode (qc 12053) 1 = .ok (.iload_n 1, 1) := by decide +kernel
theorem k12053_2 : decode (qc 12053) 2 = .ok (.invokevirtual 314, 3) := by decide +kernel
theorem k12053_5 : decode (qc 12053) 5 = .ok (.ifCond .ne 22, 3) := by decide +kernel
theorem k12053_8 : decode (qc 12053) 8 = .ok (.aload_n 0, 1) := by decide +kernel
theorem k12053_9 : decode (qc 12053) 9 = .ok (.iload_n 1, 1) := by decide +kernel
theorem k12053_10 : decode (qc 12053) 10 = .ok (.bipush 10, 2) := by decide +kernel
theorem k12053_12 : decode (qc 12053) 12 = .ok (.isub, 1) := by decide +kernel
theorem k12053_13 : decode (qc 12053) 13 = .ok (.invokevirtual 311, 3) := by decide +kernel
theorem k12053_16 : decode (qc 12053) 16 = .ok (.ifCond .eq 15, 3) := by decide +kernel
theorem k12053_19 : decode (qc 12053) 19 = .ok (.iload_n 1, 1) := by decide +kernel
theorem k12053_20 : decode (qc 12053) 20 = .ok (.bipush 10, 2) := by decide +kernel
theorem k12053_22 : decode (qc 12053) 22 = .ok (.isub, 1) := by decide +kernel
theorem k12053_23 : decode (qc 12053) 23 = .ok (.iload_n 2, 1) := by decide +kernel
theorem k12053_24 : decode (qc 12053) 24 = .ok (.if_icmp .eq 7, 3) := by decide +kernel
theorem k12053_27 : decode (qc 12053) 27 = .ok (.iconst 1, 1) := by decide +kernel
theorem k12053_28 : decode (qc 12053) 28 = .ok (.goto 4, 3) := by decide +kernel
theorem k12053_31 : decode (qc 12053) 31 = .ok (.iconst 0, 1) := by decide +kernel
theorem k12053_32 : decode (qc 12053) 32 = .ok (.istore 4, 2) := by decide +kernel
theorem k12053_34 : decode (qc 12053) 34 = .ok (.iload 4, 2) := by decide +kernel
theorem k12053_36 : decode (qc 12053) 36 = .ok (.ifCond .eq 52, 3) := by decide +kernel
theorem k12053_39 : decode (qc 12053) 39 = .ok (.aload_n 0, 1) := by decide +kernel
theorem k12053_40 : decode (qc 12053) 40 = .ok (.iload_n 2, 1) := by decide +kernel
theorem k12053_41 : decode (qc 12053) 41 = .ok (.invokevirtual 311, 3) := by decide +kernel
theorem k12053_44 : decode (qc 12053) 44 = .ok (.ifCond .eq 44, 3) := by decide +kernel
theorem k12053_47 : decode (qc 12053) 47 = .ok (.iload_n 3, 1) := by decide +kernel
theorem k12053_48 : decode (qc 12053) 48 = .ok (.aload_n 0, 1) := by decide +kernel
theorem k12053_49 : decode (qc 12053) 49 = .ok (.getfield 298, 3) := by decide +kernel
theorem k12053_52 : decode (qc 12053) 52 = .ok (.ifCond .ne 7, 3) := by decide +kernel
theorem k12053_55 : decode (qc 12053) 55 = .ok (.iconst 0, 1) := by decide +kernel
theorem k12053_56 : decode (qc 12053) 56 = .ok (.goto 14, 3) := by decide +kernel
theorem k12053_59 : decode (qc 12053) 59 = .ok (.aload_n 0, 1) := by decide +kernel
theorem k12053_60 : decode (qc 12053) 60 = .ok (.getfield 56, 3) := by decide +kernel
theorem k12053_63 : decode (qc 12053) 63 = .ok (.aload_n 0, 1) := by decide +kernel
theorem k12053_64 : decode (qc 12053) 64 = .ok (.getfield 298, 3) := by decide +kernel
theorem k12053_67 : decode (qc 12053) 67 = .ok (.iconst 1, 1) := by decide +kernel
theorem k12053_68 : decode (qc 12053) 68 = .ok (.isub, 1) := by decide +kernel
theorem k12053_69 : decode (qc 12053) 69 = .ok (.iaload, 1) := by decide +kernel
theorem k12053_70 : decode (qc 12053) 70 = .ok (.sipush 999, 3) := by decide +kernel
theorem k12053_73 : decode (qc 12053) 73 = .ok (.invokestatic 231, 3) := by decide +kernel
theorem k12053_76 : decode (qc 12053) 76 = .ok (.ifCond .eq 12, 3) := by decide +kernel
theorem k12053_79 : decode (qc 12053) 79 = .ok (.aload_n 0, 1) := by decide +kernel
theorem k12053_80 : decode (qc 12053) 80 = .ok (.getfield 298, 3) := by decide +kernel
theorem k12053_83 : decode (qc 12053) 83 = .ok (.bipush 40, 2) := by decide +kernel
theorem k12053_85 : decode (qc 12053) 85 = .ok (.if_icmp .ne 5, 3) := by decide +kernel
theorem k12053_88 : decode (qc 12053) 88 = .ok (.iconst (-1), 1) := by decide +kernel
theorem k12053_89 : decode (qc 12053) 89 = .ok (.ireturn, 1) := by decide +kernel
theorem k12053_90 : decode (qc 12053) 90 = .ok (.aload_n 0, 1) := by decide +kernel
theorem k12053_91 : decode (qc 12053) 91 = .ok (.getfield 50, 3) := by decide +kernel
theorem k12053_94 : decode (qc 12053) 94 = .ok (.aload_n 0, 1) := by decide +kernel
theorem k12053_95 : decode (qc 12053) 95 = .ok (.getfield 298, 3) := by decide +kernel
theorem k12053_98 : decode (qc 12053) 98 = .ok (.iload_n 1, 1) := by decide +kernel
theorem k12053_99 : decode (qc 12053) 99 = .ok (.iastore, 1) := by decide +kernel
theorem k12053_100 : decode (qc 12053) 100 = .ok (.aload_n 0, 1) := by decide +kernel
theorem k12053_101 : decode (qc 12053) 101 = .ok (.getfield 53, 3) := by decide +kernel
theorem k12053_104 : decode (qc 12053) 104 = .ok (.aload_n 0, 1) := by decide +kernel
theorem k12053_105 : decode (qc 12053) 105 = .ok (.getfield 298, 3) := by decide +kernel
theorem k12053_108 : decode (qc 12053) 108 = .ok (.iload_n 2, 1) := by decide +kernel
theorem k12053_109 : decode (qc 12053) 109 = .ok (.iastore, 1) := by decide +kernel
theorem k12053_110 : decode (qc 12053) 110 = .ok (.aload_n 0, 1) := by decide +kernel
theorem k12053_111 : decode (qc 12053) 111 = .ok (.getfield 56, 3) := by decide +kernel
theorem k12053_114 : decode (qc 12053) 114 = .ok (.aload_n 0, 1) := by decide +kernel
theorem k12053_115 : decode (qc 12053) 115 = .ok (.getfield 298, 3) := by decide +kernel
theorem k12053_118 : decode (qc 12053) 118 = .ok (.iload_n 3, 1) := by decide +kernel
theorem k12053_119 : decode (qc 12053) 119 = .ok (.iastore, 1) := by decide +kernel
theorem k12053_120 : decode (qc 12053) 120 = .ok (.aload_n 0, 1) := by decide +kernel
theorem k12053_121 : decode (qc 12053) 121 = .ok (.dup, 1) := by decide +kernel
theorem k12053_122 : decode (qc 12053) 122 = .ok (.getfield 298, 3) := by decide +kernel
theorem k12053_125 : decode (qc 12053) 125 = .ok (.iconst 1, 1) := by decide +kernel
theorem k12053_126 : decode (qc 12053) 126 = .ok (.iadd, 1) := by decide +kernel
theorem k12053_127 : decode (qc 12053) 127 = .ok (.putfield 298, 3) := by decide +kernel
theorem k12053_130 : decode (qc 12053) 130 = .ok (.aload_n 0, 1) := by decide +kernel
theorem k12053_131 : decode (qc 12053) 131 = .ok (.getfield 298, 3) := by decide +kernel
theorem k12053_134 : decode (qc 12053) 134 = .ok (.ireturn, 1) := by decide +kernel
theorem k12054_0 : decode (qc 12054) 0 = .ok (.aload_n 0, 1) := by decide +kernel
theorem k12054_1 : decode (qc 12054) 1 = .ok (.getfield 50, 3) := by decide +kernel
theorem k12054_4 : decode (qc 12054) 4 = .ok (.iload_n 1, 1) := by decide +kernel
theorem k12054_5 : decode (qc 12054) 5 = .ok (.iaload, 1) := by decide +kernel
theorem k12054_6 : decode (qc 12054) 6 = .ok (.bipush 10, 2) := by decide +kernel
theorem k12054_8 : decode (qc 12054) 8 = .ok (.if_icmp .ge 24, 3) := by decide +kernel
theorem k12054_11 : decode (qc 12054) 11 = .ok (.aload_n 0, 1) := by decide +kernel
theorem k12054_12 : decode (qc 12054) 12 = .ok (.aload_n 0, 1) := by decide +kernel
theorem k12054_13 : decode (qc 12054) 13 = .ok (.getfield 50, 3) := by decide +kernel
theorem k12054_16 : decode (qc 12054) 16 = .ok (.iload_n 1, 1) := by decide +kernel
theorem k12054_17 : decode (qc 12054) 17 = .ok (.iaload, 1) := by decide +kernel
theorem k12054_18 : decode (qc 12054) 18 = .ok (.aload_n 0, 1) := by decide +kernel
theorem k12054_19 : decode (qc 12054) 19 = .ok (.getfield 53, 3) := by decide +kernel
theorem k12054_22 : decode (qc 12054) 22 = .ok (.iload_n 1, 1) := by decide +kernel
theorem k12054_23 : decode (qc 12054) 23 = .ok (.iaload, 1) := by decide +kernel
theorem k12054_24 : decode (qc 12054) 24 = .ok (.invokevirtual 324, 3) := by decide +kernel
theorem k12054_27 : decode (qc 12054) 27 = .ok (.ifCond .ne 5, 3) := by decide +kernel
theorem k12054_30 : decode (qc 12054) 30 = .ok (.iconst 0, 1) := by decide +kernel
theorem k12054_31 : decode (qc 12054) 31 = .ok (.ireturn, 1) := by decide +kernel
theorem k12054_32 : decode (qc 12054) 32 = .ok (.aload_n 0, 1) := by decide +kernel
theorem k12054_33 : decode (qc 12054) 33 = .ok (.getfield 46, 3) := by decide +kernel
theorem k12054_36 : decode (qc 12054) 36 = .ok (.iconst (-1), 1) := by decide +kernel
theorem k12054_37 : decode (qc 12054) 37 = .ok (.if_icmp .ne 5, 3) := by decide +kernel
theorem k12054_40 : decode (qc 12054) 40 = .ok (.iconst 1, 1) := by decide +kernel
theorem k12054_41 : decode (qc 12054) 41 = .ok (.ireturn, 1) := by decide +kernel
theorem k12054_42 : decode (qc 12054) 42 = .ok (.iconst 0, 1) := by decide +kernel
theorem k12054_43 : decode (qc 12054) 43 = .ok (.istore_n 2, 1) := by decide +kernel
theorem k12054_44 : decode (qc 12054) 44 = .ok (.sipush 1000, 3) := by decide +kernel
theorem k12054_47 : decode (qc 12054) 47 = .ok (.istore_n 3, 1) := by decide +kernel
theorem k12054_48 : decode (qc 12054) 48 = .ok (.iconst 0, 1) := by decide +kernel
theorem k12054_49 : decode (qc 12054) 49 = .ok (.istore 4, 2) := by decide +kernel
theorem k12054_51 : decode (qc 12054) 51 = .ok (.iload 4, 2) := by decide +kernel
theorem k12054_53 : decode (qc 12054) 53 = .ok (.iload_n 1, 1) := by decide +kernel
theorem k12054_54 : decode (qc 12054) 54 = .ok (.if_icmp .ge 73, 3) := by decide +kernel
theorem k12054_57 : decode (qc 12054) 57 = .ok (.iload 4, 2) := by decide +kernel
theorem k12054_59 : decode (qc 12054) 59 = .ok (.aload_n 0, 1) := by decide +kernel
theorem k12054_60 : decode (qc 12054) 60 = .ok (.getfield 59, 3) := by decide +kernel
theorem k12054_63 : decode (qc 12054) 63 = .ok (.if_icmp .eq 58, 3) := by decide +kernel
theorem k12054_66 : decode (qc 12054) 66 = .ok (.aload_n 0, 1) := by decide +kernel
theorem k12054_67 : decode (qc 12054) 67 = .ok (.getfield 53, 3) := by decide +kernel
theorem k12054_70 : decode (qc 12054) 70 = .ok (.iload 4, 2) := by decide +kernel
theorem k12054_72 : decode (qc 12054) 72 = .ok (.iaload, 1) := by decide +kernel
theorem k12054_73 : decode (qc 12054) 73 = .ok (.aload_n 0, 1) := by decide +kernel
theorem k12054_74 : decode (qc 12054) 74 = .ok (.getfield 53, 3) := by decide +kernel
theorem k12054_77 : decode (qc 12054) 77 = .ok (.iload_n 1, 1) := by decide +kernel
theorem k12054_78 : decode (qc 12054) 78 = .ok (.iaload, 1) := by decide +kernel
theorem k12054_79 : decode (qc 12054) 79 = .ok (.if_icmp .ne 42, 3) := by decide +kernel
theorem k12054_82 : decode (qc 12054) 82 = .ok (.iload_n 2, 1) := by decide +kernel
theorem k12054_83 : decode (qc 12054) 83 = .ok (.aload_n 0, 1) := by decide +kernel
theorem k12054_84 : decode (qc 12054) 84 = .ok (.getfield 50, 3) := by decide +kernel
theorem k12054_87 : decode (qc 12054) 87 = .ok (.iload 4, 2) := by decide +kernel
theorem k12054_89 : decode (qc 12054) 89 = .ok (.iaload, 1) := by decide +kernel
theorem k12054_90 : decode (qc 12054) 90 = .ok (.aload_n 0, 1) := by decide +kernel
theorem k12054_91 : decode (qc 12054) 91 = .ok (.getfield 50, 3) := by decide +kernel
theorem k12054_94 : decode (qc 12054) 94 = .ok (.iload_n 1, 1) := by decide +kernel
theorem k12054_95 : decode (qc 12054) 95 = .ok (.iaload, 1) := by decide +kernel
theorem k12054_96 : decode (qc 12054) 96 = .ok (.if_icmp .ne 7, 3) := by decide +kernel
theorem k12054_99 : decode (qc 12054) 99 = .ok (.iconst 1, 1) := by decide +kernel
theorem k12054_100 : decode (qc 12054) 100 = .ok (.goto 4, 3) := by decide +kernel
theorem k12054_103 : decode (qc 12054) 103 = .ok (.iconst 0, 1) := by decide +kernel
theorem k12054_104 : decode (qc 12054) 104 = .ok (.iadd, 1) := by decide +kernel
theorem k12054_105 : decode (qc 12054) 105 = .ok (.istore_n 2, 1) := by decide +kernel
theorem k12054_106 : decode (qc 12054) 106 = .ok (.aload_n 0, 1) := by decide +kernel
theorem k12054_107 : decode (qc 12054) 107 = .ok (.getfield 56, 3) := by decide +kernel
theorem k12054_110 : decode (qc 12054) 110 = .ok (.iload_n 1, 1) := by decide +kernel
theorem k12054_111 : decode (qc 12054) 111 = .ok (.iaload, 1) := by decide +kernel
theorem k12054_112 : decode (qc 12054) 112 = .ok (.aload_n 0, 1) := by decide +kernel
theorem k12054_113 : decode (qc 12054) 113 = .ok (.getfield 56, 3) := by decide +kernel
theorem k12054_116 : decode (qc 12054) 116 = .ok (.iload 4, 2) := by decide +kernel
theorem k12054_118 : decode (qc 12054) 118 = .ok (.iaload, 1) := by decide +kernel
theorem k12054_119 : decode (qc 12054) 119 = .ok (.isub, 1) := by decide +kernel
theorem k12054_120 : decode (qc 12054) 120 = .ok (.istore_n 3, 1) := by decide +kernel
theorem k12054_121 : decode (qc 12054) 121 = .ok (.iinc 4 1, 3) := by decide +kernel
theorem k12054_124 : decode (qc 12054) 124 = .ok (.goto (-73), 3) := by decide +kernel
theorem k12054_127 : decode (qc 12054) 127 = .ok (.aload_n 0, 1) := by decide +kernel
theorem k12054_128 : decode (qc 12054) 128 = .ok (.getfield 34, 3) := by decide +kernel
theorem k12054_131 : decode (qc 12054) 131 = .ok (.iconst 0, 1) := by decide +kernel
theorem k12054_132 : decode (qc 12054) 132 = .ok (.aload_n 0, 1) := by decide +kernel
theorem k12054_133 : decode (qc 12054) 133 = .ok (.getfield 50, 3) := by decide +kernel
theorem k12054_136 : decode (qc 12054) 136 = .ok (.iload_n 1, 1) := by decide +kernel
theorem k12054_137 : decode (qc 12054) 137 = .ok (.iaload, 1) := by decide +kernel
theorem k12054_138 : decode (qc 12054) 138 = .ok (.iastore, 1) := by decide +kernel
theorem k12054_139 : decode (qc 12054) 139 = .ok (.aload_n 0, 1) := by decide +kernel
theorem k12054_140 : decode (qc 12054) 140 = .ok (.getfield 34, 3) := by decide +kernel
theorem k12054_143 : decode (qc 12054) 143 = .ok (.iconst 1, 1) := by decide +kernel
theorem k12054_144 : decode (qc 12054) 144 = .ok (.aload_n 0, 1) := by decide +kernel
theorem k12054_145 : decode (qc 12054) 145 = .ok (.getfield 53, 3) := by decide +kernel
theorem k12054_148 : decode (qc 12054) 148 = .ok (.iload_n 1, 1) := by decide +kernel
theorem k12054_149 : decode (qc 12054) 149 = .ok (.iaload, 1) := by decide +kernel
theorem k12054_150 : decode (qc 12054) 150 = .ok (.iastore, 1) := by decide +kernel
theorem k12054_151 : decode (qc 12054) 151 = .ok (.aload_n 0, 1) := by decide +kernel
theorem k12054_152 : decode (qc 12054) 152 = .ok (.getfield 34, 3) := by decide +kernel
theorem k12054_155 : decode (qc 12054) 155 = .ok (.iconst 2, 1) := by decide +kernel
theorem k12054_156 : decode (qc 12054) 156 = .ok (.aload_n 0, 1) := by decide +kernel
theorem k12054_157 : decode (qc 12054) 157 = .ok (.getfield 56, 3) := by decide +kernel
theorem k12054_160 : decode (qc 12054) 160 = .ok (.iload_n 1, 1) := by decide +kernel
theorem k12054_161 : decode (qc 12054) 161 = .ok (.iaload, 1) := by decide +kernel
theorem k12054_162 : decode (qc 12054) 162 = .ok (.iastore, 1) := by decide +kernel
theorem k12054_163 : decode (qc 12054) 163 = .ok (.aload_n 0, 1) := by decide +kernel
theorem k12054_164 : decode (qc 12054) 164 = .ok (.getfield 34, 3) := by decide +kernel
theorem k12054_167 : decode (qc 12054) 167 = .ok (.iconst 3, 1) := by decide +kernel
theorem k12054_168 : decode (qc 12054) 168 = .ok (.iload_n 2, 1) := by decide +kernel
theorem k12054_169 : decode (qc 12054) 169 = .ok (.iastore, 1) := by decide +kernel
theorem k12054_170 : decode (qc 12054) 170 = .ok (.aload_n 0, 1) := by decide +kernel
theorem k12054_171 : decode (qc 12054) 171 = .ok (.getfield 34, 3) := by decide +kernel
theorem k12054_174 : decode (qc 12054) 174 = .ok (.iconst 4, 1) := by decide +kernel
theorem k12054_175 : decode (qc 12054) 175 = .ok (.iload_n 3, 1) := by decide +kernel
theorem k12054_176 : decode (qc 12054) 176 = .ok (.iastore, 1) := by decide +kernel
theorem k12054_177 : decode (qc 12054) 177 = .ok (.aload_n 0, 1) := by decide +kernel
theorem k12054_178 : decode (qc 12054) 178 = .ok (.aload_n 0, 1) := by decide +kernel
theorem k12054_179 : decode (qc 12054) 179 = .ok (.getfield 46, 3) := by decide +kernel
theorem k12054_182 : decode (qc 12054) 182 = .ok (.invokevirtual 327, 3) := by decide +kernel
theorem k12054_185 : decode (qc 12054) 185 = .ok (.ifCond .le 7, 3) := by decide +kernel
theorem k12054_188 : decode (qc 12054) 188 = .ok (.iconst 1, 1) := by decide +kernel
theorem k12054_189 : decode (qc 12054) 189 = .ok (.goto 4, 3) := by decide +kernel
theorem k12054_192 : decode (qc 12054) 192 = .ok (.iconst 0, 1) := by decide +kernel
theorem k12054_193 : decode (qc 12054) 193 = .ok (.ireturn, 1) := by decide +kernel
theorem k12055_0 : decode (qc 12055) 0 = .ok (.iload_n 1, 1) := by decide +kernel
theorem k12055_1 : decode (qc 12055) 1 = .ok (.iconst 0, 1) := by decide +kernel
theorem k12055_2 : decode (qc 12055) 2 = .ok (.aload_n 0, 1) := by decide +kernel
theorem k12055_3 : decode (qc 12055) 3 = .ok (.getfield 298, 3) := by decide +kernel
theorem k12055_6 : decode (qc 12055) 6 = .ok (.iconst 1, 1) := by decide +kernel
theorem k12055_7 : decode (qc 12055) 7 = .ok (.isub, 1) := by decide +kernel
theorem k12055_8 : decode (qc 12055) 8 = .ok (.invokestatic 231, 3) := by decide +kernel
theorem k12055_11 : decode (qc 12055) 11 = .ok (.ifCond .eq 19, 3) := by decide +kernel
theorem k12055_14 : decode (qc 12055) 14 = .ok (.aload_n 0, 1) := by decide +kernel
theorem k12055_15 : decode (qc 12055) 15 = .ok (.iload_n 1, 1) := by decide +kernel
theorem k12055_16 : decode (qc 12055) 16 = .ok (.invokevirtual 330, 3) := by decide +kernel
theorem k12055_19 : decode (qc 12055) 19 = .ok (.ifCond .eq 7, 3) := by decide +kernel
theorem k12055_22 : decode (qc 12055) 22 = .ok (.iconst 1, 1) := by decide +kernel
theorem k12055_23 : decode (qc 12055) 23 = .ok (.goto 8, 3) := by decide +kernel
theorem k12055_26 : decode (qc 12055) 26 = .ok (.iconst 0, 1) := by decide +kernel
theorem k12055_27 : decode (qc 12055) 27 = .ok (.goto 4, 3) := by decide +kernel
theorem k12055_30 : decode (qc 12055) 30 = .ok (.iconst (-1), 1) := by decide +kernel
theorem k12055_31 : decode (qc 12055) 31 = .ok (.ireturn, 1) := by decide +kernel
theorem k12056_0 : decode (qc 12056) 0 = .ok (.aload_n 0, 1) := by decide +kernel
theorem k12056_1 : decode (qc 12056) 1 = .ok (.getfield 298, 3) := by decide +kernel
theorem k12056_4 : decode (qc 12056) 4 = .ok (.ifCond .ne 5, 3) := by decide +kernel
theorem k12056_7 : decode (qc 12056) 7 = .ok (.iconst (-1), 1) := by decide +kernel
theorem k12056_8 : decode (qc 12056) 8 = .ok (.ireturn, 1) := by decide +kernel
theorem k12056_9 : decode (qc 12056) 9 = .ok (.aload_n 0, 1) := by decide +kernel
theorem k12056_10 : decode (qc 12056) 10 = .ok (.dup, 1) := by decide +kernel
theorem k12056_11 : decode (qc 12056) 11 = .ok (.getfield 298, 3) := by decide +kernel
theorem k12056_14 : decode (qc 12056) 14 = .ok (.iconst 1, 1) := by decide +kernel
theorem k12056_15 : decode (qc 12056) 15 = .ok (.isub, 1) := by decide +kernel
theorem k12056_16 : decode (qc 12056) 16 = .ok (.putfield 298, 3) := by decide +kernel
theorem k12056_19 : decode (qc 12056) 19 = .ok (.aload_n 0, 1) := by decide +kernel
theorem k12056_20 : decode (qc 12056) 20 = .ok (.getfield 298, 3) := by decide +kernel
theorem k12056_23 : decode (qc 12056) 23 = .ok (.ireturn, 1) := by decide +kernel
theorem k12057_0 : decode (qc 12057) 0 = .ok (.iconst 0, 1) := by decide +kernel
theorem k12057_1 : decode (qc 12057) 1 = .ok (.istore_n 1, 1) := by decide +kernel
theorem k12057_2 : decode (qc 12057) 2 = .ok (.iload_n 1, 1) := by decide +kernel
theorem k12057_3 : decode (qc 12057) 3 = .ok (.aload_n 0, 1) := by decide +kernel
theorem k12057_4 : decode (qc 12057) 4 = .ok (.getfield 298, 3) := by decide +kernel
theorem k12057_7 : decode (qc 12057) 7 = .ok (.if_icmp .ge 36, 3) := by decide +kernel
theorem k12057_10 : decode (qc 12057) 10 = .ok (.aload_n 0, 1) := by decide +kernel
theorem k12057_11 : decode (qc 12057) 11 = .ok (.getfield 65, 3) := by decide +kernel
theorem k12057_14 : decode (qc 12057) 14 = .ok (.iload_n 1, 1) := by decide +kernel
theorem k12057_15 : decode (qc 12057) 15 = .ok (.iload_n 1, 1) := by decide +kernel
theorem k12057_16 : decode (qc 12057) 16 = .ok (.aload_n 0, 1) := by decide +kernel
theorem k12057_17 : decode (qc 12057) 17 = .ok (.getfield 59, 3) := by decide +kernel
theorem k12057_20 : decode (qc 12057) 20 = .ok (.if_icmp .eq 15, 3) := by decide +kernel
theorem k12057_23 : decode (qc 12057) 23 = .ok (.aload_n 0, 1) := by decide +kernel
theorem k12057_24 : decode (qc 12057) 24 = .ok (.iload_n 1, 1) := by decide +kernel
theorem k12057_25 : decode (qc 12057) 25 = .ok (.invokevirtual 330, 3) := by decide +kernel
theorem k12057_28 : decode (qc 12057) 28 = .ok (.ifCond .eq 7, 3) := by decide +kernel
theorem k12057_31 : decode (qc 12057) 31 = .ok (.iconst 1, 1) := by decide +kernel
theorem k12057_32 : decode (qc 12057) 32 = .ok (.goto 4, 3) := by decide +kernel
theorem k12057_35 : decode (qc 12057) 35 = .ok (.iconst 0, 1) := by decide +kernel
theorem k12057_36 : decode (qc 12057) 36 = .ok (.bastore, 1) := by decide +kernel
theorem k12057_37 : decode (qc 12057) 37 = .ok (.iinc 1 1, 3) := by decide +kernel
theorem k12057_40 : decode (qc 12057) 40 = .ok (.goto (-38), 3) := by decide +kernel
theorem k12057_43 : decode (qc 12057) 43 = .ok (.return_, 1) := by decide +kernel
theorem k12058_0 : decode (qc 12058) 0 = .ok (.iconst 0, 1) := by decide +kernel
theorem k12058_1 : decode (qc 12058) 1 = .ok (.istore_n 2, 1) := by decide +kernel
theorem k12058_2 : decode (qc 12058) 2 = .ok (.iload_n 2, 1) := by decide +kernel
theorem k12058_3 : decode (qc 12058) 3 = .ok (.aload_n 0, 1) := by decide +kernel
theorem k12058_4 : decode (qc 12058) 4 = .ok (.getfield 289, 3) := by decide +kernel
theorem k12058_7 : decode (qc 12058) 7 = .ok (.if_icmp .ge 16, 3) := by decide +kernel
theorem k12058_10 : decode (qc 12058) 10 = .ok (.aload_n 0, 1) := by decide +kernel
theorem k12058_11 : decode (qc 12058) 11 = .ok (.getfield 62, 3) := by decide +kernel
theorem k12058_14 : decode (qc 12058) 14 = .ok (.iload_n 2, 1) := by decide +kernel
theorem k12058_15 : decode (qc 12058) 15 = .ok (.iconst (-1), 1) := by decide +kernel
theorem k12058_16 : decode (qc 12058) 16 = .ok (.iastore, 1) := by decide +kernel
theorem k12058_17 : decode (qc 12058) 17 = .ok (.iinc 2 1, 3) := by decide +kernel
theorem k12058_20 : decode (qc 12058) 20 = .ok (.goto (-18), 3) := by decide +kernel
theorem k12058_23 : decode (qc 12058) 23 = .ok (.iconst 0, 1) := by decide +kernel
theorem k12058_24 : decode (qc 12058) 24 = .ok (.istore_n 2, 1) := by decide +kernel
theorem k12058_25 : decode (qc 12058) 25 = .ok (.iload_n 2, 1) := by decide +kernel
theorem k12058_26 : decode (qc 12058) 26 = .ok (.aload_n 0, 1) := by decide +kernel
theorem k12058_27 : decode (qc 12058) 27 = .ok (.getfield 289, 3) := by decide +kernel
theorem k12058_30 : decode (qc 12058) 30 = .ok (.if_icmp .ge 92, 3) := by decide +kernel
theorem k12058_33 : decode (qc 12058) 33 = .ok (.iconst 0, 1) := by decide +kernel
theorem k12058_34 : decode (qc 12058) 34 = .ok (.istore_n 3, 1) := by decide +kernel
theorem k12058_35 : decode (qc 12058) 35 = .ok (.iload_n 3, 1) := by decide +kernel
theorem k12058_36 : decode (qc 12058) 36 = .ok (.aload_n 0, 1) := by decide +kernel
theorem k12058_37 : decode (qc 12058) 37 = .ok (.getfield 298, 3) := by decide +kernel
theorem k12058_40 : decode (qc 12058) 40 = .ok (.if_icmp .ge 76, 3) := by decide +kernel
theorem k12058_43 : decode (qc 12058) 43 = .ok (.aload_n 0, 1) := by decide +kernel
theorem k12058_44 : decode (qc 12058) 44 = .ok (.getfield 65, 3) := by decide +kernel
theorem k12058_47 : decode (qc 12058) 47 = .ok (.iload_n 3, 1) := by decide +kernel
theorem k12058_48 : decode (qc 12058) 48 = .ok (.baload, 1) := by decide +kernel
theorem k12058_49 : decode (qc 12058) 49 = .ok (.ifCond .eq 61, 3) := by decide +kernel
theorem k12058_52 : decode (qc 12058) 52 = .ok (.aload_n 0, 1) := by decide +kernel
theorem k12058_53 : decode (qc 12058) 53 = .ok (.getfield 53, 3) := by decide +kernel
theorem k12058_56 : decode (qc 12058) 56 = .ok (.iload_n 3, 1) := by decide +kernel
theorem k12058_57 : decode (qc 12058) 57 = .ok (.iaload, 1) := by decide +kernel
theorem k12058_58 : decode (qc 12058) 58 = .ok (.iload_n 2, 1) := by decide +kernel
theorem k12058_59 : decode (qc 12058) 59 = .ok (.if_icmp .ne 51, 3) := by decide +kernel
theorem k12058_62 : decode (qc 12058) 62 = .ok (.aload_n 0, 1) := by decide +kernel
theorem k12058_63 : decode (qc 12058) 63 = .ok (.getfield 56, 3) := by decide +kernel
theorem k12058_66 : decode (qc 12058) 66 = .ok (.iload_n 3, 1) := by decide +kernel
theorem k12058_67 : decode (qc 12058) 67 = .ok (.iaload, 1) := by decide +kernel
theorem k12058_68 : decode (qc 12058) 68 = .ok (.iload_n 1, 1) := by decide +kernel
theorem k12058_69 : decode (qc 12058) 69 = .ok (.if_icmp .gt 41, 3) := by decide +kernel
theorem k12058_72 : decode (qc 12058) 72 = .ok (.aload_n 0, 1) := by decide +kernel
theorem k12058_73 : decode (qc 12058) 73 = .ok (.getfield 62, 3) := by decide +kernel
theorem k12058_76 : decode (qc 12058) 76 = .ok (.iload_n 2, 1) := by decide +kernel
theorem k12058_77 : decode (qc 12058) 77 = .ok (.aload_n 0, 1) := by decide +kernel
theorem k12058_78 : decode (qc 12058) 78 = .ok (.getfield 318, 3) := by decide +kernel
theorem k12058_81 : decode (qc 12058) 81 = .ok (.ifCond .eq 18, 3) := by decide +kernel
theorem k12058_84 : decode (qc 12058) 84 = .ok (.iload_n 1, 1) := by decide +kernel
theorem k12058_85 : decode (qc 12058) 85 = .ok (.aload_n 0, 1) := by decide +kernel
theorem k12058_86 : decode (qc 12058) 86 = .ok (.getfield 56, 3) := by decide +kernel
theorem k12058_89 : decode (qc 12058) 89 = .ok (.iload_n 3, 1) := by decide +kernel
theorem k12058_90 : decode (qc 12058) 90 = .ok (.iaload, 1) := by decide +kernel
theorem k12058_91 : decode (qc 12058) 91 = .ok (.isub, 1) := by decide +kernel
theorem k12058_92 : decode (qc 12058) 92 = .ok (.aload_n 0, 1) := by decide +kernel
theorem k12058_93 : decode (qc 12058) 93 = .ok (.getfield 318, 3) := by decide +kernel
theorem k12058_96 : decode (qc 12058) 96 = .ok (.if_icmp .ge 12, 3) := by decide +kernel
theorem k12058_99 : decode (qc 12058) 99 = .ok (.aload_n 0, 1) := by decide +kernel
theorem k12058_100 : decode (qc 12058) 100 = .ok (.getfield 50, 3) := by decide +kernel
theorem k12058_103 : decode (qc 12058) 103 = .ok (.iload_n 3, 1) := by decide +kernel
theorem k12058_104 : decode (qc 12058) 104 = .ok (.iaload, 1) := by decide +kernel
theorem k12058_105 : decode (qc 12058) 105 = .ok (.goto 4, 3) := by decide +kernel
theorem k12058_108 : decode (qc 12058) 108 = .ok (.iconst (-1), 1) := by decide +kernel
theorem k12058_109 : decode (qc 12058) 109 = .ok (.iastore, 1) := by decide +kernel
theorem k12058_110 : decode (qc 12058) 110 = .ok (.iinc 3 1, 3) := by decide +kernel
theorem k12058_113 : decode (qc 12058) 113 = .ok (.goto (-78), 3) := by decide +kernel
theorem k12058_116 : decode (qc 12058) 116 = .ok (.iinc 2 1, 3) := by decide +kernel
theorem k12058_119 : decode (qc 12058) 119 = .ok (.goto (-94), 3) := by decide +kernel
theorem k12058_122 : decode (qc 12058) 122 = .ok (.return_, 1) := by decide +kernel
theorem k12059_0 : decode (qc 12059) 0 = .ok (.aload_n 0, 1) := by decide +kernel
theorem k12059_1 : decode (qc 12059) 1 = .ok (.invokevirtual 333, 3) := by decide +kernel
theorem k12059_4 : decode (qc 12059) 4 = .ok (.aload_n 0, 1) := by decide +kernel
theorem k12059_5 : decode (qc 12059) 5 = .ok (.iload_n 1, 1) := by decide +kernel
theorem k12059_6 : decode (qc 12059) 6 = .ok (.invokevirtual 336, 3) := by decide +kernel
theorem k12059_9 : decode (qc 12059) 9 = .ok (.return_, 1) := by decide +kernel
theorem k12060_0 : decode (qc 12060) 0 = .ok (.bipush 10, 2) := by decide +kernel
theorem k12060_2 : decode (qc 12060) 2 = .ok (.iload_n 1, 1) := by decide +kernel
theorem k12060_3 : decode (qc 12060) 3 = .ok (.iadd, 1) := by decide +kernel
theorem k12060_4 : decode (qc 12060) 4 = .ok (.istore_n 2, 1) := by decide +kernel
theorem k12060_5 : decode (qc 12060) 5 = .ok (.iconst 1, 1) := by decide +kernel
theorem k12060_6 : decode (qc 12060) 6 = .ok (.istore_n 3, 1) := by decide +kernel
theorem k12060_7 : decode (qc 12060) 7 = .ok (.iload_n 3, 1) := by decide +kernel
theorem k12060_8 : decode (qc 12060) 8 = .ok (.aload_n 0, 1) := by decide +kernel
theorem k12060_9 : decode (qc 12060) 9 = .ok (.getfield 289, 3) := by decide +kernel
theorem k12060_12 : decode (qc 12060) 12 = .ok (.if_icmp .gt 34, 3) := by decide +kernel
theorem k12060_15 : decode (qc 12060) 15 = .ok (.aload_n 0, 1) := by decide +kernel
theorem k12060_16 : decode (qc 12060) 16 = .ok (.getfield 62, 3) := by decide +kernel
theorem k12060_19 : decode (qc 12060) 19 = .ok (.iload_n 2, 1) := by decide +kernel
theorem k12060_20 : decode (qc 12060) 20 = .ok (.bipush 10, 2) := by decide +kernel
theorem k12060_22 : decode (qc 12060) 22 = .ok (.isub, 1) := by decide +kernel
theorem k12060_23 : decode (qc 12060) 23 = .ok (.iaload, 1) := by decide +kernel
theorem k12060_24 : decode (qc 12060) 24 = .ok (.istore_n 2, 1) := by decide +kernel
theorem k12060_25 : decode (qc 12060) 25 = .ok (.iload_n 2, 1) := by decide +kernel
theorem k12060_26 : decode (qc 12060) 26 = .ok (.iconst (-1), 1) := by decide +kernel
theorem k12060_27 : decode (qc 12060) 27 = .ok (.if_icmp .ne 5, 3) := by decide +kernel
theorem k12060_30 : decode (qc 12060) 30 = .ok (.iconst (-1), 1) := by decide +kernel
theorem k12060_31 : decode (qc 12060) 31 = .ok (.ireturn, 1) := by decide +kernel
theorem k12060_32 : decode (qc 12060) 32 = .ok (.iload_n 2, 1) := by decide +kernel
theorem k12060_33 : decode (qc 12060) 33 = .ok (.bipush 10, 2) := by decide +kernel
theorem k12060_35 : decode (qc 12060) 35 = .ok (.if_icmp .ge 5, 3) := by decide +kernel
theorem k12060_38 : decode (qc 12060) 38 = .ok (.iload_n 3, 1) := by decide +kernel
theorem k12060_39 : decode (qc 12060) 39 = .ok (.ireturn, 1) := by decide +kernel
theorem k12060_40 : decode (qc 12060) 40 = .ok (.iinc 3 1, 3) := by decide +kernel
theorem k12060_43 : decode (qc 12060) 43 = .ok (.goto (-36), 3) := by decide +kernel
theorem k12060_46 : decode (qc 12060) 46 = .ok (.iconst (-1), 1) := by decide +kernel
theorem k12060_47 : decode (qc 12060) 47 = .ok (.ireturn, 1) := by decide +kernel
theorem k12061_0 : decode (qc 12061) 0 = .ok (.bipush 10, 2) := by decide +kernel
theorem k12061_2 : decode (qc 12061) 2 = .ok (.iload_n 1, 1) := by decide +kernel
theorem k12061_3 : decode (qc 12061) 3 = .ok (.iadd, 1) := by decide +kernel
theorem k12061_4 : decode (qc 12061) 4 = .ok (.istore_n 3, 1) := by decide +kernel
theorem k12061_5 : decode (qc 12061) 5 = .ok (.iconst 0, 1) := by decide +kernel
theorem k12061_6 : decode (qc 12061) 6 = .ok (.istore 4, 2) := by decide +kernel
theorem k12061_8 : decode (qc 12061) 8 = .ok (.iload 4, 2) := by decide +kernel
theorem k12061_10 : decode (qc 12061) 10 = .ok (.iload_n 2, 1) := by decide +kernel
theorem k12061_11 : decode (qc 12061) 11 = .ok (.if_icmp .ge 19, 3) := by decide +kernel
theorem k12061_14 : decode (qc 12061) 14 = .ok (.aload_n 0, 1) := by decide +kernel
theorem k12061_15 : decode (qc 12061) 15 = .ok (.getfield 62, 3) := by decide +kernel
theorem k12061_18 : decode (qc 12061) 18 = .ok (.iload_n 3, 1) := by decide +kernel
theorem k12061_19 : decode (qc 12061) 19 = .ok (.bipush 10, 2) := by decide +kernel
theorem k12061_21 : decode (qc 12061) 21 = .ok (.isub, 1) := by decide +kernel
theorem k12061_22 : decode (qc 12061) 22 = .ok (.iaload, 1) := by decide +kernel
theorem k12061_23 : decode (qc 12061) 23 = .ok (.istore_n 3, 1) := by decide +kernel
theorem k12061_24 : decode (qc 12061) 24 = .ok (.iinc 4 1, 3) := by decide +kernel
theorem k12061_27 : decode (qc 12061) 27 = .ok (.goto (-19), 3) := by decide +kernel
theorem k12061_30 : decode (qc 12061) 30 = .ok (.iload_n 3, 1) := by decide +kernel
theorem k12061_31 : decode (qc 12061) 31 = .ok (.ireturn, 1) := by decide +kernel
theorem k12062_0 : decode (qc 12062) 0 = .ok (.aload_n 0, 1) := by decide +kernel
theorem k12062_1 : decode (qc 12062) 1 = .ok (.iload_n 1, 1) := by decide +kernel
theorem k12062_2 : decode (qc 12062) 2 = .ok (.invokevirtual 339, 3) := by decide +kernel
theorem k12062_5 : decode (qc 12062) 5 = .ok (.iconst (-1), 1) := by decide +kernel
theorem k12062_6 : decode (qc 12062) 6 = .ok (.if_icmp .ne 7, 3) := by decide +kernel
theorem k12062_9 : decode (qc 12062) 9 = .ok (.iconst (-1), 1) := by decide +kernel
theorem k12062_10 : decode (qc 12062) 10 = .ok (.goto 13, 3) := by decide +kernel
theorem k12062_13 : decode (qc 12062) 13 = .ok (.aload_n 0, 1) := by decide +kernel
theorem k12062_14 : decode (qc 12062) 14 = .ok (.iload_n 1, 1) := by decide +kernel
theorem k12062_15 : decode (qc 12062) 15 = .ok (.aload_n 0, 1) := by decide +kernel
theorem k12062_16 : decode (qc 12062) 16 = .ok (.iload_n 1, 1) := by decide +kernel
theorem k12062_17 : decode (qc 12062) 17 = .ok (.invokevirtual 339, 3) := by decide +kernel
theorem k12062_20 : decode (qc 12062) 20 = .ok (.invokevirtual 342, 3) := by decide +kernel
theorem k12062_23 : decode (qc 12062) 23 = .ok (.ireturn, 1) := by decide +kernel
theorem k12063_0 : decode (qc 12063) 0 = .ok (.iconst 0, 1) := by decide +kernel
theorem k12063_1 : decode (qc 12063) 1 = .ok (.istore_n 2, 1) := by decide +kernel
theorem k12063_2 : decode (qc 12063) 2 = .ok (.iconst 0, 1) := by decide +kernel
theorem k12063_3 : decode (qc 12063) 3 = .ok (.istore_n 3, 1) := by decide +kernel
theorem k12063_4 : decode (qc 12063) 4 = .ok (.iload_n 3, 1) := by decide +kernel
theorem k12063_5 : decode (qc 12063) 5 = .ok (.aload_n 0, 1) := by decide +kernel
theorem k12063_6 : decode (qc 12063) 6 = .ok (.getfield 289, 3) := by decide +kernel
theorem k12063_9 : decode (qc 12063) 9 = .ok (.if_icmp .ge 28, 3) := by decide +kernel
theorem k12063_12 : decode (qc 12063) 12 = .ok (.iload_n 2, 1) := by decide +kernel
theorem k12063_13 : decode (qc 12063) 13 = .ok (.aload_n 0, 1) := by decide +kernel
theorem k12063_14 : decode (qc 12063) 14 = .ok (.iload_n 3, 1) := by decide +kernel
theorem k12063_15 : decode (qc 12063) 15 = .ok (.invokevirtual 345, 3) := by decide +kernel
theorem k12063_18 : decode (qc 12063) 18 = .ok (.iload_n 1, 1) := by decide +kernel
theorem k12063_19 : decode (qc 12063) 19 = .ok (.if_icmp .ne 9, 3) := by decide +kernel
theorem k12063_22 : decode (qc 12063) 22 = .ok (.iconst 1, 1) := by decide +kernel
theorem k12063_23 : decode (qc 12063) 23 = .ok (.iload_n 3, 1) := by decide +kernel
theorem k12063_24 : decode (qc 12063) 24 = .ok (.ishl, 1) := by decide +kernel
theorem k12063_25 : decode (qc 12063) 25 = .ok (.goto 4, 3) := by decide +kernel
theorem k12063_28 : decode (qc 12063) 28 = .ok (.iconst 0, 1) := by decide +kernel
theorem k12063_29 : decode (qc 12063) 29 = .ok (.ior, 1) := by decide +kernel
theorem k12063_30 : decode (qc 12063) 30 = .ok (.istore_n 2, 1) := by decide +kernel
theorem k12063_31 : decode (qc 12063) 31 = .ok (.iinc 3 1, 3) := by decide +kernel
theorem k12063_34 : decode (qc 12063) 34 = .ok (.goto (-30), 3) := by decide +kernel
theorem k12063_37 : decode (qc 12063) 37 = .ok (.iload_n 2, 1) := by decide +kernel
theorem k12063_38 : decode (qc 12063) 38 = .ok (.ireturn, 1) := by decide +kernel
theorem k12064_0 : decode (qc 12064) 0 = .ok (.aload_n 0, 1) := by decide +kernel
theorem k12064_1 : decode (qc 12064) 1 = .ok (.iload_n 1, 1) := by decide +kernel
theorem k12064_2 : decode (qc 12064) 2 = .ok (.invokevirtual 311, 3) := by decide +kernel
theorem k12064_5 : decode (qc 12064) 5 = .ok (.ifCond .eq 7, 3) := by decide +kernel
theorem k12064_8 : decode (qc 12064) 8 = .ok (.iload_n 2, 1) := by decide +kernel
theorem k12064_9 : decode (qc 12064) 9 = .ok (.ifCond .ge 7, 3) := by decide +kernel
theorem k12064_12 : decode (qc 12064) 12 = .ok (.ldc_w 317, 3) := by decide +kernel
theorem k12064_15 : decode (qc 12064) 15 = .ok (.ireturn, 1) := by decide +kernel
theorem k12064_16 : decode (qc 12064) 16 = .ok (.aload_n 0, 1) := by decide +kernel
theorem k12064_17 : decode (qc 12064) 17 = .ok (.iload_n 2, 1) := by decide +kernel
theorem k12064_18 : decode (qc 12064) 18 = .ok (.invokevirtual 348, 3) := by decide +kernel
theorem k12064_21 : decode (qc 12064) 21 = .ok (.aload_n 0, 1) := by decide +kernel
theorem k12064_22 : decode (qc 12064) 22 = .ok (.getfield 62, 3) := by decide +kernel
theorem k12064_25 : decode (qc 12064) 25 = .ok (.iload_n 1, 1) := by decide +kernel
theorem k12064_26 : decode (qc 12064) 26 = .ok (.iaload, 1) := by decide +kernel
theorem k12064_27 : decode (qc 12064) 27 = .ok (.ireturn, 1) := by decide +kernel
theorem k12065_0 : decode (qc 12065) 0 = .ok (.aload_n 0, 1) := by decide +kernel
theorem k12065_1 : decode (qc 12065) 1 = .ok (.iload_n 1, 1) := by decide +kernel
theorem k12065_2 : decode (qc 12065) 2 = .ok (.invokevirtual 311, 3) := by decide +kernel
theorem k12065_5 : decode (qc 12065) 5 = .ok (.ifCond .eq 7, 3) := by decide +kernel
theorem k12065_8 : decode (qc 12065) 8 = .ok (.iload_n 2, 1) := by decide +kernel
theorem k12065_9 : decode (qc 12065) 9 = .ok (.ifCond .ge 7, 3) := by decide +kernel
theorem k12065_12 : decode (qc 12065) 12 = .ok (.ldc_w 317, 3) := by decide +kernel
theorem k12065_15 : decode (qc 12065) 15 = .ok (.ireturn, 1) := by decide +kernel
theorem k12065_16 : decode (qc 12065) 16 = .ok (.aload_n 0, 1) := by decide +kernel
theorem k12065_17 : decode (qc 12065) 17 = .ok (.iload_n 2, 1) := by decide +kernel
theorem k12065_18 : decode (qc 12065) 18 = .ok (.invokevirtual 348, 3) := by decide +kernel
theorem k12065_21 : decode (qc 12065) 21 = .ok (.aload_n 0, 1) := by decide +kernel
theorem k12065_22 : decode (qc 12065) 22 = .ok (.iload_n 1, 1) := by decide +kernel
theorem k12065_23 : decode (qc 12065) 23 = .ok (.invokevirtual 345, 3) := by decide +kernel
theorem k12065_26 : decode (qc 12065) 26 = .ok (.ireturn, 1) := by decide +kernel
theorem k12066_0 : decode (qc 12066) 0 = .ok (.aload_n 0, 1) := by decide +kernel
theorem k12066_1 : decode (qc 12066) 1 = .ok (.iload_n 1, 1) := by decide +kernel
theorem k12066_2 : decode (qc 12066) 2 = .ok (.invokevirtual 314, 3) := by decide +kernel
theorem k12066_5 : decode (qc 12066) 5 = .ok (.ifCond .eq 7, 3) := by decide +kernel
theorem k12066_8 : decode (qc 12066) 8 = .ok (.iload_n 2, 1) := by decide +kernel
theorem k12066_9 : decode (qc 12066) 9 = .ok (.ifCond .ge 5, 3) := by decide +kernel
theorem k12066_12 : decode (qc 12066) 12 = .ok (.iconst (-1), 1) := by decide +kernel
theorem k12066_13 : decode (qc 12066) 13 = .ok (.ireturn, 1) := by decide +kernel
theorem k12066_14 : decode (qc 12066) 14 = .ok (.aload_n 0, 1) := by decide +kernel
theorem k12066_15 : decode (qc 12066) 15 = .ok (.iload_n 2, 1) := by decide +kernel
theorem k12066_16 : decode (qc 12066) 16 = .ok (.invokevirtual 348, 3) := by decide +kernel
theorem k12066_19 : decode (qc 12066) 19 = .ok (.aload_n 0, 1) := by decide +kernel
theorem k12066_20 : decode (qc 12066) 20 = .ok (.iload_n 1, 1) := by decide +kernel
theorem k12066_21 : decode (qc 12066) 21 = .ok (.invokevirtual 351, 3) := by decide +kernel
theorem k12066_24 : decode (qc 12066) 24 = .ok (.ireturn, 1) := by decide +kernel
theorem k12067_0 : decode (qc 12067) 0 = .ok (.aload_n 0, 1) := by decide +kernel
theorem k12067_1 : decode (qc 12067) 1 = .ok (.iload_n 1, 1) := by decide +kernel
theorem k12067_2 : decode (qc 12067) 2 = .ok (.invokevirtual 311, 3) := by decide +kernel
theorem k12067_5 : decode (qc 12067) 5 = .ok (.ifCond .eq 7, 3) := by decide +kernel
theorem k12067_8 : decode (qc 12067) 8 = .ok (.iload_n 2, 1) := by decide +kernel
theorem k12067_9 : decode (qc 12067) 9 = .ok (.ifCond .ge 5, 3) := by decide +kernel
theorem k12067_12 : decode (qc 12067) 12 = .ok (.iconst (-1), 1) := by decide +kernel
theorem k12067_13 : decode (qc 12067) 13 = .ok (.ireturn, 1) := by decide +kernel
theorem k12067_14 : decode (qc 12067) 14 = .ok (.aload_n 0, 1) := by decide +kernel
theorem k12067_15 : decode (qc 12067) 15 = .ok (.iload_n 2, 1) := by decide +kernel
theorem k12067_16 : decode (qc 12067) 16 = .ok (.invokevirtual 348, 3) := by decide +kernel
theorem k12067_19 : decode (qc 12067) 19 = .ok (.iconst 0, 1) := by decide +kernel
theorem k12067_20 : decode (qc 12067) 20 = .ok (.istore_n 3, 1) := by decide +kernel
theorem k12067_21 : decode (qc 12067) 21 = .ok (.iconst 0, 1) := by decide +kernel
theorem k12067_22 : decode (qc 12067) 22 = .ok (.istore 4, 2) := by decide +kernel
theorem k12067_24 : decode (qc 12067) 24 = .ok (.iload 4, 2) := by decide +kernel
theorem k12067_26 : decode (qc 12067) 26 = .ok (.aload_n 0, 1) := by decide +kernel
theorem k12067_27 : decode (qc 12067) 27 = .ok (.getfield 289, 3) := by decide +kernel
theorem k12067_30 : decode (qc 12067) 30 = .ok (.if_icmp .ge 79, 3) := by decide +kernel
theorem k12067_33 : decode (qc 12067) 33 = .ok (.bipush 10, 2) := by decide +kernel
theorem k12067_35 : decode (qc 12067) 35 = .ok (.iload 4, 2) := by decide +kernel
theorem k12067_37 : decode (qc 12067) 37 = .ok (.iadd, 1) := by decide +kernel
theorem k12067_38 : decode (qc 12067) 38 = .ok (.istore 5, 2) := by decide +kernel
theorem k12067_40 : decode (qc 12067) 40 = .ok (.iconst 0, 1) := by decide +kernel
theorem k12067_41 : decode (qc 12067) 41 = .ok (.istore 6, 2) := by decide +kernel
theorem k12067_43 : decode (qc 12067) 43 = .ok (.iload 6, 2) := by decide +kernel
theorem k12067_45 : decode (qc 12067) 45 = .ok (.aload_n 0, 1) := by decide +kernel
theorem k12067_46 : decode (qc 12067) 46 = .ok (.getfield 289, 3) := by decide +kernel
theorem k12067_49 : decode (qc 12067) 49 = .ok (.if_icmp .ge 54, 3) := by decide +kernel
theorem k12067_52 : decode (qc 12067) 52 = .ok (.iload 5, 2) := by decide +kernel
theorem k12067_54 : decode (qc 12067) 54 = .ok (.bipush 10, 2) := by decide +kernel
theorem k12067_56 : decode (qc 12067) 56 = .ok (.if_icmp .lt 47, 3) := by decide +kernel
theorem k12067_59 : decode (qc 12067) 59 = .ok (.aload_n 0, 1) := by decide +kernel
theorem k12067_60 : decode (qc 12067) 60 = .ok (.getfield 62, 3) := by decide +kernel
theorem k12067_63 : decode (qc 12067) 63 = .ok (.iload 5, 2) := by decide +kernel
theorem k12067_65 : decode (qc 12067) 65 = .ok (.bipush 10, 2) := by decide +kernel
theorem k12067_67 : decode (qc 12067) 67 = .ok (.isub, 1) := by decide +kernel
theorem k12067_68 : decode (qc 12067) 68 = .ok (.iaload, 1) := by decide +kernel
theorem k12067_69 : decode (qc 12067) 69 = .ok (.istore 5, 2) := by decide +kernel
theorem k12067_71 : decode (qc 12067) 71 = .ok (.iload_n 3, 1) := by decide +kernel
theorem k12067_72 : decode (qc 12067) 72 = .ok (.iload 4, 2) := by decide +kernel
theorem k12067_74 : decode (qc 12067) 74 = .ok (.iload_n 1, 1) := by decide +kernel
theorem k12067_75 : decode (qc 12067) 75 = .ok (.if_icmp .eq 19, 3) := by decide +kernel
theorem k12067_78 : decode (qc 12067) 78 = .ok (.iload 5, 2) := by decide +kernel
theorem k12067_80 : decode (qc 12067) 80 = .ok (.bipush 10, 2) := by decide +kernel
theorem k12067_82 : decode (qc 12067) 82 = .ok (.iload_n 1, 1) := by decide +kernel
theorem k12067_83 : decode (qc 12067) 83 = .ok (.iadd, 1) := by decide +kernel
theorem k12067_84 : decode (qc 12067) 84 = .ok (.if_icmp .ne 10, 3) := by decide +kernel
theorem k12067_87 : decode (qc 12067) 87 = .ok (.iconst 1, 1) := by decide +kernel
theorem k12067_88 : decode (qc 12067) 88 = .ok (.iload 4, 2) := by decide +kernel
theorem k12067_90 : decode (qc 12067) 90 = .ok (.ishl, 1) := by decide +kernel
theorem k12067_91 : decode (qc 12067) 91 = .ok (.goto 4, 3) := by decide +kernel
theorem k12067_94 : decode (qc 12067) 94 = .ok (.iconst 0, 1) := by decide +kernel
theorem k12067_95 : decode (qc 12067) 95 = .ok (.ior, 1) := by decide +kernel
theorem k12067_96 : decode (qc 12067) 96 = .ok (.istore_n 3, 1) := by decide +kernel
theorem k12067_97 : decode (qc 12067) 97 = .ok (.iinc 6 1, 3) := by decide +kernel
theorem k12067_100 : decode (qc 12067) 100 = .ok (.goto (-57), 3) := by decide +kernel
theorem k12067_103 : decode (qc 12067) 103 = .ok (.iinc 4 1, 3) := by decide +kernel
theorem k12067_106 : decode (qc 12067) 106 = .ok (.goto (-82), 3) := by decide +kernel
theorem k12067_109 : decode (qc 12067) 109 = .ok (.iload_n 3, 1) := by decide +kernel
theorem k12067_110 : decode (qc 12067) 110 = .ok (.ireturn, 1) := by decide +kernel
theorem k12068_0 : decode (qc 12068) 0 = .ok (.aload_n 0, 1) := by decide +kernel
theorem k12068_1 : decode (qc 12068) 1 = .ok (.getfield 289, 3) := by decide +kernel
theorem k12068_4 : decode (qc 12068) 4 = .ok (.ifCond .eq 16, 3) := by decide +kernel
theorem k12068_7 : decode (qc 12068) 7 = .ok (.iload_n 1, 1) := by decide +kernel
theorem k12068_8 : decode (qc 12068) 8 = .ok (.ifCond .lt 12, 3) := by decide +kernel
theorem k12068_11 : decode (qc 12068) 11 = .ok (.iload_n 2, 1) := by decide +kernel
theorem k12068_12 : decode (qc 12068) 12 = .ok (.iconst 0, 1) := by decide +kernel
theorem k12068_13 : decode (qc 12068) 13 = .ok (.iconst 1, 1) := by decide +kernel
theorem k12068_14 : decode (qc 12068) 14 = .ok (.invokestatic 231, 3) := by decide +kernel
theorem k12068_17 : decode (qc 12068) 17 = .ok (.ifCond .ne 5, 3) := by decide +kernel
theorem k12068_20 : decode (qc 12068) 20 = .ok (.iconst (-1), 1) := by decide +kernel
theorem k12068_21 : decode (qc 12068) 21 = .ok (.ireturn, 1) := by decide +kernel
theorem k12068_22 : decode (qc 12068) 22 = .ok (.aload_n 0, 1) := by decide +kernel
theorem k12068_23 : decode (qc 12068) 23 = .ok (.iload_n 1, 1) := by decide +kernel
theorem k12068_24 : decode (qc 12068) 24 = .ok (.invokevirtual 348, 3) := by decide +kernel
theorem k12068_27 : decode (qc 12068) 27 = .ok (.iconst (-1), 1) := by decide +kernel
theorem k12068_28 : decode (qc 12068) 28 = .ok (.istore_n 3, 1) := by decide +kernel
theorem k12068_29 : decode (qc 12068) 29 = .ok (.iconst 0, 1) := by decide +kernel
theorem k12068_30 : decode (qc 12068) 30 = .ok (.istore 4, 2) := by decide +kernel
theorem k12068_32 : decode (qc 12068) 32 = .ok (.iload 4, 2) := by decide +kernel
theorem k12068_34 : decode (qc 12068) 34 = .ok (.aload_n 0, 1) := by decide +kernel
theorem k12068_35 : decode (qc 12068) 35 = .ok (.getfield 289, 3) := by decide +kernel
theorem k12068_38 : decode (qc 12068) 38 = .ok (.if_icmp .ge 45, 3) := by decide +kernel
theorem k12068_41 : decode (qc 12068) 41 = .ok (.aload_n 0, 1) := by decide +kernel
theorem k12068_42 : decode (qc 12068) 42 = .ok (.iload 4, 2) := by decide +kernel
theorem k12068_44 : decode (qc 12068) 44 = .ok (.invokevirtual 339, 3) := by decide +kernel
theorem k12068_47 : decode (qc 12068) 47 = .ok (.iconst (-1), 1) := by decide +kernel
theorem k12068_48 : decode (qc 12068) 48 = .ok (.if_icmp .eq 27, 3) := by decide +kernel
theorem k12068_51 : decode (qc 12068) 51 = .ok (.iload_n 3, 1) := by decide +kernel
theorem k12068_52 : decode (qc 12068) 52 = .ok (.iconst (-1), 1) := by decide +kernel
theorem k12068_53 : decode (qc 12068) 53 = .ok (.if_icmp .eq 17, 3) := by decide +kernel
theorem k12068_56 : decode (qc 12068) 56 = .ok (.aload_n 0, 1) := by decide +kernel
theorem k12068_57 : decode (qc 12068) 57 = .ok (.iload 4, 2) := by decide +kernel
theorem k12068_59 : decode (qc 12068) 59 = .ok (.invokevirtual 339, 3) := by decide +kernel
theorem k12068_62 : decode (qc 12068) 62 = .ok (.aload_n 0, 1) := by decide +kernel
theorem k12068_63 : decode (qc 12068) 63 = .ok (.iload_n 3, 1) := by decide +kernel
theorem k12068_64 : decode (qc 12068) 64 = .ok (.invokevirtual 339, 3) := by decide +kernel
theorem k12068_67 : decode (qc 12068) 67 = .ok (.if_icmp .le 8, 3) := by decide +kernel
theorem k12068_70 : decode (qc 12068) 70 = .ok (.iload 4, 2) := by decide +kernel
theorem k12068_72 : decode (qc 12068) 72 = .ok (.goto 4, 3) := by decide +kernel
theorem k12068_75 : decode (qc 12068) 75 = .ok (.iload_n 3, 1) := by decide +kernel
theorem k12068_76 : decode (qc 12068) 76 = .ok (.istore_n 3, 1) := by decide +kernel
theorem k12068_77 : decode (qc 12068) 77 = .ok (.iinc 4 1, 3) := by decide +kernel
theorem k12068_80 : decode (qc 12068) 80 = .ok (.goto (-48), 3) := by decide +kernel
theorem k12068_83 : decode (qc 12068) 83 = .ok (.iload_n 3, 1) := by decide +kernel
theorem k12068_84 : decode (qc 12068) 84 = .ok (.iconst (-1), 1) := by decide +kernel
theorem k12068_85 : decode (qc 12068) 85 = .ok (.if_icmp .eq 7, 3) := by decide +kernel
theorem k12068_88 : decode (qc 12068) 88 = .ok (.iload_n 2, 1) := by decide +kernel
theorem k12068_89 : decode (qc 12068) 89 = .ok (.ifCond .ne 7, 3) := by decide +kernel
theorem k12068_92 : decode (qc 12068) 92 = .ok (.iload_n 3, 1) := by decide +kernel
theorem k12068_93 : decode (qc 12068) 93 = .ok (.goto 8, 3) := by decide +kernel
theorem k12068_96 : decode (qc 12068) 96 = .ok (.aload_n 0, 1) := by decide +kernel
theorem k12068_97 : decode (qc 12068) 97 = .ok (.iload_n 3, 1) := by decide +kernel
theorem k12068_98 : decode (qc 12068) 98 = .ok (.invokevirtual 339, 3) := by decide +kernel
theorem k12068_101 : decode (qc 12068) 101 = .ok (.ireturn, 1) := by decide +kernel
theorem k12069_0 : decode (qc 12069) 0 = .ok (.iconst (-1), 1) := by decide +kernel
theorem k12069_1 : decode (qc 12069) 1 = .ok (.istore 4, 2) := by decide +kernel
theorem k12069_3 : decode (qc 12069) 3 = .ok (.iconst 0, 1) := by decide +kernel
theorem k12069_4 : decode (qc 12069) 4 = .ok (.istore 5, 2) := by decide +kernel
theorem k12069_6 : decode (qc 12069) 6 = .ok (.iconst 0, 1) := by decide +kernel
theorem k12069_7 : decode (qc 12069) 7 = .ok (.istore 6, 2) := by decide +kernel
theorem k12069_9 : decode (qc 12069) 9 = .ok (.iload 6, 2) := by decide +kernel
theorem k12069_11 : decode (qc 12069) 11 = .ok (.aload_n 0, 1) := by decide +kernel
theorem k12069_12 : decode (qc 12069) 12 = .ok (.getfield 289, 3) := by decide +kernel
theorem k12069_15 : decode (qc 12069) 15 = .ok (.if_icmp .ge 90, 3) := by decide +kernel
theorem k12069_18 : decode (qc 12069) 18 = .ok (.aload_n 0, 1) := by decide +kernel
theorem k12069_19 : decode (qc 12069) 19 = .ok (.iload_n 1, 1) := by decide +kernel
theorem k12069_20 : decode (qc 12069) 20 = .ok (.iload 6, 2) := by decide +kernel
theorem k12069_22 : decode (qc 12069) 22 = .ok (.invokevirtual 324, 3) := by decide +kernel
theorem k12069_25 : decode (qc 12069) 25 = .ok (.ifCond .eq 74, 3) := by decide +kernel
theorem k12069_28 : decode (qc 12069) 28 = .ok (.aload_n 0, 1) := by decide +kernel
theorem k12069_29 : decode (qc 12069) 29 = .ok (.getfield 62, 3) := by decide +kernel
theorem k12069_32 : decode (qc 12069) 32 = .ok (.iload 6, 2) := by decide +kernel
theorem k12069_34 : decode (qc 12069) 34 = .ok (.iaload, 1) := by decide +kernel
theorem k12069_35 : decode (qc 12069) 35 = .ok (.istore 7, 2) := by decide +kernel
theorem k12069_37 : decode (qc 12069) 37 = .ok (.aload_n 0, 1) := by decide +kernel
theorem k12069_38 : decode (qc 12069) 38 = .ok (.getfield 62, 3) := by decide +kernel
theorem k12069_41 : decode (qc 12069) 41 = .ok (.iload 6, 2) := by decide +kernel
theorem k12069_43 : decode (qc 12069) 43 = .ok (.iload_n 1, 1) := by decide +kernel
theorem k12069_44 : decode (qc 12069) 44 = .ok (.iastore, 1) := by decide +kernel
theorem k12069_45 : decode (qc 12069) 45 = .ok (.aload_n 0, 1) := by decide +kernel
theorem k12069_46 : decode (qc 12069) 46 = .ok (.iload_n 2, 1) := by decide +kernel
theorem k12069_47 : decode (qc 12069) 47 = .ok (.invokevirtual 351, 3) := by decide +kernel
theorem k12069_50 : decode (qc 12069) 50 = .ok (.invokestatic 354, 3) := by decide +kernel
theorem k12069_53 : decode (qc 12069) 53 = .ok (.istore 8, 2) := by decide +kernel
theorem k12069_55 : decode (qc 12069) 55 = .ok (.aload_n 0, 1) := by decide +kernel
theorem k12069_56 : decode (qc 12069) 56 = .ok (.getfield 62, 3) := by decide +kernel
theorem k12069_59 : decode (qc 12069) 59 = .ok (.iload 6, 2) := by decide +kernel
theorem k12069_61 : decode (qc 12069) 61 = .ok (.iload 7, 2) := by decide +kernel
theorem k12069_63 : decode (qc 12069) 63 = .ok (.iastore, 1) := by decide +kernel
theorem k12069_64 : decode (qc 12069) 64 = .ok (.iload 4, 2) := by decide +kernel
theorem k12069_66 : decode (qc 12069) 66 = .ok (.iconst (-1), 1) := by decide +kernel
theorem k12069_67 : decode (qc 12069) 67 = .ok (.if_icmp .eq 24, 3) := by decide +kernel
theorem k12069_70 : decode (qc 12069) 70 = .ok (.iload_n 3, 1) := by decide +kernel
theorem k12069_71 : decode (qc 12069) 71 = .ok (.ifCond .eq 13, 3) := by decide +kernel
theorem k12069_74 : decode (qc 12069) 74 = .ok (.iload 8, 2) := by decide +kernel
theorem k12069_76 : decode (qc 12069) 76 = .ok (.iload 5, 2) := by decide +kernel
theorem k12069_78 : decode (qc 12069) 78 = .ok (.if_icmp .le 21, 3) := by decide +kernel
theorem k12069_81 : decode (qc 12069) 81 = .ok (.goto 10, 3) := by decide +kernel
theorem k12069_84 : decode (qc 12069) 84 = .ok (.iload 8, 2) := by decide +kernel
theorem k12069_86 : decode (qc 12069) 86 = .ok (.iload 5, 2) := by decide +kernel
theorem k12069_88 : decode (qc 12069) 88 = .ok (.if_icmp .ge 11, 3) := by decide +kernel
theorem k12069_91 : decode (qc 12069) 91 = .ok (.iload 6, 2) := by decide +kernel
theorem k12069_93 : decode (qc 12069) 93 = .ok (.istore 4, 2) := by decide +kernel
theorem k12069_95 : decode (qc 12069) 95 = .ok (.iload 8, 2) := by decide +kernel
theorem k12069_97 : decode (qc 12069) 97 = .ok (.istore 5, 2) := by decide +kernel
theorem k12069_99 : decode (qc 12069) 99 = .ok (.iinc 6 1, 3) := by decide +kernel
theorem k12069_102 : decode (qc 12069) 102 = .ok (.goto (-93), 3) := by decide +kernel
theorem k12069_105 : decode (qc 12069) 105 = .ok (.aload_n 0, 1) := by decide +kernel
theorem k12069_106 : decode (qc 12069) 106 = .ok (.iload 5, 2) := by decide +kernel
theorem k12069_108 : decode (qc 12069) 108 = .ok (.putfield 359, 3) := by decide +kernel
theorem k12069_111 : decode (qc 12069) 111 = .ok (.iload 4, 2) := by decide +kernel
theorem k12069_113 : decode (qc 12069) 113 = .ok (.ireturn, 1) := by decide +kernel
theorem k12070_0 : decode (qc 12070) 0 = .ok (.aload_n 0, 1) := by decide +kernel
theorem k12070_1 : decode (qc 12070) 1 = .ok (.iload_n 1, 1) := by decide +kernel
theorem k12070_2 : decode (qc 12070) 2 = .ok (.invokevirtual 314, 3) := by decide +kernel
theorem k12070_5 : decode (qc 12070) 5 = .ok (.ifCond .eq 16, 3) := by decide +kernel
theorem k12070_8 : decode (qc 12070) 8 = .ok (.iload_n 2, 1) := by decide +kernel
theorem k12070_9 : decode (qc 12070) 9 = .ok (.ifCond .lt 12, 3) := by decide +kernel
theorem k12070_12 : decode (qc 12070) 12 = .ok (.iload_n 3, 1) := by decide +kernel
theorem k12070_13 : decode (qc 12070) 13 = .ok (.iconst 0, 1) := by decide +kernel
theorem k12070_14 : decode (qc 12070) 14 = .ok (.iconst 1, 1) := by decide +kernel
theorem k12070_15 : decode (qc 12070) 15 = .ok (.invokestatic 231, 3) := by decide +kernel
theorem k12070_18 : decode (qc 12070) 18 = .ok (.ifCond .ne 5, 3) := by decide +kernel
theorem k12070_21 : decode (qc 12070) 21 = .ok (.iconst (-1), 1) := by decide +kernel
theorem k12070_22 : decode (qc 12070) 22 = .ok (.ireturn, 1) := by decide +kernel
theorem k12070_23 : decode (qc 12070) 23 = .ok (.aload_n 0, 1) := by decide +kernel
theorem k12070_24 : decode (qc 12070) 24 = .ok (.iload_n 2, 1) := by decide +kernel
theorem k12070_25 : decode (qc 12070) 25 = .ok (.invokevirtual 348, 3) := by decide +kernel
theorem k12070_28 : decode (qc 12070) 28 = .ok (.aload_n 0, 1) := by decide +kernel
theorem k12070_29 : decode (qc 12070) 29 = .ok (.iload_n 1, 1) := by decide +kernel
theorem k12070_30 : decode (qc 12070) 30 = .ok (.iload_n 1, 1) := by decide +kernel
theorem k12070_31 : decode (qc 12070) 31 = .ok (.iconst 1, 1) := by decide +kernel
theorem k12070_32 : decode (qc 12070) 32 = .ok (.invokevirtual 362, 3) := by decide +kernel
theorem k12070_35 : decode (qc 12070) 35 = .ok (.istore 4, 2) := by decide +kernel
theorem k12070_37 : decode (qc 12070) 37 = .ok (.iload 4, 2) := by decide +kernel
theorem k12070_39 : decode (qc 12070) 39 = .ok (.iconst (-1), 1) := by decide +kernel
theorem k12070_40 : decode (qc 12070) 40 = .ok (.if_icmp .eq 7, 3) := by decide +kernel
theorem k12070_43 : decode (qc 12070) 43 = .ok (.iload_n 3, 1) := by decide +kernel
theorem k12070_44 : decode (qc 12070) 44 = .ok (.ifCond .ne 8, 3) := by decide +kernel
theorem k12070_47 : decode (qc 12070) 47 = .ok (.iload 4, 2) := by decide +kernel
theorem k12070_49 : decode (qc 12070) 49 = .ok (.goto 7, 3) := by decide +kernel
theorem k12070_52 : decode (qc 12070) 52 = .ok (.aload_n 0, 1) := by decide +kernel
theorem k12070_53 : decode (qc 12070) 53 = .ok (.getfield 359, 3) := by decide +kernel
theorem k12070_56 : decode (qc 12070) 56 = .ok (.ireturn, 1) := by decide +kernel
theorem k12071_0 : decode (qc 12071) 0 = .ok (.aload_n 0, 1) := by decide +kernel
theorem k12071_1 : decode (qc 12071) 1 = .ok (.iload_n 1, 1) := by decide +kernel
theorem k12071_2 : decode (qc 12071) 2 = .ok (.invokevirtual 314, 3) := by decide +kernel
theorem k12071_5 : decode (qc 12071) 5 = .ok (.ifCond .eq 30, 3) := by decide +kernel
theorem k12071_8 : decode (qc 12071) 8 = .ok (.aload_n 0, 1) := by decide +kernel
theorem k12071_9 : decode (qc 12071) 9 = .ok (.iload_n 2, 1) := by decide +kernel
theorem k12071_10 : decode (qc 12071) 10 = .ok (.invokevirtual 314, 3) := by decide +kernel
theorem k12071_13 : decode (qc 12071) 13 = .ok (.ifCond .eq 22, 3) := by decide +kernel
theorem k12071_16 : decode (qc 12071) 16 = .ok (.iload_n 1, 1) := by decide +kernel
theorem k12071_17 : decode (qc 12071) 17 = .ok (.iload_n 2, 1) := by decide +kernel
theorem k12071_18 : decode (qc 12071) 18 = .ok (.if_icmp .eq 17, 3) := by decide +kernel
theorem k12071_21 : decode (qc 12071) 21 = .ok (.iload_n 3, 1) := by decide +kernel
theorem k12071_22 : decode (qc 12071) 22 = .ok (.ifCond .lt 13, 3) := by decide +kernel
theorem k12071_25 : decode (qc 12071) 25 = .ok (.iload 4, 2) := by decide +kernel
theorem k12071_27 : decode (qc 12071) 27 = .ok (.iconst 0, 1) := by decide +kernel
theorem k12071_28 : decode (qc 12071) 28 = .ok (.iconst 1, 1) := by decide +kernel
theorem k12071_29 : decode (qc 12071) 29 = .ok (.invokestatic 231, 3) := by decide +kernel
theorem k12071_32 : decode (qc 12071) 32 = .ok (.ifCond .ne 5, 3) := by decide +kernel
theorem k12071_35 : decode (qc 12071) 35 = .ok (.iconst (-1), 1) := by decide +kernel
theorem k12071_36 : decode (qc 12071) 36 = .ok (.ireturn, 1) := by decide +kernel
theorem k12071_37 : decode (qc 12071) 37 = .ok (.aload_n 0, 1) := by decide +kernel
theorem k12071_38 : decode (qc 12071) 38 = .ok (.iload_n 3, 1) := by decide +kernel
theorem k12071_39 : decode (qc 12071) 39 = .ok (.invokevirtual 348, 3) := by decide +kernel
theorem k12071_42 : decode (qc 12071) 42 = .ok (.aload_n 0, 1) := by decide +kernel
theorem k12071_43 : decode (qc 12071) 43 = .ok (.iload_n 1, 1) := by decide +kernel
theorem k12071_44 : decode (qc 12071) 44 = .ok (.iload_n 2, 1) := by decide +kernel
theorem k12071_45 : decode (qc 12071) 45 = .ok (.iconst 0, 1) := by decide +kernel
theorem k12071_46 : decode (qc 12071) 46 = .ok (.invokevirtual 362, 3) := by decide +kernel
theorem k12071_49 : decode (qc 12071) 49 = .ok (.istore 5, 2) := by decide +kernel
theorem k12071_51 : decode (qc 12071) 51 = .ok (.iload 5, 2) := by decide +kernel
theorem k12071_53 : decode (qc 12071) 53 = .ok (.iconst (-1), 1) := by decide +kernel
theorem k12071_54 : decode (qc 12071) 54 = .ok (.if_icmp .eq 8, 3) := by decide +kernel
theorem k12071_57 : decode (qc 12071) 57 = .ok (.iload 4, 2) := by decide +kernel
theorem k12071_59 : decode (qc 12071) 59 = .ok (.ifCond .ne 8, 3) := by decide +kernel
theorem k12071_62 : decode (qc 12071) 62 = .ok (.iload 5, 2) := by decide +kernel
theorem k12071_64 : decode (qc 12071) 64 = .ok (.goto 7, 3) := by decide +kernel
theorem k12071_67 : decode (qc 12071) 67 = .ok (.aload_n 0, 1) := by decide +kernel
theorem k12071_68 : decode (qc 12071) 68 = .ok (.getfield 359, 3) := by decide +kernel
theorem k12071_71 : decode (qc 12071) 71 = .ok (.ireturn, 1) := by decide +kernel
theorem k12072_0 : decode (qc 12072) 0 = .ok (.iload_n 0, 1) := by decide +kernel
theorem k12072_1 : decode (qc 12072) 1 = .ok (.iconst 0, 1) := by decide +kernel
theorem k12072_2 : decode (qc 12072) 2 = .ok (.sipush 1000, 3) := by decide +kernel
theorem k12072_5 : decode (qc 12072) 5 = .ok (.invokestatic 231, 3) := by decide +kernel
theorem k12072_8 : decode (qc 12072) 8 = .ok (.ifCond .eq 18, 3) := by decide +kernel
theorem k12072_11 : decode (qc 12072) 11 = .ok (.iload_n 1, 1) := by decide +kernel
theorem k12072_12 : decode (qc 12072) 12 = .ok (.iload_n 0, 1) := by decide +kernel
theorem k12072_13 : decode (qc 12072) 13 = .ok (.sipush 1000, 3) := by decide +kernel
theorem k12072_16 : decode (qc 12072) 16 = .ok (.invokestatic 231, 3) := by decide +kernel
theorem k12072_19 : decode (qc 12072) 19 = .ok (.ifCond .eq 7, 3) := by decide +kernel
theorem k12072_22 : decode (qc 12072) 22 = .ok (.iconst 1, 1) := by decide +kernel
theorem k12072_23 : decode (qc 12072) 23 = .ok (.goto 4, 3) := by decide +kernel
theorem k12072_26 : decode (qc 12072) 26 = .ok (.iconst 0, 1) := by decide +kernel
theorem k12072_27 : decode (qc 12072) 27 = .ok (.ireturn, 1) := by decide +kernel
theorem k12073_0 : decode (qc 12073) 0 = .ok (.aload_n 0, 1) := by decide +kernel
theorem k12073_1 : decode (qc 12073) 1 = .ok (.iload_n 1, 1) := by decide +kernel
theorem k12073_2 : decode (qc 12073) 2 = .ok (.invokevirtual 314, 3) := by decide +kernel
theorem k12073_5 : decode (qc 12073) 5 = .ok (.ifCond .eq 11, 3) := by decide +kernel
theorem k12073_8 : decode (qc 12073) 8 = .ok (.iload_n 2, 1) := by decide +kernel
theorem k12073_9 : decode (qc 12073) 9 = .ok (.iload_n 3, 1) := by decide +kernel
theorem k12073_10 : decode (qc 12073) 10 = .ok (.invokestatic 366, 3) := by decide +kernel
theorem k12073_13 : decode (qc 12073) 13 = .ok (.ifCond .ne 5, 3) := by decide +kernel
theorem k12073_16 : decode (qc 12073) 16 = .ok (.iconst (-1), 1) := by decide +kernel
theorem k12073_17 : decode (qc 12073) 17 = .ok (.ireturn, 1) := by decide +kernel
theorem k12073_18 : decode (qc 12073) 18 = .ok (.aload_n 0, 1) := by decide +kernel
theorem k12073_19 : decode (qc 12073) 19 = .ok (.invokevirtual 333, 3) := by decide +kernel
theorem k12073_22 : decode (qc 12073) 22 = .ok (.iconst 0, 1) := by decide +kernel
theorem k12073_23 : decode (qc 12073) 23 = .ok (.istore 4, 2) := by decide +kernel
theorem k12073_25 : decode (qc 12073) 25 = .ok (.iload_n 2, 1) := by decide +kernel
theorem k12073_26 : decode (qc 12073) 26 = .ok (.istore 5, 2) := by decide +kernel
theorem k12073_28 : decode (qc 12073) 28 = .ok (.iload 5, 2) := by decide +kernel
theorem k12073_30 : decode (qc 12073) 30 = .ok (.iload_n 3, 1) := by decide +kernel
theorem k12073_31 : decode (qc 12073) 31 = .ok (.if_icmp .ge 63, 3) := by decide +kernel
theorem k12073_34 : decode (qc 12073) 34 = .ok (.aload_n 0, 1) := by decide +kernel
theorem k12073_35 : decode (qc 12073) 35 = .ok (.iload 5, 2) := by decide +kernel
theorem k12073_37 : decode (qc 12073) 37 = .ok (.invokevirtual 336, 3) := by decide +kernel
theorem k12073_40 : decode (qc 12073) 40 = .ok (.iconst 0, 1) := by decide +kernel
theorem k12073_41 : decode (qc 12073) 41 = .ok (.istore 6, 2) := by decide +kernel
theorem k12073_43 : decode (qc 12073) 43 = .ok (.iload 6, 2) := by decide +kernel
theorem k12073_45 : decode (qc 12073) 45 = .ok (.aload_n 0, 1) := by decide +kernel
theorem k12073_46 : decode (qc 12073) 46 = .ok (.getfield 289, 3) := by decide +kernel
theorem k12073_49 : decode (qc 12073) 49 = .ok (.if_icmp .ge 39, 3) := by decide +kernel
theorem k12073_52 : decode (qc 12073) 52 = .ok (.iload 4, 2) := by decide +kernel
theorem k12073_54 : decode (qc 12073) 54 = .ok (.aload_n 0, 1) := by decide +kernel
theorem k12073_55 : decode (qc 12073) 55 = .ok (.iload 6, 2) := by decide +kernel
theorem k12073_57 : decode (qc 12073) 57 = .ok (.invokevirtual 345, 3) := by decide +kernel
theorem k12073_60 : decode (qc 12073) 60 = .ok (.iload_n 1, 1) := by decide +kernel
theorem k12073_61 : decode (qc 12073) 61 = .ok (.if_icmp .ne 17, 3) := by decide +kernel
theorem k12073_64 : decode (qc 12073) 64 = .ok (.aload_n 0, 1) := by decide +kernel
theorem k12073_65 : decode (qc 12073) 65 = .ok (.getfield 43, 3) := by decide +kernel
theorem k12073_68 : decode (qc 12073) 68 = .ok (.iload 6, 2) := by decide +kernel
theorem k12073_70 : decode (qc 12073) 70 = .ok (.iconst 2, 1) := by decide +kernel
theorem k12073_71 : decode (qc 12073) 71 = .ok (.invokestatic 238, 3) := by decide +kernel
theorem k12073_74 : decode (qc 12073) 74 = .ok (.iaload, 1) := by decide +kernel
theorem k12073_75 : decode (qc 12073) 75 = .ok (.goto 4, 3) := by decide +kernel
theorem k12073_78 : decode (qc 12073) 78 = .ok (.iconst 0, 1) := by decide +kernel
theorem k12073_79 : decode (qc 12073) 79 = .ok (.iadd, 1) := by decide +kernel
theorem k12073_80 : decode (qc 12073) 80 = .ok (.istore 4, 2) := by decide +kernel
theorem k12073_82 : decode (qc 12073) 82 = .ok (.iinc 6 1, 3) := by decide +kernel
theorem k12073_85 : decode (qc 12073) 85 = .ok (.goto (-42), 3) := by decide +kernel
theorem k12073_88 : decode (qc 12073) 88 = .ok (.iinc 5 1, 3) := by decide +kernel
theorem k12073_91 : decode (qc 12073) 91 = .ok (.goto (-63), 3) := by decide +kernel
theorem k12073_94 : decode (qc 12073) 94 = .ok (.iload 4, 2) := by decide +kernel
theorem k12073_96 : decode (qc 12073) 96 = .ok (.ireturn, 1) := by decide +kernel
theorem k12074_0 : decode (qc 12074) 0 = .ok (.aload_n 0, 1) := by decide +kernel
theorem k12074_1 : decode (qc 12074) 1 = .ok (.getfield 369, 3) := by decide +kernel
theorem k12074_4 : decode (qc 12074) 4 = .ok (.istore_n 1, 1) := by decide +kernel
theorem k12074_5 : decode (qc 12074) 5 = .ok (.iconst 5, 1) := by decide +kernel
theorem k12074_6 : decode (qc 12074) 6 = .ok (.iload_n 1, 1) := by decide +kernel
theorem k12074_7 : decode (qc 12074) 7 = .ok (.imul, 1) := by decide +kernel
theorem k12074_8 : decode (qc 12074) 8 = .ok (.aload_n 0, 1) := by decide +kernel
theorem k12074_9 : decode (qc 12074) 9 = .ok (.getfield 372, 3) := by decide +kernel
theorem k12074_12 : decode (qc 12074) 12 = .ok (.iadd, 1) := by decide +kernel
theorem k12074_13 : decode (qc 12074) 13 = .ok (.istore_n 1, 1) := by decide +kernel
theorem k12074_14 : decode (qc 12074) 14 = .ok (.iconst 0, 1) := by decide +kernel
theorem k12074_15 : decode (qc 12074) 15 = .ok (.istore_n 2, 1) := by decide +kernel
theorem k12074_16 : decode (qc 12074) 16 = .ok (.iload_n 2, 1) := by decide +kernel
theorem k12074_17 : decode (qc 12074) 17 = .ok (.iconst 3, 1) := by decide +kernel
theorem k12074_18 : decode (qc 12074) 18 = .ok (.if_icmp .ge 40, 3) := by decide +kernel
theorem k12074_21 : decode (qc 12074) 21 = .ok (.bipush 10, 2) := by decide +kernel
theorem k12074_23 : decode (qc 12074) 23 = .ok (.iload_n 1, 1) := by decide +kernel
theorem k12074_24 : decode (qc 12074) 24 = .ok (.imul, 1) := by decide +kernel
theorem k12074_25 : decode (qc 12074) 25 = .ok (.iconst 2, 1) := by decide +kernel
theorem k12074_26 : decode (qc 12074) 26 = .ok (.aload_n 0, 1) := by decide +kernel
theorem k12074_27 : decode (qc 12074) 27 = .ok (.getfield 76, 3) := by decide +kernel
theorem k12074_30 : decode (qc 12074) 30 = .ok (.iload_n 2, 1) := by decide +kernel
theorem k12074_31 : decode (qc 12074) 31 = .ok (.iaload, 1) := by decide +kernel
theorem k12074_32 : decode (qc 12074) 32 = .ok (.imul, 1) := by decide +kernel
theorem k12074_33 : decode (qc 12074) 33 = .ok (.iadd, 1) := by decide +kernel
theorem k12074_34 : decode (qc 12074) 34 = .ok (.aload_n 0, 1) := by decide +kernel
theorem k12074_35 : decode (qc 12074) 35 = .ok (.getfield 375, 3) := by decide +kernel
theorem k12074_38 : decode (qc 12074) 38 = .ok (.iload_n 2, 1) := by decide +kernel
theorem k12074_39 : decode (qc 12074) 39 = .ok (.invokestatic 263, 3) := by decide +kernel
theorem k12074_42 : decode (qc 12074) 42 = .ok (.ifCond .eq 7, 3) := by decide +kernel
theorem k12074_45 : decode (qc 12074) 45 = .ok (.iconst 1, 1) := by decide +kernel
theorem k12074_46 : decode (qc 12074) 46 = .ok (.goto 4, 3) := by decide +kernel
theorem k12074_49 : decode (qc 12074) 49 = .ok (.iconst 0, 1) := by decide +kernel
theorem k12074_50 : decode (qc 12074) 50 = .ok (.iadd, 1) := by decide +kernel
theorem k12074_51 : decode (qc 12074) 51 = .ok (.istore_n 1, 1) := by decide +kernel
theorem k12074_52 : decode (qc 12074) 52 = .ok (.iinc 2 1, 3) := by decide +kernel
theorem k12074_55 : decode (qc 12074) 55 = .ok (.goto (-39), 3) := by decide +kernel
theorem k12074_58 : decode (qc 12074) 58 = .ok (.iload_n 1, 1) := by decide +kernel
theorem k12074_59 : decode (qc 12074) 59 = .ok (.ireturn, 1) := by decide +kernel
theorem k12075_0 : decode (qc 12075) 0 = .ok (.iload_n 1, 1) := by decide +kernel
theorem k12075_1 : decode (qc 12075) 1 = .ok (.istore_n 2, 1) := by decide +kernel
theorem k12075_2 : decode (qc 12075) 2 = .ok (.aload_n 0, 1) := by decide +kernel
theorem k12075_3 : decode (qc 12075) 3 = .ok (.iconst 0, 1) := by decide +kernel
theorem k12075_4 : decode (qc 12075) 4 = .ok (.putfield 375, 3) := by decide +kernel
theorem k12075_7 : decode (qc 12075) 7 = .ok (.iconst 2, 1) := by decide +kernel
theorem k12075_8 : decode (qc 12075) 8 = .ok (.istore_n 3, 1) := by decide +kernel
theorem k12075_9 : decode (qc 12075) 9 = .ok (.iload_n 3, 1) := by decide +kernel
theorem k12075_10 : decode (qc 12075) 10 = .ok (.ifCond .lt 40, 3) := by decide +kernel
theorem k12075_13 : decode (qc 12075) 13 = .ok (.aload_n 0, 1) := by decide +kernel
theorem k12075_14 : decode (qc 12075) 14 = .ok (.getfield 76, 3) := by decide +kernel
theorem k12075_17 : decode (qc 12075) 17 = .ok (.iload_n 3, 1) := by decide +kernel
theorem k12075_18 : decode (qc 12075) 18 = .ok (.iload_n 2, 1) := by decide +kernel
theorem k12075_19 : decode (qc 12075) 19 = .ok (.bipush 10, 2) := by decide +kernel
theorem k12075_21 : decode (qc 12075) 21 = .ok (.irem, 1) := by decide +kernel
theorem k12075_22 : decode (qc 12075) 22 = .ok (.iconst 2, 1) := by decide +kernel
theorem k12075_23 : decode (qc 12075) 23 = .ok (.idiv, 1) := by decide +kernel
theorem k12075_24 : decode (qc 12075) 24 = .ok (.iastore, 1) := by decide +kernel
theorem k12075_25 : decode (qc 12075) 25 = .ok (.aload_n 0, 1) := by decide +kernel
theorem k12075_26 : decode (qc 12075) 26 = .ok (.dup, 1) := by decide +kernel
theorem k12075_27 : decode (qc 12075) 27 = .ok (.getfield 375, 3) := by decide +kernel
theorem k12075_30 : decode (qc 12075) 30 = .ok (.iload_n 2, 1) := by decide +kernel
theorem k12075_31 : decode (qc 12075) 31 = .ok (.iconst 2, 1) := by decide +kernel
theorem k12075_32 : decode (qc 12075) 32 = .ok (.irem, 1) := by decide +kernel
theorem k12075_33 : decode (qc 12075) 33 = .ok (.iload_n 3, 1) := by decide +kernel
theorem k12075_34 : decode (qc 12075) 34 = .ok (.ishl, 1) := by decide +kernel
theorem k12075_35 : decode (qc 12075) 35 = .ok (.ior, 1) := by decide +kernel
theorem k12075_36 : decode (qc 12075) 36 = .ok (.putfield 375, 3) := by decide +kernel
theorem k12075_39 : decode (qc 12075) 39 = .ok (.iload_n 2, 1) := by decide +kernel
theorem k12075_40 : decode (qc 12075) 40 = .ok (.bipush 10, 2) := by decide +kernel
theorem k12075_42 : decode (qc 12075) 42 = .ok (.idiv, 1) := by decide +kernel
theorem k12075_43 : decode (qc 12075) 43 = .ok (.istore_n 2, 1) := by decide +kernel
theorem k12075_44 : decode (qc 12075) 44 = .ok (.iinc 3 (-1), 3) := by decide +kernel
theorem k12075_47 : decode (qc 12075) 47 = .ok (.goto (-38), 3) := by decide +kernel
theorem k12075_50 : decode (qc 12075) 50 = .ok (.aload_n 0, 1) := by decide +kernel
theorem k12075_51 : decode (qc 12075) 51 = .ok (.iload_n 2, 1) := by decide +kernel
theorem k12075_52 : decode (qc 12075) 52 = .ok (.iconst 5, 1) := by decide +kernel
theorem k12075_53 : decode (qc 12075) 53 = .ok (.irem, 1) := by decide +kernel
theorem k12075_54 : decode (qc 12075) 54 = .ok (.putfield 372, 3) := by decide +kernel
theorem k12075_57 : decode (qc 12075) 57 = .ok (.aload_n 0, 1) := by decide +kernel
theorem k12075_58 : decode (qc 12075) 58 = .ok (.iload_n 2, 1) := by decide +kernel
theorem k12075_59 : decode (qc 12075) 59 = .ok (.iconst 5, 1) := by decide +kernel
theorem k12075_60 : decode (qc 12075) 60 = .ok (.idiv, 1) := by decide +kernel
theorem k12075_61 : decode (qc 12075) 61 = .ok (.putfield 369, 3) := by decide +kernel
theorem k12075_64 : decode (qc 12075) 64 = .ok (.return_, 1) := by decide +kernel
theorem k12076_0 : decode (qc 12076) 0 = .ok (.aload_n 0, 1) := by decide +kernel
theorem k12076_1 : decode (qc 12076) 1 = .ok (.iconst 0, 1) := by decide +kernel
theorem k12076_2 : decode (qc 12076) 2 = .ok (.putfield 369, 3) := by decide +kernel
theorem k12076_5 : decode (qc 12076) 5 = .ok (.aload_n 0, 1) := by decide +kernel
theorem k12076_6 : decode (qc 12076) 6 = .ok (.aload_n 0, 1) := by decide +kernel
theorem k12076_7 : decode (qc 12076) 7 = .ok (.getfield 43, 3) := by decide +kernel
theorem k12076_10 : decode (qc 12076) 10 = .ok (.iload_n 1, 1) := by decide +kernel
theorem k12076_11 : decode (qc 12076) 11 = .ok (.invokestatic 245, 3) := by decide +kernel
theorem k12076_14 : decode (qc 12076) 14 = .ok (.iaload, 1) := by decide +kernel
theorem k12076_15 : decode (qc 12076) 15 = .ok (.putfield 372, 3) := by decide +kernel
theorem k12076_18 : decode (qc 12076) 18 = .ok (.aload_n 0, 1) := by decide +kernel
theorem k12076_19 : decode (qc 12076) 19 = .ok (.iconst 0, 1) := by decide +kernel
theorem k12076_20 : decode (qc 12076) 20 = .ok (.putfield 375, 3) := by decide +kernel
theorem k12076_23 : decode (qc 12076) 23 = .ok (.iconst 0, 1) := by decide +kernel
theorem k12076_24 : decode (qc 12076) 24 = .ok (.istore_n 2, 1) := by decide +kernel
theorem k12076_25 : decode (qc 12076) 25 = .ok (.iload_n 2, 1) := by decide +kernel
theorem k12076_26 : decode (qc 12076) 26 = .ok (.iconst 3, 1) := by decide +kernel
theorem k12076_27 : decode (qc 12076) 27 = .ok (.if_icmp .ge 37, 3) := by decide +kernel
theorem k12076_30 : decode (qc 12076) 30 = .ok (.aload_n 0, 1) := by decide +kernel
theorem k12076_31 : decode (qc 12076) 31 = .ok (.getfield 76, 3) := by decide +kernel
theorem k12076_34 : decode (qc 12076) 34 = .ok (.iload_n 2, 1) := by decide +kernel
theorem k12076_35 : decode (qc 12076) 35 = .ok (.iload_n 2, 1) := by decide +kernel
theorem k12076_36 : decode (qc 12076) 36 = .ok (.aload_n 0, 1) := by decide +kernel
theorem k12076_37 : decode (qc 12076) 37 = .ok (.getfield 289, 3) := by decide +kernel
theorem k12076_40 : decode (qc 12076) 40 = .ok (.if_icmp .ge 16, 3) := by decide +kernel
theorem k12076_43 : decode (qc 12076) 43 = .ok (.aload_n 0, 1) := by decide +kernel
theorem k12076_44 : decode (qc 12076) 44 = .ok (.getfield 43, 3) := by decide +kernel
theorem k12076_47 : decode (qc 12076) 47 = .ok (.iload_n 2, 1) := by decide +kernel
theorem k12076_48 : decode (qc 12076) 48 = .ok (.iconst 0, 1) := by decide +kernel
theorem k12076_49 : decode (qc 12076) 49 = .ok (.invokestatic 238, 3) := by decide +kernel
theorem k12076_52 : decode (qc 12076) 52 = .ok (.iaload, 1) := by decide +kernel
theorem k12076_53 : decode (qc 12076) 53 = .ok (.goto 4, 3) := by decide +kernel
theorem k12076_56 : decode (qc 12076) 56 = .ok (.iconst 0, 1) := by decide +kernel
theorem k12076_57 : decode (qc 12076) 57 = .ok (.iastore, 1) := by decide +kernel
theorem k12076_58 : decode (qc 12076) 58 = .ok (.iinc 2 1, 3) := by decide +kernel
theorem k12076_61 : decode (qc 12076) 61 = .ok (.goto (-36), 3) := by decide +kernel
theorem k12076_64 : decode (qc 12076) 64 = .ok (.aload_n 0, 1) := by decide +kernel
theorem k12076_65 : decode (qc 12076) 65 = .ok (.invokevirtual 378, 3) := by decide +kernel
theorem k12076_68 : decode (qc 12076) 68 = .ok (.ireturn, 1) := by decide +kernel
theorem k12077_0 : decode (qc 12077) 0 = .ok (.aload_n 0, 1) := by decide +kernel
theorem k12077_1 : decode (qc 12077) 1 = .ok (.getfield 43, 3) := by decide +kernel
theorem k12077_4 : decode (qc 12077) 4 = .ok (.iload_n 1, 1) := by decide +kernel
theorem k12077_5 : decode (qc 12077) 5 = .ok (.iconst 3, 1) := by decide +kernel
theorem k12077_6 : decode (qc 12077) 6 = .ok (.invokestatic 251, 3) := by decide +kernel
theorem k12077_9 : decode (qc 12077) 9 = .ok (.iaload, 1) := by decide +kernel
theorem k12077_10 : decode (qc 12077) 10 = .ok (.istore_n 2, 1) := by decide +kernel
theorem k12077_11 : decode (qc 12077) 11 = .ok (.aload_n 0, 1) := by decide +kernel
theorem k12077_12 : decode (qc 12077) 12 = .ok (.getfield 369, 3) := by decide +kernel
theorem k12077_15 : decode (qc 12077) 15 = .ok (.iload_n 1, 1) := by decide +kernel
theorem k12077_16 : decode (qc 12077) 16 = .ok (.invokestatic 263, 3) := by decide +kernel
theorem k12077_19 : decode (qc 12077) 19 = .ok (.ifCond .ne 19, 3) := by decide +kernel
theorem k12077_22 : decode (qc 12077) 22 = .ok (.iload_n 2, 1) := by decide +kernel
theorem k12077_23 : decode (qc 12077) 23 = .ok (.iconst (-1), 1) := by decide +kernel
theorem k12077_24 : decode (qc 12077) 24 = .ok (.if_icmp .eq 16, 3) := by decide +kernel
theorem k12077_27 : decode (qc 12077) 27 = .ok (.aload_n 0, 1) := by decide +kernel
theorem k12077_28 : decode (qc 12077) 28 = .ok (.getfield 369, 3) := by decide +kernel
theorem k12077_31 : decode (qc 12077) 31 = .ok (.iload_n 2, 1) := by decide +kernel
theorem k12077_32 : decode (qc 12077) 32 = .ok (.invokestatic 263, 3) := by decide +kernel
theorem k12077_35 : decode (qc 12077) 35 = .ok (.ifCond .ne 5, 3) := by decide +kernel
theorem k12077_38 : decode (qc 12077) 38 = .ok (.iconst 0, 1) := by decide +kernel
theorem k12077_39 : decode (qc 12077) 39 = .ok (.ireturn, 1) := by decide +kernel
theorem k12077_40 : decode (qc 12077) 40 = .ok (.iconst 0, 1) := by decide +kernel
theorem k12077_41 : decode (qc 12077) 41 = .ok (.istore_n 3, 1) := by decide +kernel
theorem k12077_42 : decode (qc 12077) 42 = .ok (.iconst 0, 1) := by decide +kernel
theorem k12077_43 : decode (qc 12077) 43 = .ok (.istore 4, 2) := by decide +kernel
theorem k12077_45 : decode (qc 12077) 45 = .ok (.iload 4, 2) := by decide +kernel
theorem k12077_47 : decode (qc 12077) 47 = .ok (.aload_n 0, 1) := by decide +kernel
theorem k12077_48 : decode (qc 12077) 48 = .ok (.getfield 289, 3) := by decide +kernel
theorem k12077_51 : decode (qc 12077) 51 = .ok (.if_icmp .ge 81, 3) := by decide +kernel
theorem k12077_54 : decode (qc 12077) 54 = .ok (.aload_n 0, 1) := by decide +kernel
theorem k12077_55 : decode (qc 12077) 55 = .ok (.getfield 375, 3) := by decide +kernel
theorem k12077_58 : decode (qc 12077) 58 = .ok (.iload 4, 2) := by decide +kernel
theorem k12077_60 : decode (qc 12077) 60 = .ok (.invokestatic 263, 3) := by decide +kernel
theorem k12077_63 : decode (qc 12077) 63 = .ok (.ifCond .eq 44, 3) := by decide +kernel
theorem k12077_66 : decode (qc 12077) 66 = .ok (.aload_n 0, 1) := by decide +kernel
theorem k12077_67 : decode (qc 12077) 67 = .ok (.getfield 76, 3) := by decide +kernel
theorem k12077_70 : decode (qc 12077) 70 = .ok (.iload 4, 2) := by decide +kernel
theorem k12077_72 : decode (qc 12077) 72 = .ok (.iaload, 1) := by decide +kernel
theorem k12077_73 : decode (qc 12077) 73 = .ok (.aload_n 0, 1) := by decide +kernel
theorem k12077_74 : decode (qc 12077) 74 = .ok (.getfield 43, 3) := by decide +kernel
theorem k12077_77 : decode (qc 12077) 77 = .ok (.iload_n 1, 1) := by decide +kernel
theorem k12077_78 : decode (qc 12077) 78 = .ok (.iconst 0, 1) := by decide +kernel
theorem k12077_79 : decode (qc 12077) 79 = .ok (.invokestatic 251, 3) := by decide +kernel
theorem k12077_82 : decode (qc 12077) 82 = .ok (.iaload, 1) := by decide +kernel
theorem k12077_83 : decode (qc 12077) 83 = .ok (.if_icmp .ne 24, 3) := by decide +kernel
theorem k12077_86 : decode (qc 12077) 86 = .ok (.iload_n 3, 1) := by decide +kernel
theorem k12077_87 : decode (qc 12077) 87 = .ok (.invokestatic 354, 3) := by decide +kernel
theorem k12077_90 : decode (qc 12077) 90 = .ok (.aload_n 0, 1) := by decide +kernel
theorem k12077_91 : decode (qc 12077) 91 = .ok (.getfield 43, 3) := by decide +kernel
theorem k12077_94 : decode (qc 12077) 94 = .ok (.iload_n 1, 1) := by decide +kernel
theorem k12077_95 : decode (qc 12077) 95 = .ok (.iconst 1, 1) := by decide +kernel
theorem k12077_96 : decode (qc 12077) 96 = .ok (.invokestatic 251, 3) := by decide +kernel
theorem k12077_99 : decode (qc 12077) 99 = .ok (.iaload, 1) := by decide +kernel
theorem k12077_100 : decode (qc 12077) 100 = .ok (.if_icmp .ge 7, 3) := by decide +kernel
theorem k12077_103 : decode (qc 12077) 103 = .ok (.iconst 1, 1) := by decide +kernel
theorem k12077_104 : decode (qc 12077) 104 = .ok (.goto 4, 3) := by decide +kernel
theorem k12077_107 : decode (qc 12077) 107 = .ok (.iconst 0, 1) := by decide +kernel
theorem k12077_108 : decode (qc 12077) 108 = .ok (.istore 5, 2) := by decide +kernel
theorem k12077_110 : decode (qc 12077) 110 = .ok (.iload_n 3, 1) := by decide +kernel
theorem k12077_111 : decode (qc 12077) 111 = .ok (.iload 5, 2) := by decide +kernel
theorem k12077_113 : decode (qc 12077) 113 = .ok (.ifCond .eq 10, 3) := by decide +kernel
theorem k12077_116 : decode (qc 12077) 116 = .ok (.iconst 1, 1) := by decide +kernel
theorem k12077_117 : decode (qc 12077) 117 = .ok (.iload 4, 2) := by decide +kernel
theorem k12077_119 : decode (qc 12077) 119 = .ok (.ishl, 1) := by decide +kernel
theorem k12077_120 : decode (qc 12077) 120 = .ok (.goto 4, 3) := by decide +kernel
theorem k12077_123 : decode (qc 12077) 123 = .ok (.iconst 0, 1) := by decide +kernel
theorem k12077_124 : decode (qc 12077) 124 = .ok (.ior, 1) := by decide +kernel
theorem k12077_125 : decode (qc 12077) 125 = .ok (.istore_n 3, 1) := by decide +kernel
theorem k12077_126 : decode (qc 12077) 126 = .ok (.iinc 4 1, 3) := by decide +kernel
theorem k12077_129 : decode (qc 12077) 129 = .ok (.goto (-84), 3) := by decide +kernel
theorem k12077_132 : decode (qc 12077) 132 = .ok (.iload_n 3, 1) := by decide +kernel
theorem k12077_133 : decode (qc 12077) 133 = .ok (.invokestatic 354, 3) := by decide +kernel
theorem k12077_136 : decode (qc 12077) 136 = .ok (.aload_n 0, 1) := by decide +kernel
theorem k12077_137 : decode (qc 12077) 137 = .ok (.getfield 43, 3) := by decide +kernel
theorem k12077_140 : decode (qc 12077) 140 = .ok (.iload_n 1, 1) := by decide +kernel
theorem k12077_141 : decode (qc 12077) 141 = .ok (.iconst 1, 1) := by decide +kernel
theorem k12077_142 : decode (qc 12077) 142 = .ok (.invokestatic 251, 3) := by decide +kernel
theorem k12077_145 : decode (qc 12077) 145 = .ok (.iaload, 1) := by decide +kernel
theorem k12077_146 : decode (qc 12077) 146 = .ok (.if_icmp .ne 7, 3) := by decide +kernel
theorem k12077_149 : decode (qc 12077) 149 = .ok (.iload_n 3, 1) := by decide +kernel
theorem k12077_150 : decode (qc 12077) 150 = .ok (.goto 4, 3) := by decide +kernel
theorem k12077_153 : decode (qc 12077) 153 = .ok (.iconst 0, 1) := by decide +kernel
theorem k12077_154 : decode (qc 12077) 154 = .ok (.ireturn, 1) := by decide +kernel
theorem k12078_0 : decode (qc 12078) 0 = .ok (.aload_n 0, 1) := by decide +kernel
theorem k12078_1 : decode (qc 12078) 1 = .ok (.getfield 79, 3) := by decide +kernel
theorem k12078_4 : decode (qc 12078) 4 = .ok (.aload_n 0, 1) := by decide +kernel
theorem k12078_5 : decode (qc 12078) 5 = .ok (.getfield 381, 3) := by decide +kernel
theorem k12078_8 : decode (qc 12078) 8 = .ok (.aload_n 0, 1) := by decide +kernel
theorem k12078_9 : decode (qc 12078) 9 = .ok (.invokevirtual 378, 3) := by decide +kernel
theorem k12078_12 : decode (qc 12078) 12 = .ok (.iastore, 1) := by decide +kernel
theorem k12078_13 : decode (qc 12078) 13 = .ok (.aload_n 0, 1) := by decide +kernel
theorem k12078_14 : decode (qc 12078) 14 = .ok (.getfield 82, 3) := by decide +kernel
theorem k12078_17 : decode (qc 12078) 17 = .ok (.aload_n 0, 1) := by decide +kernel
theorem k12078_18 : decode (qc 12078) 18 = .ok (.getfield 381, 3) := by decide +kernel
theorem k12078_21 : decode (qc 12078) 21 = .ok (.iload_n 1, 1) := by decide +kernel
theorem k12078_22 : decode (qc 12078) 22 = .ok (.iastore, 1) := by decide +kernel
theorem k12078_23 : decode (qc 12078) 23 = .ok (.aload_n 0, 1) := by decide +kernel
theorem k12078_24 : decode (qc 12078) 24 = .ok (.getfield 85, 3) := by decide +kernel
theorem k12078_27 : decode (qc 12078) 27 = .ok (.aload_n 0, 1) := by decide +kernel
theorem k12078_28 : decode (qc 12078) 28 = .ok (.getfield 381, 3) := by decide +kernel
theorem k12078_31 : decode (qc 12078) 31 = .ok (.iload_n 2, 1) := by decide +kernel
theorem k12078_32 : decode (qc 12078) 32 = .ok (.iastore, 1) := by decide +kernel
theorem k12078_33 : decode (qc 12078) 33 = .ok (.aload_n 0, 1) := by decide +kernel
theorem k12078_34 : decode (qc 12078) 34 = .ok (.dup, 1) := by decide +kernel
theorem k12078_35 : decode (qc 12078) 35 = .ok (.getfield 381, 3) := by decide +kernel
theorem k12078_38 : decode (qc 12078) 38 = .ok (.iconst 1, 1) := by decide +kernel
theorem k12078_39 : decode (qc 12078) 39 = .ok (.iadd, 1) := by decide +kernel
theorem k12078_40 : decode (qc 12078) 40 = .ok (.putfield 381, 3) := by decide +kernel
theorem k12078_43 : decode (qc 12078) 43 = .ok (.return_, 1) := by decide +kernel
theorem k12079_0 : decode (qc 12079) 0 = .ok (.aload_n 0, 1) := by decide +kernel
theorem k12079_1 : decode (qc 12079) 1 = .ok (.iconst 0, 1) := by decide +kernel
theorem k12079_2 : decode (qc 12079) 2 = .ok (.putfield 381, 3) := by decide +kernel
theorem k12079_5 : decode (qc 12079) 5 = .ok (.aload_n 0, 1) := by decide +kernel
theorem k12079_6 : decode (qc 12079) 6 = .ok (.getfield 372, 3) := by decide +kernel
theorem k12079_9 : decode (qc 12079) 9 = .ok (.istore_n 3, 1) := by decide +kernel
theorem k12079_10 : decode (qc 12079) 10 = .ok (.aload_n 0, 1) := by decide +kernel
theorem k12079_11 : decode (qc 12079) 11 = .ok (.getfield 375, 3) := by decide +kernel
theorem k12079_14 : decode (qc 12079) 14 = .ok (.istore 4, 2) := by decide +kernel
theorem k12079_16 : decode (qc 12079) 16 = .ok (.aload_n 0, 1) := by decide +kernel
theorem k12079_17 : decode (qc 12079) 17 = .ok (.getfield 369, 3) := by decide +kernel
theorem k12079_20 : decode (qc 12079) 20 = .ok (.istore 5, 2) := by decide +kernel
theorem k12079_22 : decode (qc 12079) 22 = .ok (.iconst 0, 1) := by decide +kernel
theorem k12079_23 : decode (qc 12079) 23 = .ok (.istore 6, 2) := by decide +kernel
theorem k12079_25 : decode (qc 12079) 25 = .ok (.iload 6, 2) := by decide +kernel
theorem k12079_27 : decode (qc 12079) 27 = .ok (.aload_n 0, 1) := by decide +kernel
theorem k12079_28 : decode (qc 12079) 28 = .ok (.getfield 289, 3) := by decide +kernel
theorem k12079_31 : decode (qc 12079) 31 = .ok (.if_icmp .ge 142, 3) := by decide +kernel
theorem k12079_34 : decode (qc 12079) 34 = .ok (.aload_n 0, 1) := by decide +kernel
theorem k12079_35 : decode (qc 12079) 35 = .ok (.getfield 76, 3) := by decide +kernel
theorem k12079_38 : decode (qc 12079) 38 = .ok (.iload 6, 2) := by decide +kernel
theorem k12079_40 : decode (qc 12079) 40 = .ok (.iaload, 1) := by decide +kernel
theorem k12079_41 : decode (qc 12079) 41 = .ok (.istore 7, 2) := by decide +kernel
theorem k12079_43 : decode (qc 12079) 43 = .ok (.aload_n 0, 1) := by decide +kernel
theorem k12079_44 : decode (qc 12079) 44 = .ok (.iload_n 1, 1) := by decide +kernel
theorem k12079_45 : decode (qc 12079) 45 = .ok (.iload 6, 2) := by decide +kernel
theorem k12079_47 : decode (qc 12079) 47 = .ok (.invokevirtual 324, 3) := by decide +kernel
theorem k12079_50 : decode (qc 12079) 50 = .ok (.ifCond .eq 51, 3) := by decide +kernel
theorem k12079_53 : decode (qc 12079) 53 = .ok (.iload 6, 2) := by decide +kernel
theorem k12079_55 : decode (qc 12079) 55 = .ok (.iload_n 2, 1) := by decide +kernel
theorem k12079_56 : decode (qc 12079) 56 = .ok (.if_icmp .eq 45, 3) := by decide +kernel
theorem k12079_59 : decode (qc 12079) 59 = .ok (.aload_n 0, 1) := by decide +kernel
theorem k12079_60 : decode (qc 12079) 60 = .ok (.iload 7, 2) := by decide +kernel
theorem k12079_62 : decode (qc 12079) 62 = .ok (.putfield 372, 3) := by decide +kernel
theorem k12079_65 : decode (qc 12079) 65 = .ok (.aload_n 0, 1) := by decide +kernel
theorem k12079_66 : decode (qc 12079) 66 = .ok (.iload 4, 2) := by decide +kernel
theorem k12079_68 : decode (qc 12079) 68 = .ok (.iconst 1, 1) := by decide +kernel
theorem k12079_69 : decode (qc 12079) 69 = .ok (.iload 6, 2) := by decide +kernel
theorem k12079_71 : decode (qc 12079) 71 = .ok (.ishl, 1) := by decide +kernel
theorem k12079_72 : decode (qc 12079) 72 = .ok (.ior, 1) := by decide +kernel
theorem k12079_73 : decode (qc 12079) 73 = .ok (.putfield 375, 3) := by decide +kernel
theorem k12079_76 : decode (qc 12079) 76 = .ok (.aload_n 0, 1) := by decide +kernel
theorem k12079_77 : decode (qc 12079) 77 = .ok (.iload_n 3, 1) := by decide +kernel
theorem k12079_78 : decode (qc 12079) 78 = .ok (.iload 7, 2) := by decide +kernel
theorem k12079_80 : decode (qc 12079) 80 = .ok (.isub, 1) := by decide +kernel
theorem k12079_81 : decode (qc 12079) 81 = .ok (.invokestatic 384, 3) := by decide +kernel
theorem k12079_84 : decode (qc 12079) 84 = .ok (.iconst 1, 1) := by decide +kernel
theorem k12079_85 : decode (qc 12079) 85 = .ok (.iadd, 1) := by decide +kernel
theorem k12079_86 : decode (qc 12079) 86 = .ok (.iconst 1, 1) := by decide +kernel
theorem k12079_87 : decode (qc 12079) 87 = .ok (.invokevirtual 387, 3) := by decide +kernel
theorem k12079_90 : decode (qc 12079) 90 = .ok (.aload_n 0, 1) := by decide +kernel
theorem k12079_91 : decode (qc 12079) 91 = .ok (.iload_n 3, 1) := by decide +kernel
theorem k12079_92 : decode (qc 12079) 92 = .ok (.putfield 372, 3) := by decide +kernel
theorem k12079_95 : decode (qc 12079) 95 = .ok (.aload_n 0, 1) := by decide +kernel
theorem k12079_96 : decode (qc 12079) 96 = .ok (.iload 4, 2) := by decide +kernel
theorem k12079_98 : decode (qc 12079) 98 = .ok (.putfield 375, 3) := by decide +kernel
theorem k12079_101 : decode (qc 12079) 101 = .ok (.iconst 0, 1) := by decide +kernel
theorem k12079_102 : decode (qc 12079) 102 = .ok (.istore 8, 2) := by decide +kernel
theorem k12079_104 : decode (qc 12079) 104 = .ok (.iload 8, 2) := by decide +kernel
theorem k12079_106 : decode (qc 12079) 106 = .ok (.aload_n 0, 1) := by decide +kernel
theorem k12079_107 : decode (qc 12079) 107 = .ok (.getfield 286, 3) := by decide +kernel
theorem k12079_110 : decode (qc 12079) 110 = .ok (.if_icmp .ge 57, 3) := by decide +kernel
theorem k12079_113 : decode (qc 12079) 113 = .ok (.iload 4, 2) := by decide +kernel
theorem k12079_115 : decode (qc 12079) 115 = .ok (.iload 6, 2) := by decide +kernel
theorem k12079_117 : decode (qc 12079) 117 = .ok (.invokestatic 263, 3) := by decide +kernel
theorem k12079_120 : decode (qc 12079) 120 = .ok (.ifCond .eq 47, 3) := by decide +kernel
theorem k12079_123 : decode (qc 12079) 123 = .ok (.iload 8, 2) := by decide +kernel
theorem k12079_125 : decode (qc 12079) 125 = .ok (.iload 7, 2) := by decide +kernel
theorem k12079_127 : decode (qc 12079) 127 = .ok (.if_icmp .eq 34, 3) := by decide +kernel
theorem k12079_130 : decode (qc 12079) 130 = .ok (.aload_n 0, 1) := by decide +kernel
theorem k12079_131 : decode (qc 12079) 131 = .ok (.getfield 76, 3) := by decide +kernel
theorem k12079_134 : decode (qc 12079) 134 = .ok (.iload 6, 2) := by decide +kernel
theorem k12079_136 : decode (qc 12079) 136 = .ok (.iload 8, 2) := by decide +kernel
theorem k12079_138 : decode (qc 12079) 138 = .ok (.iastore, 1) := by decide +kernel
theorem k12079_139 : decode (qc 12079) 139 = .ok (.aload_n 0, 1) := by decide +kernel
theorem k12079_140 : decode (qc 12079) 140 = .ok (.iload 8, 2) := by decide +kernel
theorem k12079_142 : decode (qc 12079) 142 = .ok (.iload 7, 2) := by decide +kernel
theorem k12079_144 : decode (qc 12079) 144 = .ok (.isub, 1) := by decide +kernel
theorem k12079_145 : decode (qc 12079) 145 = .ok (.invokestatic 384, 3) := by decide +kernel
theorem k12079_148 : decode (qc 12079) 148 = .ok (.iconst 0, 1) := by decide +kernel
theorem k12079_149 : decode (qc 12079) 149 = .ok (.invokevirtual 387, 3) := by decide +kernel
theorem k12079_152 : decode (qc 12079) 152 = .ok (.aload_n 0, 1) := by decide +kernel
theorem k12079_153 : decode (qc 12079) 153 = .ok (.getfield 76, 3) := by decide +kernel
theorem k12079_156 : decode (qc 12079) 156 = .ok (.iload 6, 2) := by decide +kernel
theorem k12079_158 : decode (qc 12079) 158 = .ok (.iload 7, 2) := by decide +kernel
theorem k12079_160 : decode (qc 12079) 160 = .ok (.iastore, 1) := by decide +kernel
theorem k12079_161 : decode (qc 12079) 161 = .ok (.iinc 8 1, 3) := by decide +kernel
theorem k12079_164 : decode (qc 12079) 164 = .ok (.goto (-60), 3) := by decide +kernel
theorem k12079_167 : decode (qc 12079) 167 = .ok (.iinc 6 1, 3) := by decide +kernel
theorem k12079_170 : decode (qc 12079) 170 = .ok (.goto (-145), 3) := by decide +kernel
theorem k12079_173 : decode (qc 12079) 173 = .ok (.iconst 0, 1) := by decide +kernel
theorem k12079_174 : decode (qc 12079) 174 = .ok (.istore 6, 2) := by decide +kernel
theorem k12079_176 : decode (qc 12079) 176 = .ok (.iload 6, 2) := by decide +kernel
theorem k12079_178 : decode (qc 12079) 178 = .ok (.aload_n 0, 1) := by decide +kernel
theorem k12079_179 : decode (qc 12079) 179 = .ok (.getfield 295, 3) := by decide +kernel
theorem k12079_182 : decode (qc 12079) 182 = .ok (.if_icmp .ge 85, 3) := by decide +kernel
theorem k12079_185 : decode (qc 12079) 185 = .ok (.aload_n 0, 1) := by decide +kernel
theorem k12079_186 : decode (qc 12079) 186 = .ok (.iload 6, 2) := by decide +kernel
theorem k12079_188 : decode (qc 12079) 188 = .ok (.invokevirtual 390, 3) := by decide +kernel
theorem k12079_191 : decode (qc 12079) 191 = .ok (.istore 7, 2) := by decide +kernel
theorem k12079_193 : decode (qc 12079) 193 = .ok (.iload 7, 2) := by decide +kernel
theorem k12079_195 : decode (qc 12079) 195 = .ok (.ifCond .eq 66, 3) := by decide +kernel
theorem k12079_198 : decode (qc 12079) 198 = .ok (.aload_n 0, 1) := by decide +kernel
theorem k12079_199 : decode (qc 12079) 199 = .ok (.iload 5, 2) := by decide +kernel
theorem k12079_201 : decode (qc 12079) 201 = .ok (.iconst 1, 1) := by decide +kernel
theorem k12079_202 : decode (qc 12079) 202 = .ok (.iload 6, 2) := by decide +kernel
theorem k12079_204 : decode (qc 12079) 204 = .ok (.ishl, 1) := by decide +kernel
theorem k12079_205 : decode (qc 12079) 205 = .ok (.ior, 1) := by decide +kernel
theorem k12079_206 : decode (qc 12079) 206 = .ok (.putfield 369, 3) := by decide +kernel
theorem k12079_209 : decode (qc 12079) 209 = .ok (.aload_n 0, 1) := by decide +kernel
theorem k12079_210 : decode (qc 12079) 210 = .ok (.aload_n 0, 1) := by decide +kernel
theorem k12079_211 : decode (qc 12079) 211 = .ok (.getfield 321, 3) := by decide +kernel
theorem k12079_214 : decode (qc 12079) 214 = .ok (.iconst 1, 1) := by decide +kernel
theorem k12079_215 : decode (qc 12079) 215 = .ok (.if_icmp .ne 13, 3) := by decide +kernel
theorem k12079_218 : decode (qc 12079) 218 = .ok (.iload 4, 2) := by decide +kernel
theorem k12079_220 : decode (qc 12079) 220 = .ok (.iload 7, 2) := by decide +kernel
theorem k12079_222 : decode (qc 12079) 222 = .ok (.iconst (-1), 1) := by decide +kernel
theorem k12079_223 : decode (qc 12079) 223 = .ok (.ixor, 1) := by decide +kernel
theorem k12079_224 : decode (qc 12079) 224 = .ok (.iand, 1) := by decide +kernel
theorem k12079_225 : decode (qc 12079) 225 = .ok (.goto 5, 3) := by decide +kernel
theorem k12079_228 : decode (qc 12079) 228 = .ok (.iload 4, 2) := by decide +kernel
theorem k12079_230 : decode (qc 12079) 230 = .ok (.putfield 375, 3) := by decide +kernel
theorem k12079_233 : decode (qc 12079) 233 = .ok (.aload_n 0, 1) := by decide +kernel
theorem k12079_234 : decode (qc 12079) 234 = .ok (.aload_n 0, 1) := by decide +kernel
theorem k12079_235 : decode (qc 12079) 235 = .ok (.getfield 43, 3) := by decide +kernel
theorem k12079_238 : decode (qc 12079) 238 = .ok (.iload 6, 2) := by decide +kernel
theorem k12079_240 : decode (qc 12079) 240 = .ok (.iconst 2, 1) := by decide +kernel
theorem k12079_241 : decode (qc 12079) 241 = .ok (.invokestatic 251, 3) := by decide +kernel
theorem k12079_244 : decode (qc 12079) 244 = .ok (.iaload, 1) := by decide +kernel
theorem k12079_245 : decode (qc 12079) 245 = .ok (.iconst 0, 1) := by decide +kernel
theorem k12079_246 : decode (qc 12079) 246 = .ok (.invokevirtual 387, 3) := by decide +kernel
theorem k12079_249 : decode (qc 12079) 249 = .ok (.aload_n 0, 1) := by decide +kernel
theorem k12079_250 : decode (qc 12079) 250 = .ok (.iload 5, 2) := by decide +kernel
theorem k12079_252 : decode (qc 12079) 252 = .ok (.putfield 369, 3) := by decide +kernel
theorem k12079_255 : decode (qc 12079) 255 = .ok (.aload_n 0, 1) := by decide +kernel
theorem k12079_256 : decode (qc 12079) 256 = .ok (.iload 4, 2) := by decide +kernel
theorem k12079_258 : decode (qc 12079) 258 = .ok (.putfield 375, 3) := by decide +kernel
theorem k12079_261 : decode (qc 12079) 261 = .ok (.iinc 6 1, 3) := by decide +kernel
theorem k12079_264 : decode (qc 12079) 264 = .ok (.goto (-88), 3) := by decide +kernel
theorem k12079_267 : decode (qc 12079) 267 = .ok (.return_, 1) := by decide +kernel
theorem k12080_0 : decode (qc 12080) 0 = .ok (.iconst 0, 1) := by decide +kernel
theorem k12080_1 : decode (qc 12080) 1 = .ok (.istore_n 3, 1) := by decide +kernel
theorem k12080_2 : decode (qc 12080) 2 = .ok (.iload_n 3, 1) := by decide +kernel
theorem k12080_3 : decode (qc 12080) 3 = .ok (.ldc 69, 2) := by decide +kernel
theorem k12080_5 : decode (qc 12080) 5 = .ok (.if_icmp .ge 16, 3) := by decide +kernel
theorem k12080_8 : decode (qc 12080) 8 = .ok (.aload_n 0, 1) := by decide +kernel
theorem k12080_9 : decode (qc 12080) 9 = .ok (.getfield 70, 3) := by decide +kernel
theorem k12080_12 : decode (qc 12080) 12 = .ok (.iload_n 3, 1) := by decide +kernel
theorem k12080_13 : decode (qc 12080) 13 = .ok (.iconst (-1), 1) := by decide +kernel
theorem k12080_14 : decode (qc 12080) 14 = .ok (.iastore, 1) := by decide +kernel
theorem k12080_15 : decode (qc 12080) 15 = .ok (.iinc 3 1, 3) := by decide +kernel
theorem k12080_18 : decode (qc 12080) 18 = .ok (.goto (-16), 3) := by decide +kernel
theorem k12080_21 : decode (qc 12080) 21 = .ok (.aload_n 0, 1) := by decide +kernel
theorem k12080_22 : decode (qc 12080) 22 = .ok (.iload_n 1, 1) := by decide +kernel
theorem k12080_23 : decode (qc 12080) 23 = .ok (.invokevirtual 393, 3) := by decide +kernel
theorem k12080_26 : decode (qc 12080) 26 = .ok (.istore_n 3, 1) := by decide +kernel
theorem k12080_27 : decode (qc 12080) 27 = .ok (.aload_n 0, 1) := by decide +kernel
theorem k12080_28 : decode (qc 12080) 28 = .ok (.getfield 70, 3) := by decide +kernel
theorem k12080_31 : decode (qc 12080) 31 = .ok (.iload_n 3, 1) := by decide +kernel
theorem k12080_32 : decode (qc 12080) 32 = .ok (.iconst 0, 1) := by decide +kernel
theorem k12080_33 : decode (qc 12080) 33 = .ok (.iastore, 1) := by decide +kernel
theorem k12080_34 : decode (qc 12080) 34 = .ok (.aload_n 0, 1) := by decide +kernel
theorem k12080_35 : decode (qc 12080) 35 = .ok (.getfield 73, 3) := by decide +kernel
theorem k12080_38 : decode (qc 12080) 38 = .ok (.iload_n 3, 1) := by decide +kernel
theorem k12080_39 : decode (qc 12080) 39 = .ok (.iconst 0, 1) := by decide +kernel
theorem k12080_40 : decode (qc 12080) 40 = .ok (.iastore, 1) := by decide +kernel
theorem k12080_41 : decode (qc 12080) 41 = .ok (.aload_n 0, 1) := by decide +kernel
theorem k12080_42 : decode (qc 12080) 42 = .ok (.iconst (-1), 1) := by decide +kernel
theorem k12080_43 : decode (qc 12080) 43 = .ok (.putfield 396, 3) := by decide +kernel
theorem k12080_46 : decode (qc 12080) 46 = .ok (.aload_n 0, 1) := by decide +kernel
theorem k12080_47 : decode (qc 12080) 47 = .ok (.iconst (-1), 1) := by decide +kernel
theorem k12080_48 : decode (qc 12080) 48 = .ok (.putfield 399, 3) := by decide +kernel
theorem k12080_51 : decode (qc 12080) 51 = .ok (.iconst 1, 1) := by decide +kernel
theorem k12080_52 : decode (qc 12080) 52 = .ok (.istore 4, 2) := by decide +kernel
theorem k12080_54 : decode (qc 12080) 54 = .ok (.iconst 0, 1) := by decide +kernel
theorem k12080_55 : decode (qc 12080) 55 = .ok (.istore 5, 2) := by decide +kernel
theorem k12080_57 : decode (qc 12080) 57 = .ok (.aload_n 0, 1) := by decide +kernel
theorem k12080_58 : decode (qc 12080) 58 = .ok (.getfield 396, 3) := by decide +kernel
theorem k12080_61 : decode (qc 12080) 61 = .ok (.iconst (-1), 1) := by decide +kernel
theorem k12080_62 : decode (qc 12080) 62 = .ok (.if_icmp .ne 211, 3) := by decide +kernel
theorem k12080_65 : decode (qc 12080) 65 = .ok (.iload 4, 2) := by decide +kernel
theorem k12080_67 : decode (qc 12080) 67 = .ok (.ifCond .le 206, 3) := by decide +kernel
theorem k12080_70 : decode (qc 12080) 70 = .ok (.iload 5, 2) := by decide +kernel
theorem k12080_72 : decode (qc 12080) 72 = .ok (.sipush 1000, 3) := by decide +kernel
theorem k12080_75 : decode (qc 12080) 75 = .ok (.if_icmp .ge 198, 3) := by decide +kernel
theorem k12080_78 : decode (qc 12080) 78 = .ok (.iconst 0, 1) := by decide +kernel
theorem k12080_79 : decode (qc 12080) 79 = .ok (.istore 4, 2) := by decide +kernel
theorem k12080_81 : decode (qc 12080) 81 = .ok (.iconst 0, 1) := by decide +kernel
theorem k12080_82 : decode (qc 12080) 82 = .ok (.istore 6, 2) := by decide +kernel
theorem k12080_84 : decode (qc 12080) 84 = .ok (.iload 6, 2) := by decide +kernel
theorem k12080_86 : decode (qc 12080) 86 = .ok (.ldc 69, 2) := by decide +kernel
theorem k12080_88 : decode (qc 12080) 88 = .ok (.if_icmp .ge 179, 3) := by decide +kernel
theorem k12080_91 : decode (qc 12080) 91 = .ok (.iload 4, 2) := by decide +kernel
theorem k12080_93 : decode (qc 12080) 93 = .ok (.aload_n 0, 1) := by decide +kernel
theorem k12080_94 : decode (qc 12080) 94 = .ok (.getfield 70, 3) := by decide +kernel
theorem k12080_97 : decode (qc 12080) 97 = .ok (.iload 6, 2) := by decide +kernel
theorem k12080_99 : decode (qc 12080) 99 = .ok (.iaload, 1) := by decide +kernel
theorem k12080_100 : decode (qc 12080) 100 = .ok (.iload 5, 2) := by decide +kernel
theorem k12080_102 : decode (qc 12080) 102 = .ok (.if_icmp .le 7, 3) := by decide +kernel
theorem k12080_105 : decode (qc 12080) 105 = .ok (.iconst 1, 1) := by decide +kernel
theorem k12080_106 : decode (qc 12080) 106 = .ok (.goto 4, 3) := by decide +kernel
theorem k12080_109 : decode (qc 12080) 109 = .ok (.iconst 0, 1) := by decide +kernel
theorem k12080_110 : decode (qc 12080) 110 = .ok (.iadd, 1) := by decide +kernel
theorem k12080_111 : decode (qc 12080) 111 = .ok (.istore 4, 2) := by decide +kernel
theorem k12080_113 : decode (qc 12080) 113 = .ok (.aload_n 0, 1) := by decide +kernel
theorem k12080_114 : decode (qc 12080) 114 = .ok (.getfield 70, 3) := by decide +kernel
theorem k12080_117 : decode (qc 12080) 117 = .ok (.iload 6, 2) := by decide +kernel
theorem k12080_119 : decode (qc 12080) 119 = .ok (.iaload, 1) := by decide +kernel
theorem k12080_120 : decode (qc 12080) 120 = .ok (.iload 5, 2) := by decide +kernel
theorem k12080_122 : decode (qc 12080) 122 = .ok (.if_icmp .ne 139, 3) := by decide +kernel
theorem k12080_125 : decode (qc 12080) 125 = .ok (.aload_n 0, 1) := by decide +kernel
theorem k12080_126 : decode (qc 12080) 126 = .ok (.iload 6, 2) := by decide +kernel
theorem k12080_128 : decode (qc 12080) 128 = .ok (.invokevirtual 402, 3) := by decide +kernel
theorem k12080_131 : decode (qc 12080) 131 = .ok (.aload_n 0, 1) := by decide +kernel
theorem k12080_132 : decode (qc 12080) 132 = .ok (.getfield 369, 3) := by decide +kernel
theorem k12080_135 : decode (qc 12080) 135 = .ok (.iconst 1, 1) := by decide +kernel
theorem k12080_136 : decode (qc 12080) 136 = .ok (.aload_n 0, 1) := by decide +kernel
theorem k12080_137 : decode (qc 12080) 137 = .ok (.getfield 295, 3) := by decide +kernel
theorem k12080_140 : decode (qc 12080) 140 = .ok (.ishl, 1) := by decide +kernel
theorem k12080_141 : decode (qc 12080) 141 = .ok (.iconst 1, 1) := by decide +kernel
theorem k12080_142 : decode (qc 12080) 142 = .ok (.isub, 1) := by decide +kernel
theorem k12080_143 : decode (qc 12080) 143 = .ok (.if_icmp .ne 45, 3) := by decide +kernel
theorem k12080_146 : decode (qc 12080) 146 = .ok (.aload_n 0, 1) := by decide +kernel
theorem k12080_147 : decode (qc 12080) 147 = .ok (.aload_n 0, 1) := by decide +kernel
theorem k12080_148 : decode (qc 12080) 148 = .ok (.getfield 396, 3) := by decide +kernel
theorem k12080_151 : decode (qc 12080) 151 = .ok (.iconst (-1), 1) := by decide +kernel
theorem k12080_152 : decode (qc 12080) 152 = .ok (.if_icmp .ne 13, 3) := by decide +kernel
theorem k12080_155 : decode (qc 12080) 155 = .ok (.aload_n 0, 1) := by decide +kernel
theorem k12080_156 : decode (qc 12080) 156 = .ok (.getfield 73, 3) := by decide +kernel
theorem k12080_159 : decode (qc 12080) 159 = .ok (.iload 6, 2) := by decide +kernel
theorem k12080_161 : decode (qc 12080) 161 = .ok (.iaload, 1) := by decide +kernel
theorem k12080_162 : decode (qc 12080) 162 = .ok (.goto 17, 3) := by decide +kernel
theorem k12080_165 : decode (qc 12080) 165 = .ok (.aload_n 0, 1) := by decide +kernel
theorem k12080_166 : decode (qc 12080) 166 = .ok (.getfield 399, 3) := by decide +kernel
theorem k12080_169 : decode (qc 12080) 169 = .ok (.aload_n 0, 1) := by decide +kernel
theorem k12080_170 : decode (qc 12080) 170 = .ok (.getfield 73, 3) := by decide +kernel
theorem k12080_173 : decode (qc 12080) 173 = .ok (.iload 6, 2) := by decide +kernel
theorem k12080_175 : decode (qc 12080) 175 = .ok (.iaload, 1) := by decide +kernel
theorem k12080_176 : decode (qc 12080) 176 = .ok (.invokestatic 405, 3) := by decide +kernel
theorem k12080_179 : decode (qc 12080) 179 = .ok (.putfield 399, 3) := by decide +kernel
theorem k12080_182 : decode (qc 12080) 182 = .ok (.aload_n 0, 1) := by decide +kernel
theorem k12080_183 : decode (qc 12080) 183 = .ok (.iload 5, 2) := by decide +kernel
theorem k12080_185 : decode (qc 12080) 185 = .ok (.putfield 396, 3) := by decide +kernel
theorem k12080_188 : decode (qc 12080) 188 = .ok (.aload_n 0, 1) := by decide +kernel
theorem k12080_189 : decode (qc 12080) 189 = .ok (.iload_n 1, 1) := by decide +kernel
theorem k12080_190 : decode (qc 12080) 190 = .ok (.iload_n 2, 1) := by decide +kernel
theorem k12080_191 : decode (qc 12080) 191 = .ok (.invokevirtual 407, 3) := by decide +kernel
theorem k12080_194 : decode (qc 12080) 194 = .ok (.iconst 0, 1) := by decide +kernel
theorem k12080_195 : decode (qc 12080) 195 = .ok (.istore 7, 2) := by decide +kernel
theorem k12080_197 : decode (qc 12080) 197 = .ok (.iload 7, 2) := by decide +kernel
theorem k12080_199 : decode (qc 12080) 199 = .ok (.aload_n 0, 1) := by decide +kernel
theorem k12080_200 : decode (qc 12080) 200 = .ok (.getfield 381, 3) := by decide +kernel
theorem k12080_203 : decode (qc 12080) 203 = .ok (.if_icmp .ge 58, 3) := by decide +kernel
theorem k12080_206 : decode (qc 12080) 206 = .ok (.iload 4, 2) := by decide +kernel
theorem k12080_208 : decode (qc 12080) 208 = .ok (.aload_n 0, 1) := by decide +kernel
theorem k12080_209 : decode (qc 12080) 209 = .ok (.aload_n 0, 1) := by decide +kernel
theorem k12080_210 : decode (qc 12080) 210 = .ok (.getfield 79, 3) := by decide +kernel
theorem k12080_213 : decode (qc 12080) 213 = .ok (.iload 7, 2) := by decide +kernel
theorem k12080_215 : decode (qc 12080) 215 = .ok (.iaload, 1) := by decide +kernel
theorem k12080_216 : decode (qc 12080) 216 = .ok (.iload 5, 2) := by decide +kernel
theorem k12080_218 : decode (qc 12080) 218 = .ok (.aload_n 0, 1) := by decide +kernel
theorem k12080_219 : decode (qc 12080) 219 = .ok (.getfield 82, 3) := by decide +kernel
theorem k12080_222 : decode (qc 12080) 222 = .ok (.iload 7, 2) := by decide +kernel
theorem k12080_224 : decode (qc 12080) 224 = .ok (.iaload, 1) := by decide +kernel
theorem k12080_225 : decode (qc 12080) 225 = .ok (.iadd, 1) := by decide +kernel
theorem k12080_226 : decode (qc 12080) 226 = .ok (.aload_n 0, 1) := by decide +kernel
theorem k12080_227 : decode (qc 12080) 227 = .ok (.getfield 73, 3) := by decide +kernel
theorem k12080_230 : decode (qc 12080) 230 = .ok (.iload 6, 2) := by decide +kernel
theorem k12080_232 : decode (qc 12080) 232 = .ok (.iaload, 1) := by decide +kernel
theorem k12080_233 : decode (qc 12080) 233 = .ok (.aload_n 0, 1) := by decide +kernel
theorem k12080_234 : decode (qc 12080) 234 = .ok (.getfield 85, 3) := by decide +kernel
theorem k12080_237 : decode (qc 12080) 237 = .ok (.iload 7, 2) := by decide +kernel
theorem k12080_239 : decode (qc 12080) 239 = .ok (.iaload, 1) := by decide +kernel
theorem k12080_240 : decode (qc 12080) 240 = .ok (.iadd, 1) := by decide +kernel
theorem k12080_241 : decode (qc 12080) 241 = .ok (.invokevirtual 409, 3) := by decide +kernel
theorem k12080_244 : decode (qc 12080) 244 = .ok (.ifCond .eq 7, 3) := by decide +kernel
theorem k12080_247 : decode (qc 12080) 247 = .ok (.iconst 1, 1) := by decide +kernel
theorem k12080_248 : decode (qc 12080) 248 = .ok (.goto 4, 3) := by decide +kernel
theorem k12080_251 : decode (qc 12080) 251 = .ok (.iconst 0, 1) := by decide +kernel
theorem k12080_252 : decode (qc 12080) 252 = .ok (.iadd, 1) := by decide +kernel
theorem k12080_253 : decode (qc 12080) 253 = .ok (.istore 4, 2) := by decide +kernel
theorem k12080_255 : decode (qc 12080) 255 = .ok (.iinc 7 1, 3) := by decide +kernel
theorem k12080_258 : decode (qc 12080) 258 = .ok (.goto (-61), 3) := by decide +kernel
theorem k12080_261 : decode (qc 12080) 261 = .ok (.iinc 6 1, 3) := by decide +kernel
theorem k12080_264 : decode (qc 12080) 264 = .ok (.goto (-180), 3) := by decide +kernel
theorem k12080_267 : decode (qc 12080) 267 = .ok (.iinc 5 1, 3) := by decide +kernel
theorem k12080_270 : decode (qc 12080) 270 = .ok (.goto (-213), 3) := by decide +kernel
theorem k12080_273 : decode (qc 12080) 273 = .ok (.return_, 1) := by decide +kernel
theorem k12081_0 : decode (qc 12081) 0 = .ok (.aload_n 0, 1) := by decide +kernel
theorem k12081_1 : decode (qc 12081) 1 = .ok (.getfield 70, 3) := by decide +kernel
theorem k12081_4 : decode (qc 12081) 4 = .ok (.iload_n 1, 1) := by decide +kernel
theorem k12081_5 : decode (qc 12081) 5 = .ok (.iaload, 1) := by decide +kernel
theorem k12081_6 : decode (qc 12081) 6 = .ok (.iconst (-1), 1) := by decide +kernel
theorem k12081_7 : decode (qc 12081) 7 = .ok (.if_icmp .eq 33, 3) := by decide +kernel
theorem k12081_10 : decode (qc 12081) 10 = .ok (.iload_n 2, 1) := by decide +kernel
theorem k12081_11 : decode (qc 12081) 11 = .ok (.aload_n 0, 1) := by decide +kernel
theorem k12081_12 : decode (qc 12081) 12 = .ok (.getfield 70, 3) := by decide +kernel
theorem k12081_15 : decode (qc 12081) 15 = .ok (.iload_n 1, 1) := by decide +kernel
theorem k12081_16 : decode (qc 12081) 16 = .ok (.iaload, 1) := by decide +kernel
theorem k12081_17 : decode (qc 12081) 17 = .ok (.if_icmp .lt 23, 3) := by decide +kernel
theorem k12081_20 : decode (qc 12081) 20 = .ok (.iload_n 2, 1) := by decide +kernel
theorem k12081_21 : decode (qc 12081) 21 = .ok (.aload_n 0, 1) := by decide +kernel
theorem k12081_22 : decode (qc 12081) 22 = .ok (.getfield 70, 3) := by decide +kernel
theorem k12081_25 : decode (qc 12081) 25 = .ok (.iload_n 1, 1) := by decide +kernel
theorem k12081_26 : decode (qc 12081) 26 = .ok (.iaload, 1) := by decide +kernel
theorem k12081_27 : decode (qc 12081) 27 = .ok (.if_icmp .ne 17, 3) := by decide +kernel
theorem k12081_30 : decode (qc 12081) 30 = .ok (.iload_n 3, 1) := by decide +kernel
theorem k12081_31 : decode (qc 12081) 31 = .ok (.aload_n 0, 1) := by decide +kernel
theorem k12081_32 : decode (qc 12081) 32 = .ok (.getfield 73, 3) := by decide +kernel
theorem k12081_35 : decode (qc 12081) 35 = .ok (.iload_n 1, 1) := by decide +kernel
theorem k12081_36 : decode (qc 12081) 36 = .ok (.iaload, 1) := by decide +kernel
theorem k12081_37 : decode (qc 12081) 37 = .ok (.if_icmp .ge 7, 3) := by decide +kernel
theorem k12081_40 : decode (qc 12081) 40 = .ok (.iconst 1, 1) := by decide +kernel
theorem k12081_41 : decode (qc 12081) 41 = .ok (.goto 4, 3) := by decide +kernel
theorem k12081_44 : decode (qc 12081) 44 = .ok (.iconst 0, 1) := by decide +kernel
theorem k12081_45 : decode (qc 12081) 45 = .ok (.istore 4, 2) := by decide +kernel
theorem k12081_47 : decode (qc 12081) 47 = .ok (.iload 4, 2) := by decide +kernel
theorem k12081_49 : decode (qc 12081) 49 = .ok (.ifCond .eq 17, 3) := by decide +kernel
theorem k12081_52 : decode (qc 12081) 52 = .ok (.aload_n 0, 1) := by decide +kernel
theorem k12081_53 : decode (qc 12081) 53 = .ok (.getfield 70, 3) := by decide +kernel
theorem k12081_56 : decode (qc 12081) 56 = .ok (.iload_n 1, 1) := by decide +kernel
theorem k12081_57 : decode (qc 12081) 57 = .ok (.iload_n 2, 1) := by decide +kernel
theorem k12081_58 : decode (qc 12081) 58 = .ok (.iastore, 1) := by decide +kernel
theorem k12081_59 : decode (qc 12081) 59 = .ok (.aload_n 0, 1) := by decide +kernel
theorem k12081_60 : decode (qc 12081) 60 = .ok (.getfield 73, 3) := by decide +kernel
theorem k12081_63 : decode (qc 12081) 63 = .ok (.iload_n 1, 1) := by decide +kernel
theorem k12081_64 : decode (qc 12081) 64 = .ok (.iload_n 3, 1) := by decide +kernel
theorem k12081_65 : decode (qc 12081) 65 = .ok (.iastore, 1) := by decide +kernel
theorem k12081_66 : decode (qc 12081) 66 = .ok (.iload 4, 2) := by decide +kernel
theorem k12081_68 : decode (qc 12081) 68 = .ok (.ireturn, 1) := by decide +kernel
theorem k12082_0 : decode (qc 12082) 0 = .ok (.iconst 0, 1) := by decide +kernel
theorem k12082_1 : decode (qc 12082) 1 = .ok (.istore_n 2, 1) := by decide +kernel
theorem k12082_2 : decode (qc 12082) 2 = .ok (.iload_n 2, 1) := by decide +kernel
theorem k12082_3 : decode (qc 12082) 3 = .ok (.ldc 69, 2) := by decide +kernel
theorem k12082_5 : decode (qc 12082) 5 = .ok (.if_icmp .ge 23, 3) := by decide +kernel
theorem k12082_8 : decode (qc 12082) 8 = .ok (.aload_n 0, 1) := by decide +kernel
theorem k12082_9 : decode (qc 12082) 9 = .ok (.getfield 73, 3) := by decide +kernel
theorem k12082_12 : decode (qc 12082) 12 = .ok (.iload_n 2, 1) := by decide +kernel
theorem k12082_13 : decode (qc 12082) 13 = .ok (.iconst (-1), 1) := by decide +kernel
theorem k12082_14 : decode (qc 12082) 14 = .ok (.iastore, 1) := by decide +kernel
theorem k12082_15 : decode (qc 12082) 15 = .ok (.aload_n 0, 1) := by decide +kernel
theorem k12082_16 : decode (qc 12082) 16 = .ok (.getfield 70, 3) := by decide +kernel
theorem k12082_19 : decode (qc 12082) 19 = .ok (.iload_n 2, 1) := by decide +kernel
theorem k12082_20 : decode (qc 12082) 20 = .ok (.iconst (-1), 1) := by decide +kernel
theorem k12082_21 : decode (qc 12082) 21 = .ok (.iastore, 1) := by decide +kernel
theorem k12082_22 : decode (qc 12082) 22 = .ok (.iinc 2 1, 3) := by decide +kernel
theorem k12082_25 : decode (qc 12082) 25 = .ok (.goto (-23), 3) := by decide +kernel
theorem k12082_28 : decode (qc 12082) 28 = .ok (.aload_n 0, 1) := by decide +kernel
theorem k12082_29 : decode (qc 12082) 29 = .ok (.getfield 73, 3) := by decide +kernel
theorem k12082_32 : decode (qc 12082) 32 = .ok (.aload_n 0, 1) := by decide +kernel
theorem k12082_33 : decode (qc 12082) 33 = .ok (.iload_n 1, 1) := by decide +kernel
theorem k12082_34 : decode (qc 12082) 34 = .ok (.invokevirtual 393, 3) := by decide +kernel
theorem k12082_37 : decode (qc 12082) 37 = .ok (.iconst 0, 1) := by decide +kernel
theorem k12082_38 : decode (qc 12082) 38 = .ok (.iastore, 1) := by decide +kernel
theorem k12082_39 : decode (qc 12082) 39 = .ok (.iconst 0, 1) := by decide +kernel
theorem k12082_40 : decode (qc 12082) 40 = .ok (.istore_n 2, 1) := by decide +kernel
theorem k12082_41 : decode (qc 12082) 41 = .ok (.iload_n 2, 1) := by decide +kernel
theorem k12082_42 : decode (qc 12082) 42 = .ok (.bipush 12, 2) := by decide +kernel
theorem k12082_44 : decode (qc 12082) 44 = .ok (.if_icmp .gt 194, 3) := by decide +kernel
theorem k12082_47 : decode (qc 12082) 47 = .ok (.iconst 1, 1) := by decide +kernel
theorem k12082_48 : decode (qc 12082) 48 = .ok (.istore_n 3, 1) := by decide +kernel
theorem k12082_49 : decode (qc 12082) 49 = .ok (.iload_n 3, 1) := by decide +kernel
theorem k12082_50 : decode (qc 12082) 50 = .ok (.ifCond .eq 182, 3) := by decide +kernel
theorem k12082_53 : decode (qc 12082) 53 = .ok (.iconst 0, 1) := by decide +kernel
theorem k12082_54 : decode (qc 12082) 54 = .ok (.istore_n 3, 1) := by decide +kernel
theorem k12082_55 : decode (qc 12082) 55 = .ok (.iconst 0, 1) := by decide +kernel
theorem k12082_56 : decode (qc 12082) 56 = .ok (.istore 4, 2) := by decide +kernel
theorem k12082_58 : decode (qc 12082) 58 = .ok (.iload 4, 2) := by decide +kernel
theorem k12082_60 : decode (qc 12082) 60 = .ok (.ldc 69, 2) := by decide +kernel
theorem k12082_62 : decode (qc 12082) 62 = .ok (.if_icmp .ge 167, 3) := by decide +kernel
theorem k12082_65 : decode (qc 12082) 65 = .ok (.aload_n 0, 1) := by decide +kernel
theorem k12082_66 : decode (qc 12082) 66 = .ok (.getfield 73, 3) := by decide +kernel
theorem k12082_69 : decode (qc 12082) 69 = .ok (.iload 4, 2) := by decide +kernel
theorem k12082_71 : decode (qc 12082) 71 = .ok (.iaload, 1) := by decide +kernel
theorem k12082_72 : decode (qc 12082) 72 = .ok (.iload_n 2, 1) := by decide +kernel
theorem k12082_73 : decode (qc 12082) 73 = .ok (.if_icmp .ne 150, 3) := by decide +kernel
theorem k12082_76 : decode (qc 12082) 76 = .ok (.aload_n 0, 1) := by decide +kernel
theorem k12082_77 : decode (qc 12082) 77 = .ok (.getfield 70, 3) := by decide +kernel
theorem k12082_80 : decode (qc 12082) 80 = .ok (.iload 4, 2) := by decide +kernel
theorem k12082_82 : decode (qc 12082) 82 = .ok (.iaload, 1) := by decide +kernel
theorem k12082_83 : decode (qc 12082) 83 = .ok (.iconst (-1), 1) := by decide +kernel
theorem k12082_84 : decode (qc 12082) 84 = .ok (.if_icmp .ne 139, 3) := by decide +kernel
theorem k12082_87 : decode (qc 12082) 87 = .ok (.aload_n 0, 1) := by decide +kernel
theorem k12082_88 : decode (qc 12082) 88 = .ok (.getfield 70, 3) := by decide +kernel
theorem k12082_91 : decode (qc 12082) 91 = .ok (.iload 4, 2) := by decide +kernel
theorem k12082_93 : decode (qc 12082) 93 = .ok (.iload_n 2, 1) := by decide +kernel
theorem k12082_94 : decode (qc 12082) 94 = .ok (.iastore, 1) := by decide +kernel
theorem k12082_95 : decode (qc 12082) 95 = .ok (.aload_n 0, 1) := by decide +kernel
theorem k12082_96 : decode (qc 12082) 96 = .ok (.iload 4, 2) := by decide +kernel
theorem k12082_98 : decode (qc 12082) 98 = .ok (.invokevirtual 402, 3) := by decide +kernel
theorem k12082_101 : decode (qc 12082) 101 = .ok (.aload_n 0, 1) := by decide +kernel
theorem k12082_102 : decode (qc 12082) 102 = .ok (.getfield 369, 3) := by decide +kernel
theorem k12082_105 : decode (qc 12082) 105 = .ok (.iconst 1, 1) := by decide +kernel
theorem k12082_106 : decode (qc 12082) 106 = .ok (.aload_n 0, 1) := by decide +kernel
theorem k12082_107 : decode (qc 12082) 107 = .ok (.getfield 295, 3) := by decide +kernel
theorem k12082_110 : decode (qc 12082) 110 = .ok (.ishl, 1) := by decide +kernel
theorem k12082_111 : decode (qc 12082) 111 = .ok (.iconst 1, 1) := by decide +kernel
theorem k12082_112 : decode (qc 12082) 112 = .ok (.isub, 1) := by decide +kernel
theorem k12082_113 : decode (qc 12082) 113 = .ok (.if_icmp .ne 5, 3) := by decide +kernel
theorem k12082_116 : decode (qc 12082) 116 = .ok (.iload_n 2, 1) := by decide +kernel
theorem k12082_117 : decode (qc 12082) 117 = .ok (.ireturn, 1) := by decide +kernel
theorem k12082_118 : decode (qc 12082) 118 = .ok (.aload_n 0, 1) := by decide +kernel
theorem k12082_119 : decode (qc 12082) 119 = .ok (.iload_n 1, 1) := by decide +kernel
theorem k12082_120 : decode (qc 12082) 120 = .ok (.iconst (-1), 1) := by decide +kernel
theorem k12082_121 : decode (qc 12082) 121 = .ok (.invokevirtual 407, 3) := by decide +kernel
theorem k12082_124 : decode (qc 12082) 124 = .ok (.iconst 0, 1) := by decide +kernel
theorem k12082_125 : decode (qc 12082) 125 = .ok (.istore 5, 2) := by decide +kernel
theorem k12082_127 : decode (qc 12082) 127 = .ok (.iload 5, 2) := by decide +kernel
theorem k12082_129 : decode (qc 12082) 129 = .ok (.aload_n 0, 1) := by decide +kernel
theorem k12082_130 : decode (qc 12082) 130 = .ok (.getfield 381, 3) := by decide +kernel
theorem k12082_133 : decode (qc 12082) 133 = .ok (.if_icmp .ge 90, 3) := by decide +kernel
theorem k12082_136 : decode (qc 12082) 136 = .ok (.aload_n 0, 1) := by decide +kernel
theorem k12082_137 : decode (qc 12082) 137 = .ok (.getfield 73, 3) := by decide +kernel
theorem k12082_140 : decode (qc 12082) 140 = .ok (.aload_n 0, 1) := by decide +kernel
theorem k12082_141 : decode (qc 12082) 141 = .ok (.getfield 79, 3) := by decide +kernel
theorem k12082_144 : decode (qc 12082) 144 = .ok (.iload 5, 2) := by decide +kernel
theorem k12082_146 : decode (qc 12082) 146 = .ok (.iaload, 1) := by decide +kernel
theorem k12082_147 : decode (qc 12082) 147 = .ok (.iaload, 1) := by decide +kernel
theorem k12082_148 : decode (qc 12082) 148 = .ok (.iconst (-1), 1) := by decide +kernel
theorem k12082_149 : decode (qc 12082) 149 = .ok (.if_icmp .eq 27, 3) := by decide +kernel
theorem k12082_152 : decode (qc 12082) 152 = .ok (.aload_n 0, 1) := by decide +kernel
theorem k12082_153 : decode (qc 12082) 153 = .ok (.getfield 73, 3) := by decide +kernel
theorem k12082_156 : decode (qc 12082) 156 = .ok (.aload_n 0, 1) := by decide +kernel
theorem k12082_157 : decode (qc 12082) 157 = .ok (.getfield 79, 3) := by decide +kernel
theorem k12082_160 : decode (qc 12082) 160 = .ok (.iload 5, 2) := by decide +kernel
theorem k12082_162 : decode (qc 12082) 162 = .ok (.iaload, 1) := by decide +kernel
theorem k12082_163 : decode (qc 12082) 163 = .ok (.iaload, 1) := by decide +kernel
theorem k12082_164 : decode (qc 12082) 164 = .ok (.iload_n 2, 1) := by decide +kernel
theorem k12082_165 : decode (qc 12082) 165 = .ok (.aload_n 0, 1) := by decide +kernel
theorem k12082_166 : decode (qc 12082) 166 = .ok (.getfield 85, 3) := by decide +kernel
theorem k12082_169 : decode (qc 12082) 169 = .ok (.iload 5, 2) := by decide +kernel
theorem k12082_171 : decode (qc 12082) 171 = .ok (.iaload, 1) := by decide +kernel
theorem k12082_172 : decode (qc 12082) 172 = .ok (.iadd, 1) := by decide +kernel
theorem k12082_173 : decode (qc 12082) 173 = .ok (.if_icmp .le 44, 3) := by decide +kernel
theorem k12082_176 : decode (qc 12082) 176 = .ok (.aload_n 0, 1) := by decide +kernel
theorem k12082_177 : decode (qc 12082) 177 = .ok (.getfield 73, 3) := by decide +kernel
theorem k12082_180 : decode (qc 12082) 180 = .ok (.aload_n 0, 1) := by decide +kernel
theorem k12082_181 : decode (qc 12082) 181 = .ok (.getfield 79, 3) := by decide +kernel
theorem k12082_184 : decode (qc 12082) 184 = .ok (.iload 5, 2) := by decide +kernel
theorem k12082_186 : decode (qc 12082) 186 = .ok (.iaload, 1) := by decide +kernel
theorem k12082_187 : decode (qc 12082) 187 = .ok (.iload_n 2, 1) := by decide +kernel
theorem k12082_188 : decode (qc 12082) 188 = .ok (.aload_n 0, 1) := by decide +kernel
theorem k12082_189 : decode (qc 12082) 189 = .ok (.getfield 85, 3) := by decide +kernel
theorem k12082_192 : decode (qc 12082) 192 = .ok (.iload 5, 2) := by decide +kernel
theorem k12082_194 : decode (qc 12082) 194 = .ok (.iaload, 1) := by decide +kernel
theorem k12082_195 : decode (qc 12082) 195 = .ok (.iadd, 1) := by decide +kernel
theorem k12082_196 : decode (qc 12082) 196 = .ok (.iastore, 1) := by decide +kernel
theorem k12082_197 : decode (qc 12082) 197 = .ok (.iload_n 3, 1) := by decide +kernel
theorem k12082_198 : decode (qc 12082) 198 = .ok (.ifCond .ne 13, 3) := by decide +kernel
theorem k12082_201 : decode (qc 12082) 201 = .ok (.aload_n 0, 1) := by decide +kernel
theorem k12082_202 : decode (qc 12082) 202 = .ok (.getfield 85, 3) := by decide +kernel
theorem k12082_205 : decode (qc 12082) 205 = .ok (.iload 5, 2) := by decide +kernel
theorem k12082_207 : decode (qc 12082) 207 = .ok (.iaload, 1) := by decide +kernel
theorem k12082_208 : decode (qc 12082) 208 = .ok (.ifCond .ne 7, 3) := by decide +kernel
theorem k12082_211 : decode (qc 12082) 211 = .ok (.iconst 1, 1) := by decide +kernel
theorem k12082_212 : decode (qc 12082) 212 = .ok (.goto 4, 3) := by decide +kernel
theorem k12082_215 : decode (qc 12082) 215 = .ok (.iconst 0, 1) := by decide +kernel
theorem k12082_216 : decode (qc 12082) 216 = .ok (.istore_n 3, 1) := by decide +kernel
theorem k12082_217 : decode (qc 12082) 217 = .ok (.iinc 5 1, 3) := by decide +kernel
theorem k12082_220 : decode (qc 12082) 220 = .ok (.goto (-93), 3) := by decide +kernel
theorem k12082_223 : decode (qc 12082) 223 = .ok (.iinc 4 1, 3) := by decide +kernel
theorem k12082_226 : decode (qc 12082) 226 = .ok (.goto (-168), 3) := by decide +kernel
theorem k12082_229 : decode (qc 12082) 229 = .ok (.goto (-180), 3) := by decide +kernel
theorem k12082_232 : decode (qc 12082) 232 = .ok (.iinc 2 1, 3) := by decide +kernel
theorem k12082_235 : decode (qc 12082) 235 = .ok (.goto (-194), 3) := by decide +kernel
theorem k12082_238 : decode (qc 12082) 238 = .ok (.iconst (-1), 1) := by decide +kernel
theorem k12082_239 : decode (qc 12082) 239 = .ok (.ireturn, 1) := by decide +kernel
theorem k12083_0 : decode (qc 12083) 0 = .ok (.aload_n 0, 1) := by decide +kernel
theorem k12083_1 : decode (qc 12083) 1 = .ok (.getfield 289, 3) := by decide +kernel
theorem k12083_4 : decode (qc 12083) 4 = .ok (.ifCond .le 23, 3) := by decide +kernel
theorem k12083_7 : decode (qc 12083) 7 = .ok (.aload_n 0, 1) := by decide +kernel
theorem k12083_8 : decode (qc 12083) 8 = .ok (.getfield 289, 3) := by decide +kernel
theorem k12083_11 : decode (qc 12083) 11 = .ok (.iconst 3, 1) := by decide +kernel
theorem k12083_12 : decode (qc 12083) 12 = .ok (.if_icmp .gt 15, 3) := by decide +kernel
theorem k12083_15 : decode (qc 12083) 15 = .ok (.aload_n 0, 1) := by decide +kernel
theorem k12083_16 : decode (qc 12083) 16 = .ok (.getfield 286, 3) := by decide +kernel
theorem k12083_19 : decode (qc 12083) 19 = .ok (.iconst 5, 1) := by decide +kernel
theorem k12083_20 : decode (qc 12083) 20 = .ok (.if_icmp .gt 7, 3) := by decide +kernel
theorem k12083_23 : decode (qc 12083) 23 = .ok (.iconst 1, 1) := by decide +kernel
theorem k12083_24 : decode (qc 12083) 24 = .ok (.goto 4, 3) := by decide +kernel
theorem k12083_27 : decode (qc 12083) 27 = .ok (.iconst 0, 1) := by decide +kernel
theorem k12083_28 : decode (qc 12083) 28 = .ok (.ireturn, 1) := by decide +kernel
theorem k12084_0 : decode (qc 12084) 0 = .ok (.aload_n 0, 1) := by decide +kernel
theorem k12084_1 : decode (qc 12084) 1 = .ok (.invokevirtual 412, 3) := by decide +kernel
theorem k12084_4 : decode (qc 12084) 4 = .ok (.ifCond .ne 7, 3) := by decide +kernel
theorem k12084_7 : decode (qc 12084) 7 = .ok (.ldc_w 317, 3) := by decide +kernel
theorem k12084_10 : decode (qc 12084) 10 = .ok (.ireturn, 1) := by decide +kernel
theorem k12084_11 : decode (qc 12084) 11 = .ok (.aload_n 0, 1) := by decide +kernel
theorem k12084_12 : decode (qc 12084) 12 = .ok (.iload_n 1, 1) := by decide +kernel
theorem k12084_13 : decode (qc 12084) 13 = .ok (.invokevirtual 314, 3) := by decide +kernel
theorem k12084_16 : decode (qc 12084) 16 = .ok (.ifCond .eq 12, 3) := by decide +kernel
theorem k12084_19 : decode (qc 12084) 19 = .ok (.iload_n 2, 1) := by decide +kernel
theorem k12084_20 : decode (qc 12084) 20 = .ok (.iconst 0, 1) := by decide +kernel
theorem k12084_21 : decode (qc 12084) 21 = .ok (.iconst 2, 1) := by decide +kernel
theorem k12084_22 : decode (qc 12084) 22 = .ok (.invokestatic 231, 3) := by decide +kernel
theorem k12084_25 : decode (qc 12084) 25 = .ok (.ifCond .ne 5, 3) := by decide +kernel
theorem k12084_28 : decode (qc 12084) 28 = .ok (.iconst (-1), 1) := by decide +kernel
theorem k12084_29 : decode (qc 12084) 29 = .ok (.ireturn, 1) := by decide +kernel
theorem k12084_30 : decode (qc 12084) 30 = .ok (.iload_n 2, 1) := by decide +kernel
theorem k12084_31 : decode (qc 12084) 31 = .ok (.iconst 2, 1) := by decide +kernel
theorem k12084_32 : decode (qc 12084) 32 = .ok (.if_icmp .ne 9, 3) := by decide +kernel
theorem k12084_35 : decode (qc 12084) 35 = .ok (.aload_n 0, 1) := by decide +kernel
theorem k12084_36 : decode (qc 12084) 36 = .ok (.iload_n 1, 1) := by decide +kernel
theorem k12084_37 : decode (qc 12084) 37 = .ok (.invokevirtual 415, 3) := by decide +kernel
theorem k12084_40 : decode (qc 12084) 40 = .ok (.ireturn, 1) := by decide +kernel
theorem k12084_41 : decode (qc 12084) 41 = .ok (.aload_n 0, 1) := by decide +kernel
theorem k12084_42 : decode (qc 12084) 42 = .ok (.iload_n 1, 1) := by decide +kernel
theorem k12084_43 : decode (qc 12084) 43 = .ok (.iconst (-1), 1) := by decide +kernel
theorem k12084_44 : decode (qc 12084) 44 = .ok (.invokevirtual 418, 3) := by decide +kernel
theorem k12084_47 : decode (qc 12084) 47 = .ok (.iload_n 2, 1) := by decide +kernel
theorem k12084_48 : decode (qc 12084) 48 = .ok (.ifCond .ne 10, 3) := by decide +kernel
theorem k12084_51 : decode (qc 12084) 51 = .ok (.aload_n 0, 1) := by decide +kernel
theorem k12084_52 : decode (qc 12084) 52 = .ok (.getfield 396, 3) := by decide +kernel
theorem k12084_55 : decode (qc 12084) 55 = .ok (.goto 7, 3) := by decide +kernel
theorem k12084_58 : decode (qc 12084) 58 = .ok (.aload_n 0, 1) := by decide +kernel
theorem k12084_59 : decode (qc 12084) 59 = .ok (.getfield 399, 3) := by decide +kernel
theorem k12084_62 : decode (qc 12084) 62 = .ok (.ireturn, 1) := by decide +kernel
theorem k12085_0 : decode (qc 12085) 0 = .ok (.aload_n 0, 1) := by decide +kernel
theorem k12085_1 : decode (qc 12085) 1 = .ok (.iload_n 1, 1) := by decide +kernel
theorem k12085_2 : decode (qc 12085) 2 = .ok (.invokevirtual 314, 3) := by decide +kernel
theorem k12085_5 : decode (qc 12085) 5 = .ok (.ifCond .ne 5, 3) := by decide +kernel
theorem k12085_8 : decode (qc 12085) 8 = .ok (.iconst (-1), 1) := by decide +kernel
theorem k12085_9 : decode (qc 12085) 9 = .ok (.ireturn, 1) := by decide +kernel
theorem k12085_10 : decode (qc 12085) 10 = .ok (.iconst 0, 1) := by decide +kernel
theorem k12085_11 : decode (qc 12085) 11 = .ok (.istore_n 2, 1) := by decide +kernel
theorem k12085_12 : decode (qc 12085) 12 = .ok (.iconst 0, 1) := by decide +kernel
theorem k12085_13 : decode (qc 12085) 13 = .ok (.istore_n 3, 1) := by decide +kernel
theorem k12085_14 : decode (qc 12085) 14 = .ok (.iload_n 3, 1) := by decide +kernel
theorem k12085_15 : decode (qc 12085) 15 = .ok (.aload_n 0, 1) := by decide +kernel
theorem k12085_16 : decode (qc 12085) 16 = .ok (.getfield 289, 3) := by decide +kernel
theorem k12085_19 : decode (qc 12085) 19 = .ok (.if_icmp .ge 26, 3) := by decide +kernel
theorem k12085_22 : decode (qc 12085) 22 = .ok (.iload_n 2, 1) := by decide +kernel
theorem k12085_23 : decode (qc 12085) 23 = .ok (.aload_n 0, 1) := by decide +kernel
theorem k12085_24 : decode (qc 12085) 24 = .ok (.iload_n 1, 1) := by decide +kernel
theorem k12085_25 : decode (qc 12085) 25 = .ok (.iload_n 3, 1) := by decide +kernel
theorem k12085_26 : decode (qc 12085) 26 = .ok (.invokevirtual 324, 3) := by decide +kernel
theorem k12085_29 : decode (qc 12085) 29 = .ok (.ifCond .eq 7, 3) := by decide +kernel
theorem k12085_32 : decode (qc 12085) 32 = .ok (.iconst 1, 1) := by decide +kernel
theorem k12085_33 : decode (qc 12085) 33 = .ok (.goto 4, 3) := by decide +kernel
theorem k12085_36 : decode (qc 12085) 36 = .ok (.iconst 0, 1) := by decide +kernel
theorem k12085_37 : decode (qc 12085) 37 = .ok (.iadd, 1) := by decide +kernel
theorem k12085_38 : decode (qc 12085) 38 = .ok (.istore_n 2, 1) := by decide +kernel
theorem k12085_39 : decode (qc 12085) 39 = .ok (.iinc 3 1, 3) := by decide +kernel
theorem k12085_42 : decode (qc 12085) 42 = .ok (.goto (-28), 3) := by decide +kernel
theorem k12085_45 : decode (qc 12085) 45 = .ok (.iconst 0, 1) := by decide +kernel
theorem k12085_46 : decode (qc 12085) 46 = .ok (.istore_n 3, 1) := by decide +kernel
theorem k12085_47 : decode (qc 12085) 47 = .ok (.iconst 0, 1) := by decide +kernel
theorem k12085_48 : decode (qc 12085) 48 = .ok (.istore 4, 2) := by decide +kernel
theorem k12085_50 : decode (qc 12085) 50 = .ok (.iload 4, 2) := by decide +kernel
theorem k12085_52 : decode (qc 12085) 52 = .ok (.aload_n 0, 1) := by decide +kernel
theorem k12085_53 : decode (qc 12085) 53 = .ok (.getfield 295, 3) := by decide +kernel
theorem k12085_56 : decode (qc 12085) 56 = .ok (.if_icmp .ge 63, 3) := by decide +kernel
theorem k12085_59 : decode (qc 12085) 59 = .ok (.aload_n 0, 1) := by decide +kernel
theorem k12085_60 : decode (qc 12085) 60 = .ok (.getfield 43, 3) := by decide +kernel
theorem k12085_63 : decode (qc 12085) 63 = .ok (.iload 4, 2) := by decide +kernel
theorem k12085_65 : decode (qc 12085) 65 = .ok (.iconst 3, 1) := by decide +kernel
theorem k12085_66 : decode (qc 12085) 66 = .ok (.invokestatic 251, 3) := by decide +kernel
theorem k12085_69 : decode (qc 12085) 69 = .ok (.iaload, 1) := by decide +kernel
theorem k12085_70 : decode (qc 12085) 70 = .ok (.istore 5, 2) := by decide +kernel
theorem k12085_72 : decode (qc 12085) 72 = .ok (.iload_n 3, 1) := by decide +kernel
theorem k12085_73 : decode (qc 12085) 73 = .ok (.iload_n 2, 1) := by decide +kernel
theorem k12085_74 : decode (qc 12085) 74 = .ok (.aload_n 0, 1) := by decide +kernel
theorem k12085_75 : decode (qc 12085) 75 = .ok (.getfield 43, 3) := by decide +kernel
theorem k12085_78 : decode (qc 12085) 78 = .ok (.iload 4, 2) := by decide +kernel
theorem k12085_80 : decode (qc 12085) 80 = .ok (.iconst 1, 1) := by decide +kernel
theorem k12085_81 : decode (qc 12085) 81 = .ok (.invokestatic 251, 3) := by decide +kernel
theorem k12085_84 : decode (qc 12085) 84 = .ok (.iaload, 1) := by decide +kernel
theorem k12085_85 : decode (qc 12085) 85 = .ok (.if_icmp .lt 18, 3) := by decide +kernel
theorem k12085_88 : decode (qc 12085) 88 = .ok (.iload 5, 2) := by decide +kernel
theorem k12085_90 : decode (qc 12085) 90 = .ok (.iconst (-1), 1) := by decide +kernel
theorem k12085_91 : decode (qc 12085) 91 = .ok (.if_icmp .eq 19, 3) := by decide +kernel
theorem k12085_94 : decode (qc 12085) 94 = .ok (.iload_n 3, 1) := by decide +kernel
theorem k12085_95 : decode (qc 12085) 95 = .ok (.iload 5, 2) := by decide +kernel
theorem k12085_97 : decode (qc 12085) 97 = .ok (.invokestatic 263, 3) := by decide +kernel
theorem k12085_100 : decode (qc 12085) 100 = .ok (.ifCond .eq 10, 3) := by decide +kernel
theorem k12085_103 : decode (qc 12085) 103 = .ok (.iconst 1, 1) := by decide +kernel
theorem k12085_104 : decode (qc 12085) 104 = .ok (.iload 4, 2) := by decide +kernel
theorem k12085_106 : decode (qc 12085) 106 = .ok (.ishl, 1) := by decide +kernel
theorem k12085_107 : decode (qc 12085) 107 = .ok (.goto 4, 3) := by decide +kernel
theorem k12085_110 : decode (qc 12085) 110 = .ok (.iconst 0, 1) := by decide +kernel
theorem k12085_111 : decode (qc 12085) 111 = .ok (.ior, 1) := by decide +kernel
theorem k12085_112 : decode (qc 12085) 112 = .ok (.istore_n 3, 1) := by decide +kernel
theorem k12085_113 : decode (qc 12085) 113 = .ok (.iinc 4 1, 3) := by decide +kernel
theorem k12085_116 : decode (qc 12085) 116 = .ok (.goto (-66), 3) := by decide +kernel
theorem k12085_119 : decode (qc 12085) 119 = .ok (.iload_n 3, 1) := by decide +kernel
theorem k12085_120 : decode (qc 12085) 120 = .ok (.ireturn, 1) := by decide +kernel
theorem k12086_0 : decode (qc 12086) 0 = .ok (.aload_n 0, 1) := by decide +kernel
theorem k12086_1 : decode (qc 12086) 1 = .ok (.invokevirtual 412, 3) := by decide +kernel
theorem k12086_4 : decode (qc 12086) 4 = .ok (.ifCond .ne 7, 3) := by decide +kernel
theorem k12086_7 : decode (qc 12086) 7 = .ok (.ldc_w 317, 3) := by decide +kernel
theorem k12086_10 : decode (qc 12086) 10 = .ok (.ireturn, 1) := by decide +kernel
theorem k12086_11 : decode (qc 12086) 11 = .ok (.aload_n 0, 1) := by decide +kernel
theorem k12086_12 : decode (qc 12086) 12 = .ok (.iload_n 1, 1) := by decide +kernel
theorem k12086_13 : decode (qc 12086) 13 = .ok (.invokevirtual 314, 3) := by decide +kernel
theorem k12086_16 : decode (qc 12086) 16 = .ok (.ifCond .eq 11, 3) := by decide +kernel
theorem k12086_19 : decode (qc 12086) 19 = .ok (.aload_n 0, 1) := by decide +kernel
theorem k12086_20 : decode (qc 12086) 20 = .ok (.iload_n 2, 1) := by decide +kernel
theorem k12086_21 : decode (qc 12086) 21 = .ok (.invokevirtual 311, 3) := by decide +kernel
theorem k12086_24 : decode (qc 12086) 24 = .ok (.ifCond .ne 5, 3) := by decide +kernel
theorem k12086_27 : decode (qc 12086) 27 = .ok (.iconst (-1), 1) := by decide +kernel
theorem k12086_28 : decode (qc 12086) 28 = .ok (.ireturn, 1) := by decide +kernel
theorem k12086_29 : decode (qc 12086) 29 = .ok (.aload_n 0, 1) := by decide +kernel
theorem k12086_30 : decode (qc 12086) 30 = .ok (.iload_n 1, 1) := by decide +kernel
theorem k12086_31 : decode (qc 12086) 31 = .ok (.iload_n 2, 1) := by decide +kernel
theorem k12086_32 : decode (qc 12086) 32 = .ok (.invokevirtual 418, 3) := by decide +kernel
theorem k12086_35 : decode (qc 12086) 35 = .ok (.aload_n 0, 1) := by decide +kernel
theorem k12086_36 : decode (qc 12086) 36 = .ok (.getfield 396, 3) := by decide +kernel
theorem k12086_39 : decode (qc 12086) 39 = .ok (.ireturn, 1) := by decide +kernel
theorem k12087_0 : decode (qc 12087) 0 = .ok (.aload_n 0, 1) := by decide +kernel
theorem k12087_1 : decode (qc 12087) 1 = .ok (.invokevirtual 412, 3) := by decide +kernel
theorem k12087_4 : decode (qc 12087) 4 = .ok (.ifCond .ne 7, 3) := by decide +kernel
theorem k12087_7 : decode (qc 12087) 7 = .ok (.ldc_w 317, 3) := by decide +kernel
theorem k12087_10 : decode (qc 12087) 10 = .ok (.ireturn, 1) := by decide +kernel
theorem k12087_11 : decode (qc 12087) 11 = .ok (.aload_n 0, 1) := by decide +kernel
theorem k12087_12 : decode (qc 12087) 12 = .ok (.iload_n 1, 1) := by decide +kernel
theorem k12087_13 : decode (qc 12087) 13 = .ok (.invokevirtual 314, 3) := by decide +kernel
theorem k12087_16 : decode (qc 12087) 16 = .ok (.ifCond .ne 5, 3) := by decide +kernel
theorem k12087_19 : decode (qc 12087) 19 = .ok (.iconst (-1), 1) := by decide +kernel
theorem k12087_20 : decode (qc 12087) 20 = .ok (.ireturn, 1) := by decide +kernel
theorem k12087_21 : decode (qc 12087) 21 = .ok (.aload_n 0, 1) := by decide +kernel
theorem k12087_22 : decode (qc 12087) 22 = .ok (.iload_n 1, 1) := by decide +kernel
theorem k12087_23 : decode (qc 12087) 23 = .ok (.iconst (-1), 1) := by decide +kernel
theorem k12087_24 : decode (qc 12087) 24 = .ok (.invokevirtual 418, 3) := by decide +kernel
theorem k12087_27 : decode (qc 12087) 27 = .ok (.aload_n 0, 1) := by decide +kernel
theorem k12087_28 : decode (qc 12087) 28 = .ok (.getfield 396, 3) := by decide +kernel
theorem k12087_31 : decode (qc 12087) 31 = .ok (.iconst (-1), 1) := by decide +kernel
theorem k12087_32 : decode (qc 12087) 32 = .ok (.if_icmp .ne 5, 3) := by decide +kernel
theorem k12087_35 : decode (qc 12087) 35 = .ok (.iconst (-1), 1) := by decide +kernel
theorem k12087_36 : decode (qc 12087) 36 = .ok (.ireturn, 1) := by decide +kernel
theorem k12087_37 : decode (qc 12087) 37 = .ok (.iconst (-1), 1) := by decide +kernel
theorem k12087_38 : decode (qc 12087) 38 = .ok (.istore_n 2, 1) := by decide +kernel
theorem k12087_39 : decode (qc 12087) 39 = .ok (.iconst 0, 1) := by decide +kernel
theorem k12087_40 : decode (qc 12087) 40 = .ok (.istore_n 3, 1) := by decide +kernel
theorem k12087_41 : decode (qc 12087) 41 = .ok (.iconst 0, 1) := by decide +kernel
theorem k12087_42 : decode (qc 12087) 42 = .ok (.istore 4, 2) := by decide +kernel
theorem k12087_44 : decode (qc 12087) 44 = .ok (.iload 4, 2) := by decide +kernel
theorem k12087_46 : decode (qc 12087) 46 = .ok (.aload_n 0, 1) := by decide +kernel
theorem k12087_47 : decode (qc 12087) 47 = .ok (.getfield 289, 3) := by decide +kernel
theorem k12087_50 : decode (qc 12087) 50 = .ok (.if_icmp .ge 53, 3) := by decide +kernel
theorem k12087_53 : decode (qc 12087) 53 = .ok (.aload_n 0, 1) := by decide +kernel
theorem k12087_54 : decode (qc 12087) 54 = .ok (.iload_n 1, 1) := by decide +kernel
theorem k12087_55 : decode (qc 12087) 55 = .ok (.iload 4, 2) := by decide +kernel
theorem k12087_57 : decode (qc 12087) 57 = .ok (.invokevirtual 418, 3) := by decide +kernel
theorem k12087_60 : decode (qc 12087) 60 = .ok (.aload_n 0, 1) := by decide +kernel
theorem k12087_61 : decode (qc 12087) 61 = .ok (.getfield 396, 3) := by decide +kernel
theorem k12087_64 : decode (qc 12087) 64 = .ok (.iconst (-1), 1) := by decide +kernel
theorem k12087_65 : decode (qc 12087) 65 = .ok (.if_icmp .ne 9, 3) := by decide +kernel
theorem k12087_68 : decode (qc 12087) 68 = .ok (.sipush 1000, 3) := by decide +kernel
theorem k12087_71 : decode (qc 12087) 71 = .ok (.goto 7, 3) := by decide +kernel
theorem k12087_74 : decode (qc 12087) 74 = .ok (.aload_n 0, 1) := by decide +kernel
theorem k12087_75 : decode (qc 12087) 75 = .ok (.getfield 396, 3) := by decide +kernel
theorem k12087_78 : decode (qc 12087) 78 = .ok (.istore 5, 2) := by decide +kernel
theorem k12087_80 : decode (qc 12087) 80 = .ok (.iload_n 2, 1) := by decide +kernel
theorem k12087_81 : decode (qc 12087) 81 = .ok (.iconst (-1), 1) := by decide +kernel
theorem k12087_82 : decode (qc 12087) 82 = .ok (.if_icmp .eq 9, 3) := by decide +kernel
theorem k12087_85 : decode (qc 12087) 85 = .ok (.iload 5, 2) := by decide +kernel
theorem k12087_87 : decode (qc 12087) 87 = .ok (.iload_n 3, 1) := by decide +kernel
theorem k12087_88 : decode (qc 12087) 88 = .ok (.if_icmp .le 9, 3) := by decide +kernel
theorem k12087_91 : decode (qc 12087) 91 = .ok (.iload 4, 2) := by decide +kernel
theorem k12087_93 : decode (qc 12087) 93 = .ok (.istore_n 2, 1) := by decide +kernel
theorem k12087_94 : decode (qc 12087) 94 = .ok (.iload 5, 2) := by decide +kernel
theorem k12087_96 : decode (qc 12087) 96 = .ok (.istore_n 3, 1) := by decide +kernel
theorem k12087_97 : decode (qc 12087) 97 = .ok (.iinc 4 1, 3) := by decide +kernel
theorem k12087_100 : decode (qc 12087) 100 = .ok (.goto (-56), 3) := by decide +kernel
theorem k12087_103 : decode (qc 12087) 103 = .ok (.iload_n 2, 1) := by decide +kernel
theorem k12087_104 : decode (qc 12087) 104 = .ok (.ireturn, 1) := by decide +kernel
theorem k12088_0 : decode (qc 12088) 0 = .ok (.bipush 6, 2) := by decide +kernel
theorem k12088_2 : decode (qc 12088) 2 = .ok (.iload_n 0, 1) := by decide +kernel
theorem k12088_3 : decode (qc 12088) 3 = .ok (.imul, 1) := by decide +kernel
theorem k12088_4 : decode (qc 12088) 4 = .ok (.iload_n 1, 1) := by decide +kernel
theorem k12088_5 : decode (qc 12088) 5 = .ok (.iadd, 1) := by decide +kernel
theorem k12088_6 : decode (qc 12088) 6 = .ok (.sipush 243, 3) := by decide +kernel
theorem k12088_9 : decode (qc 12088) 9 = .ok (.imul, 1) := by decide +kernel
theorem k12088_10 : decode (qc 12088) 10 = .ok (.iload_n 2, 1) := by decide +kernel
theorem k12088_11 : decode (qc 12088) 11 = .ok (.iadd, 1) := by decide +kernel
theorem k12088_12 : decode (qc 12088) 12 = .ok (.ireturn, 1) := by decide +kernel
theorem k12089_0 : decode (qc 12089) 0 = .ok (.iload_n 2, 1) := by decide +kernel
theorem k12089_1 : decode (qc 12089) 1 = .ok (.ifCond .eq 7, 3) := by decide +kernel
theorem k12089_4 : decode (qc 12089) 4 = .ok (.iload_n 3, 1) := by decide +kernel
theorem k12089_5 : decode (qc 12089) 5 = .ok (.goto 5, 3) := by decide +kernel
theorem k12089_8 : decode (qc 12089) 8 = .ok (.iload 4, 2) := by decide +kernel
theorem k12089_10 : decode (qc 12089) 10 = .ok (.istore 6, 2) := by decide +kernel
theorem k12089_12 : decode (qc 12089) 12 = .ok (.aload_n 0, 1) := by decide +kernel
theorem k12089_13 : decode (qc 12089) 13 = .ok (.iconst 0, 1) := by decide +kernel
theorem k12089_14 : decode (qc 12089) 14 = .ok (.putfield 359, 3) := by decide +kernel
theorem k12089_17 : decode (qc 12089) 17 = .ok (.aload_n 0, 1) := by decide +kernel
theorem k12089_18 : decode (qc 12089) 18 = .ok (.getfield 91, 3) := by decide +kernel
theorem k12089_21 : decode (qc 12089) 21 = .ok (.iload_n 3, 1) := by decide +kernel
theorem k12089_22 : decode (qc 12089) 22 = .ok (.iload 4, 2) := by decide +kernel
theorem k12089_24 : decode (qc 12089) 24 = .ok (.iload 5, 2) := by decide +kernel
theorem k12089_26 : decode (qc 12089) 26 = .ok (.invokestatic 421, 3) := by decide +kernel
theorem k12089_29 : decode (qc 12089) 29 = .ok (.iaload, 1) := by decide +kernel
theorem k12089_30 : decode (qc 12089) 30 = .ok (.istore 7, 2) := by decide +kernel
theorem k12089_32 : decode (qc 12089) 32 = .ok (.iconst 1, 1) := by decide +kernel
theorem k12089_33 : decode (qc 12089) 33 = .ok (.istore 8, 2) := by decide +kernel
theorem k12089_35 : decode (qc 12089) 35 = .ok (.iload 8, 2) := by decide +kernel
theorem k12089_37 : decode (qc 12089) 37 = .ok (.iconst 3, 1) := by decide +kernel
theorem k12089_38 : decode (qc 12089) 38 = .ok (.aload_n 0, 1) := by decide +kernel
theorem k12089_39 : decode (qc 12089) 39 = .ok (.getfield 289, 3) := by decide +kernel
theorem k12089_42 : decode (qc 12089) 42 = .ok (.iadd, 1) := by decide +kernel
theorem k12089_43 : decode (qc 12089) 43 = .ok (.if_icmp .ge 241, 3) := by decide +kernel
theorem k12089_46 : decode (qc 12089) 46 = .ok (.iconst (-1), 1) := by decide +kernel
theorem k12089_47 : decode (qc 12089) 47 = .ok (.istore 9, 2) := by decide +kernel
theorem k12089_49 : decode (qc 12089) 49 = .ok (.iload 8, 2) := by decide +kernel
theorem k12089_51 : decode (qc 12089) 51 = .ok (.iconst 1, 1) := by decide +kernel
theorem k12089_52 : decode (qc 12089) 52 = .ok (.if_icmp .ne 46, 3) := by decide +kernel
theorem k12089_55 : decode (qc 12089) 55 = .ok (.iload 6, 2) := by decide +kernel
theorem k12089_57 : decode (qc 12089) 57 = .ok (.iconst 1, 1) := by decide +kernel
theorem k12089_58 : decode (qc 12089) 58 = .ok (.iadd, 1) := by decide +kernel
theorem k12089_59 : decode (qc 12089) 59 = .ok (.aload_n 0, 1) := by decide +kernel
theorem k12089_60 : decode (qc 12089) 60 = .ok (.getfield 286, 3) := by decide +kernel
theorem k12089_63 : decode (qc 12089) 63 = .ok (.if_icmp .ge 35, 3) := by decide +kernel
theorem k12089_66 : decode (qc 12089) 66 = .ok (.iload_n 2, 1) := by decide +kernel
theorem k12089_67 : decode (qc 12089) 67 = .ok (.ifCond .eq 16, 3) := by decide +kernel
theorem k12089_70 : decode (qc 12089) 70 = .ok (.iload_n 3, 1) := by decide +kernel
theorem k12089_71 : decode (qc 12089) 71 = .ok (.iconst 1, 1) := by decide +kernel
theorem k12089_72 : decode (qc 12089) 72 = .ok (.iadd, 1) := by decide +kernel
theorem k12089_73 : decode (qc 12089) 73 = .ok (.iload 4, 2) := by decide +kernel
theorem k12089_75 : decode (qc 12089) 75 = .ok (.iload 5, 2) := by decide +kernel
theorem k12089_77 : decode (qc 12089) 77 = .ok (.invokestatic 421, 3) := by decide +kernel
theorem k12089_80 : decode (qc 12089) 80 = .ok (.goto 13, 3) := by decide +kernel
theorem k12089_83 : decode (qc 12089) 83 = .ok (.iload_n 3, 1) := by decide +kernel
theorem k12089_84 : decode (qc 12089) 84 = .ok (.iload 4, 2) := by decide +kernel
theorem k12089_86 : decode (qc 12089) 86 = .ok (.iconst 1, 1) := by decide +kernel
theorem k12089_87 : decode (qc 12089) 87 = .ok (.iadd, 1) := by decide +kernel
theorem k12089_88 : decode (qc 12089) 88 = .ok (.iload 5, 2) := by decide +kernel
theorem k12089_90 : decode (qc 12089) 90 = .ok (.invokestatic 421, 3) := by decide +kernel
theorem k12089_93 : decode (qc 12089) 93 = .ok (.istore 9, 2) := by decide +kernel
theorem k12089_95 : decode (qc 12089) 95 = .ok (.goto 131, 3) := by decide +kernel
theorem k12089_98 : decode (qc 12089) 98 = .ok (.iload 8, 2) := by decide +kernel
theorem k12089_100 : decode (qc 12089) 100 = .ok (.iconst 2, 1) := by decide +kernel
theorem k12089_101 : decode (qc 12089) 101 = .ok (.if_icmp .ne 40, 3) := by decide +kernel
theorem k12089_104 : decode (qc 12089) 104 = .ok (.iload 6, 2) := by decide +kernel
theorem k12089_106 : decode (qc 12089) 106 = .ok (.ifCond .le 35, 3) := by decide +kernel
theorem k12089_109 : decode (qc 12089) 109 = .ok (.iload_n 2, 1) := by decide +kernel
theorem k12089_110 : decode (qc 12089) 110 = .ok (.ifCond .eq 16, 3) := by decide +kernel
theorem k12089_113 : decode (qc 12089) 113 = .ok (.iload_n 3, 1) := by decide +kernel
theorem k12089_114 : decode (qc 12089) 114 = .ok (.iconst 1, 1) := by decide +kernel
theorem k12089_115 : decode (qc 12089) 115 = .ok (.isub, 1) := by decide +kernel
theorem k12089_116 : decode (qc 12089) 116 = .ok (.iload 4, 2) := by decide +kernel
theorem k12089_118 : decode (qc 12089) 118 = .ok (.iload 5, 2) := by decide +kernel
theorem k12089_120 : decode (qc 12089) 120 = .ok (.invokestatic 421, 3) := by decide +kernel
theorem k12089_123 : decode (qc 12089) 123 = .ok (.goto 13, 3) := by decide +kernel
theorem k12089_126 : decode (qc 12089) 126 = .ok (.iload_n 3, 1) := by decide +kernel
theorem k12089_127 : decode (qc 12089) 127 = .ok (.iload 4, 2) := by decide +kernel
theorem k12089_129 : decode (qc 12089) 129 = .ok (.iconst 1, 1) := by decide +kernel
theorem k12089_130 : decode (qc 12089) 130 = .ok (.isub, 1) := by decide +kernel
theorem k12089_131 : decode (qc 12089) 131 = .ok (.iload 5, 2) := by decide +kernel
theorem k12089_133 : decode (qc 12089) 133 = .ok (.invokestatic 421, 3) := by decide +kernel
theorem k12089_136 : decode (qc 12089) 136 = .ok (.istore 9, 2) := by decide +kernel
theorem k12089_138 : decode (qc 12089) 138 = .ok (.goto 88, 3) := by decide +kernel
theorem k12089_141 : decode (qc 12089) 141 = .ok (.iload 8, 2) := by decide +kernel
theorem k12089_143 : decode (qc 12089) 143 = .ok (.iconst 2, 1) := by decide +kernel
theorem k12089_144 : decode (qc 12089) 144 = .ok (.if_icmp .le 82, 3) := by decide +kernel
theorem k12089_147 : decode (qc 12089) 147 = .ok (.aload_n 0, 1) := by decide +kernel
theorem k12089_148 : decode (qc 12089) 148 = .ok (.getfield 43, 3) := by decide +kernel
theorem k12089_151 : decode (qc 12089) 151 = .ok (.iload 8, 2) := by decide +kernel
theorem k12089_153 : decode (qc 12089) 153 = .ok (.iconst 3, 1) := by decide +kernel
theorem k12089_154 : decode (qc 12089) 154 = .ok (.isub, 1) := by decide +kernel
theorem k12089_155 : decode (qc 12089) 155 = .ok (.iconst 0, 1) := by decide +kernel
theorem k12089_156 : decode (qc 12089) 156 = .ok (.invokestatic 238, 3) := by decide +kernel
theorem k12089_159 : decode (qc 12089) 159 = .ok (.iaload, 1) := by decide +kernel
theorem k12089_160 : decode (qc 12089) 160 = .ok (.iload 6, 2) := by decide +kernel
theorem k12089_162 : decode (qc 12089) 162 = .ok (.if_icmp .ne 64, 3) := by decide +kernel
theorem k12089_165 : decode (qc 12089) 165 = .ok (.aload_n 0, 1) := by decide +kernel
theorem k12089_166 : decode (qc 12089) 166 = .ok (.iload_n 1, 1) := by decide +kernel
theorem k12089_167 : decode (qc 12089) 167 = .ok (.iload 8, 2) := by decide +kernel
theorem k12089_169 : decode (qc 12089) 169 = .ok (.iconst 3, 1) := by decide +kernel
theorem k12089_170 : decode (qc 12089) 170 = .ok (.isub, 1) := by decide +kernel
theorem k12089_171 : decode (qc 12089) 171 = .ok (.invokevirtual 324, 3) := by decide +kernel
theorem k12089_174 : decode (qc 12089) 174 = .ok (.ifCond .eq 52, 3) := by decide +kernel
theorem k12089_177 : decode (qc 12089) 177 = .ok (.iload 5, 2) := by decide +kernel
theorem k12089_179 : decode (qc 12089) 179 = .ok (.aload_n 0, 1) := by decide +kernel
theorem k12089_180 : decode (qc 12089) 180 = .ok (.getfield 94, 3) := by decide +kernel
theorem k12089_183 : decode (qc 12089) 183 = .ok (.iload 8, 2) := by decide +kernel
theorem k12089_185 : decode (qc 12089) 185 = .ok (.iconst 3, 1) := by decide +kernel
theorem k12089_186 : decode (qc 12089) 186 = .ok (.isub, 1) := by decide +kernel
theorem k12089_187 : decode (qc 12089) 187 = .ok (.iaload, 1) := by decide +kernel
theorem k12089_188 : decode (qc 12089) 188 = .ok (.idiv, 1) := by decide +kernel
theorem k12089_189 : decode (qc 12089) 189 = .ok (.iconst 3, 1) := by decide +kernel
theorem k12089_190 : decode (qc 12089) 190 = .ok (.irem, 1) := by decide +kernel
theorem k12089_191 : decode (qc 12089) 191 = .ok (.istore 10, 2) := by decide +kernel
theorem k12089_193 : decode (qc 12089) 193 = .ok (.iload_n 3, 1) := by decide +kernel
theorem k12089_194 : decode (qc 12089) 194 = .ok (.iload 4, 2) := by decide +kernel
theorem k12089_196 : decode (qc 12089) 196 = .ok (.iload 5, 2) := by decide +kernel
theorem k12089_198 : decode (qc 12089) 198 = .ok (.iload_n 2, 1) := by decide +kernel
theorem k12089_199 : decode (qc 12089) 199 = .ok (.ifCond .eq 7, 3) := by decide +kernel
theorem k12089_202 : decode (qc 12089) 202 = .ok (.iconst 1, 1) := by decide +kernel
theorem k12089_203 : decode (qc 12089) 203 = .ok (.goto 4, 3) := by decide +kernel
theorem k12089_206 : decode (qc 12089) 206 = .ok (.iconst 2, 1) := by decide +kernel
theorem k12089_207 : decode (qc 12089) 207 = .ok (.iload 10, 2) := by decide +kernel
theorem k12089_209 : decode (qc 12089) 209 = .ok (.isub, 1) := by decide +kernel
theorem k12089_210 : decode (qc 12089) 210 = .ok (.aload_n 0, 1) := by decide +kernel
theorem k12089_211 : decode (qc 12089) 211 = .ok (.getfield 94, 3) := by decide +kernel
theorem k12089_214 : decode (qc 12089) 214 = .ok (.iload 8, 2) := by decide +kernel
theorem k12089_216 : decode (qc 12089) 216 = .ok (.iconst 3, 1) := by decide +kernel
theorem k12089_217 : decode (qc 12089) 217 = .ok (.isub, 1) := by decide +kernel
theorem k12089_218 : decode (qc 12089) 218 = .ok (.iaload, 1) := by decide +kernel
theorem k12089_219 : decode (qc 12089) 219 = .ok (.imul, 1) := by decide +kernel
theorem k12089_220 : decode (qc 12089) 220 = .ok (.iadd, 1) := by decide +kernel
theorem k12089_221 : decode (qc 12089) 221 = .ok (.invokestatic 421, 3) := by decide +kernel
theorem k12089_224 : decode (qc 12089) 224 = .ok (.istore 9, 2) := by decide +kernel
theorem k12089_226 : decode (qc 12089) 226 = .ok (.iload 9, 2) := by decide +kernel
theorem k12089_228 : decode (qc 12089) 228 = .ok (.iconst (-1), 1) := by decide +kernel
theorem k12089_229 : decode (qc 12089) 229 = .ok (.if_icmp .eq 49, 3) := by decide +kernel
theorem k12089_232 : decode (qc 12089) 232 = .ok (.iload_n 2, 1) := by decide +kernel
theorem k12089_233 : decode (qc 12089) 233 = .ok (.ifCond .eq 18, 3) := by decide +kernel
theorem k12089_236 : decode (qc 12089) 236 = .ok (.aload_n 0, 1) := by decide +kernel
theorem k12089_237 : decode (qc 12089) 237 = .ok (.getfield 91, 3) := by decide +kernel
theorem k12089_240 : decode (qc 12089) 240 = .ok (.iload 9, 2) := by decide +kernel
theorem k12089_242 : decode (qc 12089) 242 = .ok (.iaload, 1) := by decide +kernel
theorem k12089_243 : decode (qc 12089) 243 = .ok (.iload 7, 2) := by decide +kernel
theorem k12089_245 : decode (qc 12089) 245 = .ok (.if_icmp .le 33, 3) := by decide +kernel
theorem k12089_248 : decode (qc 12089) 248 = .ok (.goto 15, 3) := by decide +kernel
theorem k12089_251 : decode (qc 12089) 251 = .ok (.aload_n 0, 1) := by decide +kernel
theorem k12089_252 : decode (qc 12089) 252 = .ok (.getfield 91, 3) := by decide +kernel
theorem k12089_255 : decode (qc 12089) 255 = .ok (.iload 9, 2) := by decide +kernel
theorem k12089_257 : decode (qc 12089) 257 = .ok (.iaload, 1) := by decide +kernel
theorem k12089_258 : decode (qc 12089) 258 = .ok (.iload 7, 2) := by decide +kernel
theorem k12089_260 : decode (qc 12089) 260 = .ok (.if_icmp .ge 18, 3) := by decide +kernel
theorem k12089_263 : decode (qc 12089) 263 = .ok (.aload_n 0, 1) := by decide +kernel
theorem k12089_264 : decode (qc 12089) 264 = .ok (.getfield 91, 3) := by decide +kernel
theorem k12089_267 : decode (qc 12089) 267 = .ok (.iload 9, 2) := by decide +kernel
theorem k12089_269 : decode (qc 12089) 269 = .ok (.iaload, 1) := by decide +kernel
theorem k12089_270 : decode (qc 12089) 270 = .ok (.istore 7, 2) := by decide +kernel
theorem k12089_272 : decode (qc 12089) 272 = .ok (.aload_n 0, 1) := by decide +kernel
theorem k12089_273 : decode (qc 12089) 273 = .ok (.iload 8, 2) := by decide +kernel
theorem k12089_275 : decode (qc 12089) 275 = .ok (.putfield 359, 3) := by decide +kernel
theorem k12089_278 : decode (qc 12089) 278 = .ok (.iinc 8 1, 3) := by decide +kernel
theorem k12089_281 : decode (qc 12089) 281 = .ok (.goto (-246), 3) := by decide +kernel
theorem k12089_284 : decode (qc 12089) 284 = .ok (.iload 7, 2) := by decide +kernel
theorem k12089_286 : decode (qc 12089) 286 = .ok (.ireturn, 1) := by decide +kernel
theorem k12090_0 : decode (qc 12090) 0 = .ok (.aload_n 0, 1) := by decide +kernel
theorem k12090_1 : decode (qc 12090) 1 = .ok (.iload_n 1, 1) := by decide +kernel
theorem k12090_2 : decode (qc 12090) 2 = .ok (.invokevirtual 314, 3) := by decide +kernel
theorem k12090_5 : decode (qc 12090) 5 = .ok (.ifCond .eq 36, 3) := by decide +kernel
theorem k12090_8 : decode (qc 12090) 8 = .ok (.aload_n 0, 1) := by decide +kernel
theorem k12090_9 : decode (qc 12090) 9 = .ok (.iload_n 2, 1) := by decide +kernel
theorem k12090_10 : decode (qc 12090) 10 = .ok (.invokevirtual 314, 3) := by decide +kernel
theorem k12090_13 : decode (qc 12090) 13 = .ok (.ifCond .eq 28, 3) := by decide +kernel
theorem k12090_16 : decode (qc 12090) 16 = .ok (.iload_n 1, 1) := by decide +kernel
theorem k12090_17 : decode (qc 12090) 17 = .ok (.iload_n 2, 1) := by decide +kernel
theorem k12090_18 : decode (qc 12090) 18 = .ok (.if_icmp .eq 23, 3) := by decide +kernel
theorem k12090_21 : decode (qc 12090) 21 = .ok (.iload_n 3, 1) := by decide +kernel
theorem k12090_22 : decode (qc 12090) 22 = .ok (.iconst 1, 1) := by decide +kernel
theorem k12090_23 : decode (qc 12090) 23 = .ok (.bipush 8, 2) := by decide +kernel
theorem k12090_25 : decode (qc 12090) 25 = .ok (.invokestatic 231, 3) := by decide +kernel
theorem k12090_28 : decode (qc 12090) 28 = .ok (.ifCond .eq 13, 3) := by decide +kernel
theorem k12090_31 : decode (qc 12090) 31 = .ok (.iload 4, 2) := by decide +kernel
theorem k12090_33 : decode (qc 12090) 33 = .ok (.iconst 0, 1) := by decide +kernel
theorem k12090_34 : decode (qc 12090) 34 = .ok (.iconst 1, 1) := by decide +kernel
theorem k12090_35 : decode (qc 12090) 35 = .ok (.invokestatic 231, 3) := by decide +kernel
theorem k12090_38 : decode (qc 12090) 38 = .ok (.ifCond .ne 7, 3) := by decide +kernel
theorem k12090_41 : decode (qc 12090) 41 = .ok (.ldc_w 317, 3) := by decide +kernel
theorem k12090_44 : decode (qc 12090) 44 = .ok (.ireturn, 1) := by decide +kernel
theorem k12090_45 : decode (qc 12090) 45 = .ok (.iconst 1, 1) := by decide +kernel
theorem k12090_46 : decode (qc 12090) 46 = .ok (.istore 5, 2) := by decide +kernel
theorem k12090_48 : decode (qc 12090) 48 = .ok (.iconst 0, 1) := by decide +kernel
theorem k12090_49 : decode (qc 12090) 49 = .ok (.istore 6, 2) := by decide +kernel
theorem k12090_51 : decode (qc 12090) 51 = .ok (.iload 6, 2) := by decide +kernel
theorem k12090_53 : decode (qc 12090) 53 = .ok (.aload_n 0, 1) := by decide +kernel
theorem k12090_54 : decode (qc 12090) 54 = .ok (.getfield 289, 3) := by decide +kernel
theorem k12090_57 : decode (qc 12090) 57 = .ok (.if_icmp .ge 15, 3) := by decide +kernel
theorem k12090_60 : decode (qc 12090) 60 = .ok (.iload 5, 2) := by decide +kernel
theorem k12090_62 : decode (qc 12090) 62 = .ok (.iconst 3, 1) := by decide +kernel
theorem k12090_63 : decode (qc 12090) 63 = .ok (.imul, 1) := by decide +kernel
theorem k12090_64 : decode (qc 12090) 64 = .ok (.istore 5, 2) := by decide +kernel
theorem k12090_66 : decode (qc 12090) 66 = .ok (.iinc 6 1, 3) := by decide +kernel
theorem k12090_69 : decode (qc 12090) 69 = .ok (.goto (-18), 3) := by decide +kernel
theorem k12090_72 : decode (qc 12090) 72 = .ok (.iconst 0, 1) := by decide +kernel
theorem k12090_73 : decode (qc 12090) 73 = .ok (.istore 6, 2) := by decide +kernel
theorem k12090_75 : decode (qc 12090) 75 = .ok (.iload 6, 2) := by decide +kernel
theorem k12090_77 : decode (qc 12090) 77 = .ok (.aload_n 0, 1) := by decide +kernel
theorem k12090_78 : decode (qc 12090) 78 = .ok (.getfield 286, 3) := by decide +kernel
theorem k12090_81 : decode (qc 12090) 81 = .ok (.if_icmp .ge 120, 3) := by decide +kernel
theorem k12090_84 : decode (qc 12090) 84 = .ok (.iconst 0, 1) := by decide +kernel
theorem k12090_85 : decode (qc 12090) 85 = .ok (.istore 7, 2) := by decide +kernel
theorem k12090_87 : decode (qc 12090) 87 = .ok (.iload 7, 2) := by decide +kernel
theorem k12090_89 : decode (qc 12090) 89 = .ok (.aload_n 0, 1) := by decide +kernel
theorem k12090_90 : decode (qc 12090) 90 = .ok (.getfield 286, 3) := by decide +kernel
theorem k12090_93 : decode (qc 12090) 93 = .ok (.if_icmp .ge 102, 3) := by decide +kernel
theorem k12090_96 : decode (qc 12090) 96 = .ok (.iconst 0, 1) := by decide +kernel
theorem k12090_97 : decode (qc 12090) 97 = .ok (.istore 8, 2) := by decide +kernel
theorem k12090_99 : decode (qc 12090) 99 = .ok (.iload 8, 2) := by decide +kernel
theorem k12090_101 : decode (qc 12090) 101 = .ok (.iload 5, 2) := by decide +kernel
theorem k12090_103 : decode (qc 12090) 103 = .ok (.if_icmp .ge 86, 3) := by decide +kernel
theorem k12090_106 : decode (qc 12090) 106 = .ok (.iconst 0, 1) := by decide +kernel
theorem k12090_107 : decode (qc 12090) 107 = .ok (.istore 9, 2) := by decide +kernel
theorem k12090_109 : decode (qc 12090) 109 = .ok (.iconst 0, 1) := by decide +kernel
theorem k12090_110 : decode (qc 12090) 110 = .ok (.istore 10, 2) := by decide +kernel
theorem k12090_112 : decode (qc 12090) 112 = .ok (.iload 10, 2) := by decide +kernel
theorem k12090_114 : decode (qc 12090) 114 = .ok (.aload_n 0, 1) := by decide +kernel
theorem k12090_115 : decode (qc 12090) 115 = .ok (.getfield 289, 3) := by decide +kernel
theorem k12090_118 : decode (qc 12090) 118 = .ok (.if_icmp .ge 49, 3) := by decide +kernel
theorem k12090_121 : decode (qc 12090) 121 = .ok (.iload 8, 2) := by decide +kernel
theorem k12090_123 : decode (qc 12090) 123 = .ok (.aload_n 0, 1) := by decide +kernel
theorem k12090_124 : decode (qc 12090) 124 = .ok (.getfield 94, 3) := by decide +kernel
theorem k12090_127 : decode (qc 12090) 127 = .ok (.iload 10, 2) := by decide +kernel
theorem k12090_129 : decode (qc 12090) 129 = .ok (.iaload, 1) := by decide +kernel
theorem k12090_130 : decode (qc 12090) 130 = .ok (.idiv, 1) := by decide +kernel
theorem k12090_131 : decode (qc 12090) 131 = .ok (.iconst 3, 1) := by decide +kernel
theorem k12090_132 : decode (qc 12090) 132 = .ok (.irem, 1) := by decide +kernel
theorem k12090_133 : decode (qc 12090) 133 = .ok (.istore 11, 2) := by decide +kernel
theorem k12090_135 : decode (qc 12090) 135 = .ok (.iload 9, 2) := by decide +kernel
theorem k12090_137 : decode (qc 12090) 137 = .ok (.iload 11, 2) := by decide +kernel
theorem k12090_139 : decode (qc 12090) 139 = .ok (.iconst 1, 1) := by decide +kernel
theorem k12090_140 : decode (qc 12090) 140 = .ok (.if_icmp .ne 7, 3) := by decide +kernel
theorem k12090_143 : decode (qc 12090) 143 = .ok (.iconst 1, 1) := by decide +kernel
theorem k12090_144 : decode (qc 12090) 144 = .ok (.goto 14, 3) := by decide +kernel
theorem k12090_147 : decode (qc 12090) 147 = .ok (.iload 11, 2) := by decide +kernel
theorem k12090_149 : decode (qc 12090) 149 = .ok (.iconst 2, 1) := by decide +kernel
theorem k12090_150 : decode (qc 12090) 150 = .ok (.if_icmp .ne 7, 3) := by decide +kernel
theorem k12090_153 : decode (qc 12090) 153 = .ok (.iconst (-1), 1) := by decide +kernel
theorem k12090_154 : decode (qc 12090) 154 = .ok (.goto 4, 3) := by decide +kernel
theorem k12090_157 : decode (qc 12090) 157 = .ok (.iconst 0, 1) := by decide +kernel
theorem k12090_158 : decode (qc 12090) 158 = .ok (.iadd, 1) := by decide +kernel
theorem k12090_159 : decode (qc 12090) 159 = .ok (.istore 9, 2) := by decide +kernel
theorem k12090_161 : decode (qc 12090) 161 = .ok (.iinc 10 1, 3) := by decide +kernel
theorem k12090_164 : decode (qc 12090) 164 = .ok (.goto (-52), 3) := by decide +kernel
theorem k12090_167 : decode (qc 12090) 167 = .ok (.aload_n 0, 1) := by decide +kernel
theorem k12090_168 : decode (qc 12090) 168 = .ok (.getfield 91, 3) := by decide +kernel
theorem k12090_171 : decode (qc 12090) 171 = .ok (.iload 6, 2) := by decide +kernel
theorem k12090_173 : decode (qc 12090) 173 = .ok (.iload 7, 2) := by decide +kernel
theorem k12090_175 : decode (qc 12090) 175 = .ok (.iload 8, 2) := by decide +kernel
theorem k12090_177 : decode (qc 12090) 177 = .ok (.invokestatic 421, 3) := by decide +kernel
theorem k12090_180 : decode (qc 12090) 180 = .ok (.iload 9, 2) := by decide +kernel
theorem k12090_182 : decode (qc 12090) 182 = .ok (.iastore, 1) := by decide +kernel
theorem k12090_183 : decode (qc 12090) 183 = .ok (.iinc 8 1, 3) := by decide +kernel
theorem k12090_186 : decode (qc 12090) 186 = .ok (.goto (-87), 3) := by decide +kernel
theorem k12090_189 : decode (qc 12090) 189 = .ok (.iinc 7 1, 3) := by decide +kernel
theorem k12090_192 : decode (qc 12090) 192 = .ok (.goto (-105), 3) := by decide +kernel
theorem k12090_195 : decode (qc 12090) 195 = .ok (.iinc 6 1, 3) := by decide +kernel
theorem k12090_198 : decode (qc 12090) 198 = .ok (.goto (-123), 3) := by decide +kernel
theorem k12090_201 : decode (qc 12090) 201 = .ok (.iconst 2, 1) := by decide +kernel
theorem k12090_202 : decode (qc 12090) 202 = .ok (.iload_n 3, 1) := by decide +kernel
theorem k12090_203 : decode (qc 12090) 203 = .ok (.imul, 1) := by decide +kernel
theorem k12090_204 : decode (qc 12090) 204 = .ok (.iconst 1, 1) := by decide +kernel
theorem k12090_205 : decode (qc 12090) 205 = .ok (.isub, 1) := by decide +kernel
theorem k12090_206 : decode (qc 12090) 206 = .ok (.istore 6, 2) := by decide +kernel
theorem k12090_208 : decode (qc 12090) 208 = .ok (.iload 6, 2) := by decide +kernel
theorem k12090_210 : decode (qc 12090) 210 = .ok (.ifCond .le 144, 3) := by decide +kernel
theorem k12090_213 : decode (qc 12090) 213 = .ok (.iload 6, 2) := by decide +kernel
theorem k12090_215 : decode (qc 12090) 215 = .ok (.iconst 2, 1) := by decide +kernel
theorem k12090_216 : decode (qc 12090) 216 = .ok (.irem, 1) := by decide +kernel
theorem k12090_217 : decode (qc 12090) 217 = .ok (.ifCond .ne 7, 3) := by decide +kernel
theorem k12090_220 : decode (qc 12090) 220 = .ok (.iconst 1, 1) := by decide +kernel
theorem k12090_221 : decode (qc 12090) 221 = .ok (.goto 4, 3) := by decide +kernel
theorem k12090_224 : decode (qc 12090) 224 = .ok (.iconst 0, 1) := by decide +kernel
theorem k12090_225 : decode (qc 12090) 225 = .ok (.istore 7, 2) := by decide +kernel
theorem k12090_227 : decode (qc 12090) 227 = .ok (.iconst 0, 1) := by decide +kernel
theorem k12090_228 : decode (qc 12090) 228 = .ok (.istore 8, 2) := by decide +kernel
theorem k12090_230 : decode (qc 12090) 230 = .ok (.iload 8, 2) := by decide +kernel
theorem k12090_232 : decode (qc 12090) 232 = .ok (.aload_n 0, 1) := by decide +kernel
theorem k12090_233 : decode (qc 12090) 233 = .ok (.getfield 286, 3) := by decide +kernel
theorem k12090_236 : decode (qc 12090) 236 = .ok (.if_icmp .ge 79, 3) := by decide +kernel
theorem k12090_239 : decode (qc 12090) 239 = .ok (.iconst 0, 1) := by decide +kernel
theorem k12090_240 : decode (qc 12090) 240 = .ok (.istore 9, 2) := by decide +kernel
theorem k12090_242 : decode (qc 12090) 242 = .ok (.iload 9, 2) := by decide +kernel
theorem k12090_244 : decode (qc 12090) 244 = .ok (.aload_n 0, 1) := by decide +kernel
theorem k12090_245 : decode (qc 12090) 245 = .ok (.getfield 286, 3) := by decide +kernel
theorem k12090_248 : decode (qc 12090) 248 = .ok (.if_icmp .ge 61, 3) := by decide +kernel
theorem k12090_251 : decode (qc 12090) 251 = .ok (.iconst 0, 1) := by decide +kernel
theorem k12090_252 : decode (qc 12090) 252 = .ok (.istore 10, 2) := by decide +kernel
theorem k12090_254 : decode (qc 12090) 254 = .ok (.iload 10, 2) := by decide +kernel
theorem k12090_256 : decode (qc 12090) 256 = .ok (.iload 5, 2) := by decide +kernel
theorem k12090_258 : decode (qc 12090) 258 = .ok (.if_icmp .ge 45, 3) := by decide +kernel
theorem k12090_261 : decode (qc 12090) 261 = .ok (.aload_n 0, 1) := by decide +kernel
theorem k12090_262 : decode (qc 12090) 262 = .ok (.getfield 88, 3) := by decide +kernel
theorem k12090_265 : decode (qc 12090) 265 = .ok (.iload 8, 2) := by decide +kernel
theorem k12090_267 : decode (qc 12090) 267 = .ok (.iload 9, 2) := by decide +kernel
theorem k12090_269 : decode (qc 12090) 269 = .ok (.iload 10, 2) := by decide +kernel
theorem k12090_271 : decode (qc 12090) 271 = .ok (.invokestatic 421, 3) := by decide +kernel
theorem k12090_274 : decode (qc 12090) 274 = .ok (.aload_n 0, 1) := by decide +kernel
theorem k12090_275 : decode (qc 12090) 275 = .ok (.iload 7, 2) := by decide +kernel
theorem k12090_277 : decode (qc 12090) 277 = .ok (.ifCond .eq 7, 3) := by decide +kernel
theorem k12090_280 : decode (qc 12090) 280 = .ok (.iload_n 1, 1) := by decide +kernel
theorem k12090_281 : decode (qc 12090) 281 = .ok (.goto 4, 3) := by decide +kernel
theorem k12090_284 : decode (qc 12090) 284 = .ok (.iload_n 2, 1) := by decide +kernel
theorem k12090_285 : decode (qc 12090) 285 = .ok (.iload 7, 2) := by decide +kernel
theorem k12090_287 : decode (qc 12090) 287 = .ok (.iload 8, 2) := by decide +kernel
theorem k12090_289 : decode (qc 12090) 289 = .ok (.iload 9, 2) := by decide +kernel
theorem k12090_291 : decode (qc 12090) 291 = .ok (.iload 10, 2) := by decide +kernel
theorem k12090_293 : decode (qc 12090) 293 = .ok (.invokevirtual 424, 3) := by decide +kernel
theorem k12090_296 : decode (qc 12090) 296 = .ok (.iastore, 1) := by decide +kernel
theorem k12090_297 : decode (qc 12090) 297 = .ok (.iinc 10 1, 3) := by decide +kernel
theorem k12090_300 : decode (qc 12090) 300 = .ok (.goto (-46), 3) := by decide +kernel
theorem k12090_303 : decode (qc 12090) 303 = .ok (.iinc 9 1, 3) := by decide +kernel
theorem k12090_306 : decode (qc 12090) 306 = .ok (.goto (-64), 3) := by decide +kernel
theorem k12090_309 : decode (qc 12090) 309 = .ok (.iinc 8 1, 3) := by decide +kernel
theorem k12090_312 : decode (qc 12090) 312 = .ok (.goto (-82), 3) := by decide +kernel
theorem k12090_315 : decode (qc 12090) 315 = .ok (.iconst 0, 1) := by decide +kernel
theorem k12090_316 : decode (qc 12090) 316 = .ok (.istore 8, 2) := by decide +kernel
theorem k12090_318 : decode (qc 12090) 318 = .ok (.iload 8, 2) := by decide +kernel
theorem k12090_320 : decode (qc 12090) 320 = .ok (.aload_n 0, 1) := by decide +kernel
theorem k12090_321 : decode (qc 12090) 321 = .ok (.getfield 91, 3) := by decide +kernel
theorem k12090_324 : decode (qc 12090) 324 = .ok (.arraylength, 1) := by decide +kernel
theorem k12090_325 : decode (qc 12090) 325 = .ok (.if_icmp .ge 23, 3) := by decide +kernel
theorem k12090_328 : decode (qc 12090) 328 = .ok (.aload_n 0, 1) := by decide +kernel
theorem k12090_329 : decode (qc 12090) 329 = .ok (.getfield 91, 3) := by decide +kernel
theorem k12090_332 : decode (qc 12090) 332 = .ok (.iload 8, 2) := by decide +kernel
theorem k12090_334 : decode (qc 12090) 334 = .ok (.aload_n 0, 1) := by decide +kernel
theorem k12090_335 : decode (qc 12090) 335 = .ok (.getfield 88, 3) := by decide +kernel
theorem k12090_338 : decode (qc 12090) 338 = .ok (.iload 8, 2) := by decide +kernel
theorem k12090_340 : decode (qc 12090) 340 = .ok (.iaload, 1) := by decide +kernel
theorem k12090_341 : decode (qc 12090) 341 = .ok (.iastore, 1) := by decide +kernel
theorem k12090_342 : decode (qc 12090) 342 = .ok (.iinc 8 1, 3) := by decide +kernel
theorem k12090_345 : decode (qc 12090) 345 = .ok (.goto (-27), 3) := by decide +kernel
theorem k12090_348 : decode (qc 12090) 348 = .ok (.iinc 6 (-1), 3) := by decide +kernel
theorem k12090_351 : decode (qc 12090) 351 = .ok (.goto (-143), 3) := by decide +kernel
theorem k12090_354 : decode (qc 12090) 354 = .ok (.aload_n 0, 1) := by decide +kernel
theorem k12090_355 : decode (qc 12090) 355 = .ok (.iload_n 1, 1) := by decide +kernel
theorem k12090_356 : decode (qc 12090) 356 = .ok (.iconst 1, 1) := by decide +kernel
theorem k12090_357 : decode (qc 12090) 357 = .ok (.aload_n 0, 1) := by decide +kernel
theorem k12090_358 : decode (qc 12090) 358 = .ok (.getfield 43, 3) := by decide +kernel
theorem k12090_361 : decode (qc 12090) 361 = .ok (.iload_n 1, 1) := by decide +kernel
theorem k12090_362 : decode (qc 12090) 362 = .ok (.invokestatic 245, 3) := by decide +kernel
theorem k12090_365 : decode (qc 12090) 365 = .ok (.iaload, 1) := by decide +kernel
theorem k12090_366 : decode (qc 12090) 366 = .ok (.aload_n 0, 1) := by decide +kernel
theorem k12090_367 : decode (qc 12090) 367 = .ok (.getfield 43, 3) := by decide +kernel
theorem k12090_370 : decode (qc 12090) 370 = .ok (.iload_n 2, 1) := by decide +kernel
theorem k12090_371 : decode (qc 12090) 371 = .ok (.invokestatic 245, 3) := by decide +kernel
theorem k12090_374 : decode (qc 12090) 374 = .ok (.iaload, 1) := by decide +kernel
theorem k12090_375 : decode (qc 12090) 375 = .ok (.iconst 0, 1) := by decide +kernel
theorem k12090_376 : decode (qc 12090) 376 = .ok (.invokevirtual 424, 3) := by decide +kernel
theorem k12090_379 : decode (qc 12090) 379 = .ok (.istore 6, 2) := by decide +kernel
theorem k12090_381 : decode (qc 12090) 381 = .ok (.iload 4, 2) := by decide +kernel
theorem k12090_383 : decode (qc 12090) 383 = .ok (.ifCond .ne 8, 3) := by decide +kernel
theorem k12090_386 : decode (qc 12090) 386 = .ok (.iload 6, 2) := by decide +kernel
theorem k12090_388 : decode (qc 12090) 388 = .ok (.goto 7, 3) := by decide +kernel
theorem k12090_391 : decode (qc 12090) 391 = .ok (.aload_n 0, 1) := by decide +kernel
theorem k12090_392 : decode (qc 12090) 392 = .ok (.getfield 359, 3) := by decide +kernel
theorem k12090_395 : decode (qc 12090) 395 = .ok (.ireturn, 1) := by decide +kernel
theorem k12091_0 : decode (qc 12091) 0 = .ok (.aload_n 0, 1) := by decide +kernel
theorem k12091_1 : decode (qc 12091) 1 = .ok (.iload_n 1, 1) := by decide +kernel
theorem k12091_2 : decode (qc 12091) 2 = .ok (.invokevirtual 311, 3) := by decide +kernel
theorem k12091_5 : decode (qc 12091) 5 = .ok (.ifCond .eq 22, 3) := by decide +kernel
theorem k12091_8 : decode (qc 12091) 8 = .ok (.aload_n 0, 1) := by decide +kernel
theorem k12091_9 : decode (qc 12091) 9 = .ok (.iload_n 2, 1) := by decide +kernel
theorem k12091_10 : decode (qc 12091) 10 = .ok (.invokevirtual 314, 3) := by decide +kernel
theorem k12091_13 : decode (qc 12091) 13 = .ok (.ifCond .ne 16, 3) := by decide +kernel
theorem k12091_16 : decode (qc 12091) 16 = .ok (.iload_n 2, 1) := by decide +kernel
theorem k12091_17 : decode (qc 12091) 17 = .ok (.bipush 9, 2) := by decide +kernel
theorem k12091_19 : decode (qc 12091) 19 = .ok (.if_icmp .eq 10, 3) := by decide +kernel
theorem k12091_22 : decode (qc 12091) 22 = .ok (.iload_n 2, 1) := by decide +kernel
theorem k12091_23 : decode (qc 12091) 23 = .ok (.iconst (-1), 1) := by decide +kernel
theorem k12091_24 : decode (qc 12091) 24 = .ok (.if_icmp .eq 5, 3) := by decide +kernel
theorem k12091_27 : decode (qc 12091) 27 = .ok (.iconst 0, 1) := by decide +kernel
theorem k12091_28 : decode (qc 12091) 28 = .ok (.ireturn, 1) := by decide +kernel
theorem k12091_29 : decode (qc 12091) 29 = .ok (.aload_n 0, 1) := by decide +kernel
theorem k12091_30 : decode (qc 12091) 30 = .ok (.getfield 97, 3) := by decide +kernel
theorem k12091_33 : decode (qc 12091) 33 = .ok (.iload_n 1, 1) := by decide +kernel
theorem k12091_34 : decode (qc 12091) 34 = .ok (.iload_n 2, 1) := by decide +kernel
theorem k12091_35 : decode (qc 12091) 35 = .ok (.iastore, 1) := by decide +kernel
theorem k12091_36 : decode (qc 12091) 36 = .ok (.iconst 1, 1) := by decide +kernel
theorem k12091_37 : decode (qc 12091) 37 = .ok (.ireturn, 1) := by decide +kernel
theorem k12092_0 : decode (qc 12092) 0 = .ok (.iconst 0, 1) := by decide +kernel
theorem k12092_1 : decode (qc 12092) 1 = .ok (.istore_n 2, 1) := by decide +kernel
theorem k12092_2 : decode (qc 12092) 2 = .ok (.iload_n 2, 1) := by decide +kernel
theorem k12092_3 : decode (qc 12092) 3 = .ok (.aload_n 0, 1) := by decide +kernel
theorem k12092_4 : decode (qc 12092) 4 = .ok (.getfield 289, 3) := by decide +kernel
theorem k12092_7 : decode (qc 12092) 7 = .ok (.if_icmp .ge 56, 3) := by decide +kernel
theorem k12092_10 : decode (qc 12092) 10 = .ok (.iload_n 1, 1) := by decide +kernel
theorem k12092_11 : decode (qc 12092) 11 = .ok (.iconst 2, 1) := by decide +kernel
theorem k12092_12 : decode (qc 12092) 12 = .ok (.iload_n 2, 1) := by decide +kernel
theorem k12092_13 : decode (qc 12092) 13 = .ok (.imul, 1) := by decide +kernel
theorem k12092_14 : decode (qc 12092) 14 = .ok (.ishr, 1) := by decide +kernel
theorem k12092_15 : decode (qc 12092) 15 = .ok (.iconst 3, 1) := by decide +kernel
theorem k12092_16 : decode (qc 12092) 16 = .ok (.iand, 1) := by decide +kernel
theorem k12092_17 : decode (qc 12092) 17 = .ok (.istore_n 3, 1) := by decide +kernel
theorem k12092_18 : decode (qc 12092) 18 = .ok (.aload_n 0, 1) := by decide +kernel
theorem k12092_19 : decode (qc 12092) 19 = .ok (.getfield 97, 3) := by decide +kernel
theorem k12092_22 : decode (qc 12092) 22 = .ok (.iload_n 2, 1) := by decide +kernel
theorem k12092_23 : decode (qc 12092) 23 = .ok (.iaload, 1) := by decide +kernel
theorem k12092_24 : decode (qc 12092) 24 = .ok (.iconst (-1), 1) := by decide +kernel
theorem k12092_25 : decode (qc 12092) 25 = .ok (.if_icmp .eq 32, 3) := by decide +kernel
theorem k12092_28 : decode (qc 12092) 28 = .ok (.iload_n 3, 1) := by decide +kernel
theorem k12092_29 : decode (qc 12092) 29 = .ok (.aload_n 0, 1) := by decide +kernel
theorem k12092_30 : decode (qc 12092) 30 = .ok (.getfield 97, 3) := by decide +kernel
theorem k12092_33 : decode (qc 12092) 33 = .ok (.iload_n 2, 1) := by decide +kernel
theorem k12092_34 : decode (qc 12092) 34 = .ok (.iaload, 1) := by decide +kernel
theorem k12092_35 : decode (qc 12092) 35 = .ok (.bipush 9, 2) := by decide +kernel
theorem k12092_37 : decode (qc 12092) 37 = .ok (.if_icmp .ne 7, 3) := by decide +kernel
theorem k12092_40 : decode (qc 12092) 40 = .ok (.iconst 0, 1) := by decide +kernel
theorem k12092_41 : decode (qc 12092) 41 = .ok (.goto 11, 3) := by decide +kernel
theorem k12092_44 : decode (qc 12092) 44 = .ok (.aload_n 0, 1) := by decide +kernel
theorem k12092_45 : decode (qc 12092) 45 = .ok (.getfield 97, 3) := by decide +kernel
theorem k12092_48 : decode (qc 12092) 48 = .ok (.iload_n 2, 1) := by decide +kernel
theorem k12092_49 : decode (qc 12092) 49 = .ok (.iaload, 1) := by decide +kernel
theorem k12092_50 : decode (qc 12092) 50 = .ok (.iconst 1, 1) := by decide +kernel
theorem k12092_51 : decode (qc 12092) 51 = .ok (.iadd, 1) := by decide +kernel
theorem k12092_52 : decode (qc 12092) 52 = .ok (.if_icmp .eq 5, 3) := by decide +kernel
theorem k12092_55 : decode (qc 12092) 55 = .ok (.iconst 0, 1) := by decide +kernel
theorem k12092_56 : decode (qc 12092) 56 = .ok (.ireturn, 1) := by decide +kernel
theorem k12092_57 : decode (qc 12092) 57 = .ok (.iinc 2 1, 3) := by decide +kernel
theorem k12092_60 : decode (qc 12092) 60 = .ok (.goto (-58), 3) := by decide +kernel
theorem k12092_63 : decode (qc 12092) 63 = .ok (.iconst 1, 1) := by decide +kernel
theorem k12092_64 : decode (qc 12092) 64 = .ok (.ireturn, 1) := by decide +kernel
theorem k12093_0 : decode (qc 12093) 0 = .ok (.aload_n 0, 1) := by decide +kernel
theorem k12093_1 : decode (qc 12093) 1 = .ok (.getfield 289, 3) := by decide +kernel
theorem k12093_4 : decode (qc 12093) 4 = .ok (.ifCond .eq 13, 3) := by decide +kernel
theorem k12093_7 : decode (qc 12093) 7 = .ok (.iload_n 1, 1) := by decide +kernel
theorem k12093_8 : decode (qc 12093) 8 = .ok (.iconst 0, 1) := by decide +kernel
theorem k12093_9 : decode (qc 12093) 9 = .ok (.bipush 12, 2) := by decide +kernel
theorem k12093_11 : decode (qc 12093) 11 = .ok (.invokestatic 231, 3) := by decide +kernel
theorem k12093_14 : decode (qc 12093) 14 = .ok (.ifCond .ne 7, 3) := by decide +kernel
theorem k12093_17 : decode (qc 12093) 17 = .ok (.ldc2_w 428, 3) := by decide +kernel
theorem k12093_20 : decode (qc 12093) 20 = .ok (.lreturn, 1) := by decide +kernel
theorem k12093_21 : decode (qc 12093) 21 = .ok (.iconst 0, 1) := by decide +kernel
theorem k12093_22 : decode (qc 12093) 22 = .ok (.istore_n 2, 1) := by decide +kernel
theorem k12093_23 : decode (qc 12093) 23 = .ok (.iload_n 2, 1) := by decide +kernel
theorem k12093_24 : decode (qc 12093) 24 = .ok (.sipush 1024, 3) := by decide +kernel
theorem k12093_27 : decode (qc 12093) 27 = .ok (.if_icmp .ge 24, 3) := by decide +kernel
theorem k12093_30 : decode (qc 12093) 30 = .ok (.aload_n 0, 1) := by decide +kernel
theorem k12093_31 : decode (qc 12093) 31 = .ok (.getfield 100, 3) := by decide +kernel
theorem k12093_34 : decode (qc 12093) 34 = .ok (.iload_n 2, 1) := by decide +kernel
theorem k12093_35 : decode (qc 12093) 35 = .ok (.iload_n 2, 1) := by decide +kernel
theorem k12093_36 : decode (qc 12093) 36 = .ok (.ifCond .ne 7, 3) := by decide +kernel
theorem k12093_39 : decode (qc 12093) 39 = .ok (.lconst 1, 1) := by decide +kernel
theorem k12093_40 : decode (qc 12093) 40 = .ok (.goto 4, 3) := by decide +kernel
theorem k12093_43 : decode (qc 12093) 43 = .ok (.lconst 0, 1) := by decide +kernel
theorem k12093_44 : decode (qc 12093) 44 = .ok (.lastore, 1) := by decide +kernel
theorem k12093_45 : decode (qc 12093) 45 = .ok (.iinc 2 1, 3) := by decide +kernel
theorem k12093_48 : decode (qc 12093) 48 = .ok (.goto (-25), 3) := by decide +kernel
theorem k12093_51 : decode (qc 12093) 51 = .ok (.iconst 0, 1) := by decide +kernel
theorem k12093_52 : decode (qc 12093) 52 = .ok (.istore_n 2, 1) := by decide +kernel
theorem k12093_53 : decode (qc 12093) 53 = .ok (.iload_n 2, 1) := by decide +kernel
theorem k12093_54 : decode (qc 12093) 54 = .ok (.iload_n 1, 1) := by decide +kernel
theorem k12093_55 : decode (qc 12093) 55 = .ok (.if_icmp .ge 165, 3) := by decide +kernel
theorem k12093_58 : decode (qc 12093) 58 = .ok (.iconst 0, 1) := by decide +kernel
theorem k12093_59 : decode (qc 12093) 59 = .ok (.istore_n 3, 1) := by decide +kernel
theorem k12093_60 : decode (qc 12093) 60 = .ok (.iload_n 3, 1) := by decide +kernel
theorem k12093_61 : decode (qc 12093) 61 = .ok (.sipush 1024, 3) := by decide +kernel
theorem k12093_64 : decode (qc 12093) 64 = .ok (.if_icmp .ge 16, 3) := by decide +kernel
theorem k12093_67 : decode (qc 12093) 67 = .ok (.aload_n 0, 1) := by decide +kernel
theorem k12093_68 : decode (qc 12093) 68 = .ok (.getfield 104, 3) := by decide +kernel
theorem k12093_71 : decode (qc 12093) 71 = .ok (.iload_n 3, 1) := by decide +kernel
theorem k12093_72 : decode (qc 12093) 72 = .ok (.lconst 0, 1) := by decide +kernel
theorem k12093_73 : decode (qc 12093) 73 = .ok (.lastore, 1) := by decide +kernel
theorem k12093_74 : decode (qc 12093) 74 = .ok (.iinc 3 1, 3) := by decide +kernel
theorem k12093_77 : decode (qc 12093) 77 = .ok (.goto (-17), 3) := by decide +kernel
theorem k12093_80 : decode (qc 12093) 80 = .ok (.iconst 0, 1) := by decide +kernel
theorem k12093_81 : decode (qc 12093) 81 = .ok (.istore_n 3, 1) := by decide +kernel
theorem k12093_82 : decode (qc 12093) 82 = .ok (.iload_n 3, 1) := by decide +kernel
theorem k12093_83 : decode (qc 12093) 83 = .ok (.sipush 1024, 3) := by decide +kernel
theorem k12093_86 : decode (qc 12093) 86 = .ok (.if_icmp .ge 101, 3) := by decide +kernel
theorem k12093_89 : decode (qc 12093) 89 = .ok (.iconst 0, 1) := by decide +kernel
theorem k12093_90 : decode (qc 12093) 90 = .ok (.istore 4, 2) := by decide +kernel
theorem k12093_92 : decode (qc 12093) 92 = .ok (.iload 4, 2) := by decide +kernel
theorem k12093_94 : decode (qc 12093) 94 = .ok (.aload_n 0, 1) := by decide +kernel
theorem k12093_95 : decode (qc 12093) 95 = .ok (.getfield 289, 3) := by decide +kernel
theorem k12093_98 : decode (qc 12093) 98 = .ok (.if_icmp .ge 83, 3) := by decide +kernel
theorem k12093_101 : decode (qc 12093) 101 = .ok (.aload_n 0, 1) := by decide +kernel
theorem k12093_102 : decode (qc 12093) 102 = .ok (.getfield 100, 3) := by decide +kernel
theorem k12093_105 : decode (qc 12093) 105 = .ok (.iload_n 3, 1) := by decide +kernel
theorem k12093_106 : decode (qc 12093) 106 = .ok (.laload, 1) := by decide +kernel
theorem k12093_107 : decode (qc 12093) 107 = .ok (.lconst 0, 1) := by decide +kernel
theorem k12093_108 : decode (qc 12093) 108 = .ok (.lcmp, 1) := by decide +kernel
theorem k12093_109 : decode (qc 12093) 109 = .ok (.ifCond .le 72, 3) := by decide +kernel
theorem k12093_112 : decode (qc 12093) 112 = .ok (.iconst 0, 1) := by decide +kernel
theorem k12093_113 : decode (qc 12093) 113 = .ok (.istore 5, 2) := by decide +kernel
theorem k12093_115 : decode (qc 12093) 115 = .ok (.iload 5, 2) := by decide +kernel
theorem k12093_117 : decode (qc 12093) 117 = .ok (.aload_n 0, 1) := by decide +kernel
theorem k12093_118 : decode (qc 12093) 118 = .ok (.getfield 292, 3) := by decide +kernel
theorem k12093_121 : decode (qc 12093) 121 = .ok (.if_icmp .ge 54, 3) := by decide +kernel
theorem k12093_124 : decode (qc 12093) 124 = .ok (.aload_n 0, 1) := by decide +kernel
theorem k12093_125 : decode (qc 12093) 125 = .ok (.iload 5, 2) := by decide +kernel
theorem k12093_127 : decode (qc 12093) 127 = .ok (.iload 4, 2) := by decide +kernel
theorem k12093_129 : decode (qc 12093) 129 = .ok (.invokevirtual 324, 3) := by decide +kernel
theorem k12093_132 : decode (qc 12093) 132 = .ok (.ifCond .eq 37, 3) := by decide +kernel
theorem k12093_135 : decode (qc 12093) 135 = .ok (.aload_n 0, 1) := by decide +kernel
theorem k12093_136 : decode (qc 12093) 136 = .ok (.getfield 104, 3) := by decide +kernel
theorem k12093_139 : decode (qc 12093) 139 = .ok (.iload_n 3, 1) := by decide +kernel
theorem k12093_140 : decode (qc 12093) 140 = .ok (.iconst 3, 1) := by decide +kernel
theorem k12093_141 : decode (qc 12093) 141 = .ok (.iconst 2, 1) := by decide +kernel
theorem k12093_142 : decode (qc 12093) 142 = .ok (.iload 4, 2) := by decide +kernel
theorem k12093_144 : decode (qc 12093) 144 = .ok (.imul, 1) := by decide +kernel
theorem k12093_145 : decode (qc 12093) 145 = .ok (.ishl, 1) := by decide +kernel
theorem k12093_146 : decode (qc 12093) 146 = .ok (.iconst (-1), 1) := by decide +kernel
theorem k12093_147 : decode (qc 12093) 147 = .ok (.ixor, 1) := by decide +kernel
theorem k12093_148 : decode (qc 12093) 148 = .ok (.iand, 1) := by decide +kernel
theorem k12093_149 : decode (qc 12093) 149 = .ok (.iload 5, 2) := by decide +kernel
theorem k12093_151 : decode (qc 12093) 151 = .ok (.iconst 1, 1) := by decide +kernel
theorem k12093_152 : decode (qc 12093) 152 = .ok (.iadd, 1) := by decide +kernel
theorem k12093_153 : decode (qc 12093) 153 = .ok (.iconst 2, 1) := by decide +kernel
theorem k12093_154 : decode (qc 12093) 154 = .ok (.iload 4, 2) := by decide +kernel
theorem k12093_156 : decode (qc 12093) 156 = .ok (.imul, 1) := by decide +kernel
theorem k12093_157 : decode (qc 12093) 157 = .ok (.ishl, 1) := by decide +kernel
theorem k12093_158 : decode (qc 12093) 158 = .ok (.ior, 1) := by decide +kernel
theorem k12093_159 : decode (qc 12093) 159 = .ok (.dup2, 1) := by decide +kernel
theorem k12093_160 : decode (qc 12093) 160 = .ok (.laload, 1) := by decide +kernel
theorem k12093_161 : decode (qc 12093) 161 = .ok (.aload_n 0, 1) := by decide +kernel
theorem k12093_162 : decode (qc 12093) 162 = .ok (.getfield 100, 3) := by decide +kernel
theorem k12093_165 : decode (qc 12093) 165 = .ok (.iload_n 3, 1) := by decide +kernel
theorem k12093_166 : decode (qc 12093) 166 = .ok (.laload, 1) := by decide +kernel
theorem k12093_167 : decode (qc 12093) 167 = .ok (.ladd, 1) := by decide +kernel
theorem k12093_168 : decode (qc 12093) 168 = .ok (.lastore, 1) := by decide +kernel
theorem k12093_169 : decode (qc 12093) 169 = .ok (.iinc 5 1, 3) := by decide +kernel
theorem k12093_172 : decode (qc 12093) 172 = .ok (.goto (-57), 3) := by decide +kernel
theorem k12093_175 : decode (qc 12093) 175 = .ok (.iinc 4 1, 3) := by decide +kernel
theorem k12093_178 : decode (qc 12093) 178 = .ok (.goto (-86), 3) := by decide +kernel
theorem k12093_181 : decode (qc 12093) 181 = .ok (.iinc 3 1, 3) := by decide +kernel
theorem k12093_184 : decode (qc 12093) 184 = .ok (.goto (-102), 3) := by decide +kernel
theorem k12093_187 : decode (qc 12093) 187 = .ok (.iconst 0, 1) := by decide +kernel
theorem k12093_188 : decode (qc 12093) 188 = .ok (.istore_n 3, 1) := by decide +kernel
theorem k12093_189 : decode (qc 12093) 189 = .ok (.iload_n 3, 1) := by decide +kernel
theorem k12093_190 : decode (qc 12093) 190 = .ok (.sipush 1024, 3) := by decide +kernel
theorem k12093_193 : decode (qc 12093) 193 = .ok (.if_icmp .ge 21, 3) := by decide +kernel
theorem k12093_196 : decode (qc 12093) 196 = .ok (.aload_n 0, 1) := by decide +kernel
theorem k12093_197 : decode (qc 12093) 197 = .ok (.getfield 100, 3) := by decide +kernel
theorem k12093_200 : decode (qc 12093) 200 = .ok (.iload_n 3, 1) := by decide +kernel
theorem k12093_201 : decode (qc 12093) 201 = .ok (.aload_n 0, 1) := by decide +kernel
theorem k12093_202 : decode (qc 12093) 202 = .ok (.getfield 104, 3) := by decide +kernel
theorem k12093_205 : decode (qc 12093) 205 = .ok (.iload_n 3, 1) := by decide +kernel
theorem k12093_206 : decode (qc 12093) 206 = .ok (.laload, 1) := by decide +kernel
theorem k12093_207 : decode (qc 12093) 207 = .ok (.lastore, 1) := by decide +kernel
theorem k12093_208 : decode (qc 12093) 208 = .ok (.iinc 3 1, 3) := by decide +kernel
theorem k12093_211 : decode (qc 12093) 211 = .ok (.goto (-22), 3) := by decide +kernel
theorem k12093_214 : decode (qc 12093) 214 = .ok (.iinc 2 1, 3) := by decide +kernel
theorem k12093_217 : decode (qc 12093) 217 = .ok (.goto (-164), 3) := by decide +kernel
theorem k12093_220 : decode (qc 12093) 220 = .ok (.lconst 0, 1) := by decide +kernel
theorem k12093_221 : decode (qc 12093) 221 = .ok (.lstore_n 2, 1) := by decide +kernel
theorem k12093_222 : decode (qc 12093) 222 = .ok (.iconst 0, 1) := by decide +kernel
theorem k12093_223 : decode (qc 12093) 223 = .ok (.istore 4, 2) := by decide +kernel
theorem k12093_225 : decode (qc 12093) 225 = .ok (.iload 4, 2) := by decide +kernel
theorem k12093_227 : decode (qc 12093) 227 = .ok (.sipush 1024, 3) := by decide +kernel
theorem k12093_230 : decode (qc 12093) 230 = .ok (.if_icmp .ge 44, 3) := by decide +kernel
theorem k12093_233 : decode (qc 12093) 233 = .ok (.lload_n 2, 1) := by decide +kernel
theorem k12093_234 : decode (qc 12093) 234 = .ok (.aload_n 0, 1) := by decide +kernel
theorem k12093_235 : decode (qc 12093) 235 = .ok (.getfield 100, 3) := by decide +kernel
theorem k12093_238 : decode (qc 12093) 238 = .ok (.iload 4, 2) := by decide +kernel
theorem k12093_240 : decode (qc 12093) 240 = .ok (.laload, 1) := by decide +kernel
theorem k12093_241 : decode (qc 12093) 241 = .ok (.lconst 0, 1) := by decide +kernel
theorem k12093_242 : decode (qc 12093) 242 = .ok (.lcmp, 1) := by decide +kernel
theorem k12093_243 : decode (qc 12093) 243 = .ok (.ifCond .le 22, 3) := by decide +kernel
theorem k12093_246 : decode (qc 12093) 246 = .ok (.aload_n 0, 1) := by decide +kernel
theorem k12093_247 : decode (qc 12093) 247 = .ok (.iload 4, 2) := by decide +kernel
theorem k12093_249 : decode (qc 12093) 249 = .ok (.invokevirtual 430, 3) := by decide +kernel
theorem k12093_252 : decode (qc 12093) 252 = .ok (.ifCond .eq 13, 3) := by decide +kernel
theorem k12093_255 : decode (qc 12093) 255 = .ok (.aload_n 0, 1) := by decide +kernel
theorem k12093_256 : decode (qc 12093) 256 = .ok (.getfield 100, 3) := by decide +kernel
theorem k12093_259 : decode (qc 12093) 259 = .ok (.iload 4, 2) := by decide +kernel
theorem k12093_261 : decode (qc 12093) 261 = .ok (.laload, 1) := by decide +kernel
theorem k12093_262 : decode (qc 12093) 262 = .ok (.goto 4, 3) := by decide +kernel
theorem k12093_265 : decode (qc 12093) 265 = .ok (.lconst 0, 1) := by decide +kernel
theorem k12093_266 : decode (qc 12093) 266 = .ok (.ladd, 1) := by decide +kernel
theorem k12093_267 : decode (qc 12093) 267 = .ok (.lstore_n 2, 1) := by decide +kernel
theorem k12093_268 : decode (qc 12093) 268 = .ok (.iinc 4 1, 3) := by decide +kernel
theorem k12093_271 : decode (qc 12093) 271 = .ok (.goto (-46), 3) := by decide +kernel
theorem k12093_274 : decode (qc 12093) 274 = .ok (.lload_n 2, 1) := by decide +kernel
theorem k12093_275 : decode (qc 12093) 275 = .ok (.lreturn, 1) := by decide +kernel
theorem k12094_0 : decode (qc 12094) 0 = .ok (.iconst (-1), 1) := by decide +kernel
theorem k12094_1 : decode (qc 12094) 1 = .ok (.istore_n 1, 1) := by decide +kernel
theorem k12094_2 : decode (qc 12094) 2 = .ok (.iconst 1, 1) := by decide +kernel
theorem k12094_3 : decode (qc 12094) 3 = .ok (.istore_n 2, 1) := by decide +kernel
theorem k12094_4 : decode (qc 12094) 4 = .ok (.iload_n 2, 1) := by decide +kernel
theorem k12094_5 : decode (qc 12094) 5 = .ok (.iconst 1, 1) := by decide +kernel
theorem k12094_6 : decode (qc 12094) 6 = .ok (.aload_n 0, 1) := by decide +kernel
theorem k12094_7 : decode (qc 12094) 7 = .ok (.getfield 292, 3) := by decide +kernel
theorem k12094_10 : decode (qc 12094) 10 = .ok (.ishl, 1) := by decide +kernel
theorem k12094_11 : decode (qc 12094) 11 = .ok (.if_icmp .ge 123, 3) := by decide +kernel
theorem k12094_14 : decode (qc 12094) 14 = .ok (.iconst 1, 1) := by decide +kernel
theorem k12094_15 : decode (qc 12094) 15 = .ok (.istore_n 3, 1) := by decide +kernel
theorem k12094_16 : decode (qc 12094) 16 = .ok (.iconst 0, 1) := by decide +kernel
theorem k12094_17 : decode (qc 12094) 17 = .ok (.istore 4, 2) := by decide +kernel
theorem k12094_19 : decode (qc 12094) 19 = .ok (.iload 4, 2) := by decide +kernel
theorem k12094_21 : decode (qc 12094) 21 = .ok (.aload_n 0, 1) := by decide +kernel
theorem k12094_22 : decode (qc 12094) 22 = .ok (.getfield 289, 3) := by decide +kernel
theorem k12094_25 : decode (qc 12094) 25 = .ok (.if_icmp .ge 77, 3) := by decide +kernel
theorem k12094_28 : decode (qc 12094) 28 = .ok (.iconst 0, 1) := by decide +kernel
theorem k12094_29 : decode (qc 12094) 29 = .ok (.istore 5, 2) := by decide +kernel
theorem k12094_31 : decode (qc 12094) 31 = .ok (.iconst 0, 1) := by decide +kernel
theorem k12094_32 : decode (qc 12094) 32 = .ok (.istore 6, 2) := by decide +kernel
theorem k12094_34 : decode (qc 12094) 34 = .ok (.iload 6, 2) := by decide +kernel
theorem k12094_36 : decode (qc 12094) 36 = .ok (.aload_n 0, 1) := by decide +kernel
theorem k12094_37 : decode (qc 12094) 37 = .ok (.getfield 292, 3) := by decide +kernel
theorem k12094_40 : decode (qc 12094) 40 = .ok (.if_icmp .ge 41, 3) := by decide +kernel
theorem k12094_43 : decode (qc 12094) 43 = .ok (.iload 5, 2) := by decide +kernel
theorem k12094_45 : decode (qc 12094) 45 = .ok (.ifCond .ne 23, 3) := by decide +kernel
theorem k12094_48 : decode (qc 12094) 48 = .ok (.iload_n 2, 1) := by decide +kernel
theorem k12094_49 : decode (qc 12094) 49 = .ok (.iload 6, 2) := by decide +kernel
theorem k12094_51 : decode (qc 12094) 51 = .ok (.invokestatic 263, 3) := by decide +kernel
theorem k12094_54 : decode (qc 12094) 54 = .ok (.ifCond .eq 18, 3) := by decide +kernel
theorem k12094_57 : decode (qc 12094) 57 = .ok (.aload_n 0, 1) := by decide +kernel
theorem k12094_58 : decode (qc 12094) 58 = .ok (.iload 6, 2) := by decide +kernel
theorem k12094_60 : decode (qc 12094) 60 = .ok (.iload 4, 2) := by decide +kernel
theorem k12094_62 : decode (qc 12094) 62 = .ok (.invokevirtual 324, 3) := by decide +kernel
theorem k12094_65 : decode (qc 12094) 65 = .ok (.ifCond .eq 7, 3) := by decide +kernel
theorem k12094_68 : decode (qc 12094) 68 = .ok (.iconst 1, 1) := by decide +kernel
theorem k12094_69 : decode (qc 12094) 69 = .ok (.goto 4, 3) := by decide +kernel
theorem k12094_72 : decode (qc 12094) 72 = .ok (.iconst 0, 1) := by decide +kernel
theorem k12094_73 : decode (qc 12094) 73 = .ok (.istore 5, 2) := by decide +kernel
theorem k12094_75 : decode (qc 12094) 75 = .ok (.iinc 6 1, 3) := by decide +kernel
theorem k12094_78 : decode (qc 12094) 78 = .ok (.goto (-44), 3) := by decide +kernel
theorem k12094_81 : decode (qc 12094) 81 = .ok (.iload_n 3, 1) := by decide +kernel
theorem k12094_82 : decode (qc 12094) 82 = .ok (.ifCond .eq 12, 3) := by decide +kernel
theorem k12094_85 : decode (qc 12094) 85 = .ok (.iload 5, 2) := by decide +kernel
theorem k12094_87 : decode (qc 12094) 87 = .ok (.ifCond .eq 7, 3) := by decide +kernel
theorem k12094_90 : decode (qc 12094) 90 = .ok (.iconst 1, 1) := by decide +kernel
theorem k12094_91 : decode (qc 12094) 91 = .ok (.goto 4, 3) := by decide +kernel
theorem k12094_94 : decode (qc 12094) 94 = .ok (.iconst 0, 1) := by decide +kernel
theorem k12094_95 : decode (qc 12094) 95 = .ok (.istore_n 3, 1) := by decide +kernel
theorem k12094_96 : decode (qc 12094) 96 = .ok (.iinc 4 1, 3) := by decide +kernel
theorem k12094_99 : decode (qc 12094) 99 = .ok (.goto (-80), 3) := by decide +kernel
theorem k12094_102 : decode (qc 12094) 102 = .ok (.iload_n 3, 1) := by decide +kernel
theorem k12094_103 : decode (qc 12094) 103 = .ok (.ifCond .eq 23, 3) := by decide +kernel
theorem k12094_106 : decode (qc 12094) 106 = .ok (.iload_n 1, 1) := by decide +kernel
theorem k12094_107 : decode (qc 12094) 107 = .ok (.iconst (-1), 1) := by decide +kernel
theorem k12094_108 : decode (qc 12094) 108 = .ok (.if_icmp .eq 14, 3) := by decide +kernel
theorem k12094_111 : decode (qc 12094) 111 = .ok (.iload_n 2, 1) := by decide +kernel
theorem k12094_112 : decode (qc 12094) 112 = .ok (.invokestatic 354, 3) := by decide +kernel
theorem k12094_115 : decode (qc 12094) 115 = .ok (.iload_n 1, 1) := by decide +kernel
theorem k12094_116 : decode (qc 12094) 116 = .ok (.invokestatic 354, 3) := by decide +kernel
theorem k12094_119 : decode (qc 12094) 119 = .ok (.if_icmp .ge 7, 3) := by decide +kernel
theorem k12094_122 : decode (qc 12094) 122 = .ok (.iload_n 2, 1) := by decide +kernel
theorem k12094_123 : decode (qc 12094) 123 = .ok (.goto 4, 3) := by decide +kernel
theorem k12094_126 : decode (qc 12094) 126 = .ok (.iload_n 1, 1) := by decide +kernel
theorem k12094_127 : decode (qc 12094) 127 = .ok (.istore_n 1, 1) := by decide +kernel
theorem k12094_128 : decode (qc 12094) 128 = .ok (.iinc 2 1, 3) := by decide +kernel
theorem k12094_131 : decode (qc 12094) 131 = .ok (.goto (-127), 3) := by decide +kernel
theorem k12094_134 : decode (qc 12094) 134 = .ok (.iload_n 1, 1) := by decide +kernel
theorem k12094_135 : decode (qc 12094) 135 = .ok (.ireturn, 1) := by decide +kernel
theorem k12095_0 : decode (qc 12095) 0 = .ok (.aload_n 0, 1) := by decide +kernel
theorem k12095_1 : decode (qc 12095) 1 = .ok (.getfield 298, 3) := by decide +kernel
theorem k12095_4 : decode (qc 12095) 4 = .ok (.ifCond .ne 7, 3) := by decide +kernel
theorem k12095_7 : decode (qc 12095) 7 = .ok (.iconst 0, 1) := by decide +kernel
theorem k12095_8 : decode (qc 12095) 8 = .ok (.goto 16, 3) := by decide +kernel
theorem k12095_11 : decode (qc 12095) 11 = .ok (.aload_n 0, 1) := by decide +kernel
theorem k12095_12 : decode (qc 12095) 12 = .ok (.getfield 56, 3) := by decide +kernel
theorem k12095_15 : decode (qc 12095) 15 = .ok (.aload_n 0, 1) := by decide +kernel
theorem k12095_16 : decode (qc 12095) 16 = .ok (.getfield 298, 3) := by decide +kernel
theorem k12095_19 : decode (qc 12095) 19 = .ok (.iconst 1, 1) := by decide +kernel
theorem k12095_20 : decode (qc 12095) 20 = .ok (.isub, 1) := by decide +kernel
theorem k12095_21 : decode (qc 12095) 21 = .ok (.iaload, 1) := by decide +kernel
theorem k12095_22 : decode (qc 12095) 22 = .ok (.iconst 1, 1) := by decide +kernel
theorem k12095_23 : decode (qc 12095) 23 = .ok (.iadd, 1) := by decide +kernel
theorem k12095_24 : decode (qc 12095) 24 = .ok (.istore 4, 2) := by decide +kernel
theorem k12095_26 : decode (qc 12095) 26 = .ok (.aload_n 0, 1) := by decide +kernel
theorem k12095_27 : decode (qc 12095) 27 = .ok (.getfield 289, 3) := by decide +kernel
theorem k12095_30 : decode (qc 12095) 30 = .ok (.ifCond .eq 36, 3) := by decide +kernel
theorem k12095_33 : decode (qc 12095) 33 = .ok (.iload_n 1, 1) := by decide +kernel
theorem k12095_34 : decode (qc 12095) 34 = .ok (.iconst 1, 1) := by decide +kernel
theorem k12095_35 : decode (qc 12095) 35 = .ok (.bipush 40, 2) := by decide +kernel
theorem k12095_37 : decode (qc 12095) 37 = .ok (.invokestatic 231, 3) := by decide +kernel
theorem k12095_40 : decode (qc 12095) 40 = .ok (.ifCond .eq 26, 3) := by decide +kernel
theorem k12095_43 : decode (qc 12095) 43 = .ok (.aload_n 0, 1) := by decide +kernel
theorem k12095_44 : decode (qc 12095) 44 = .ok (.getfield 298, 3) := by decide +kernel
theorem k12095_47 : decode (qc 12095) 47 = .ok (.iload_n 1, 1) := by decide +kernel
theorem k12095_48 : decode (qc 12095) 48 = .ok (.iadd, 1) := by decide +kernel
theorem k12095_49 : decode (qc 12095) 49 = .ok (.bipush 40, 2) := by decide +kernel
theorem k12095_51 : decode (qc 12095) 51 = .ok (.if_icmp .gt 15, 3) := by decide +kernel
theorem k12095_54 : decode (qc 12095) 54 = .ok (.iload 4, 2) := by decide +kernel
theorem k12095_56 : decode (qc 12095) 56 = .ok (.iload_n 1, 1) := by decide +kernel
theorem k12095_57 : decode (qc 12095) 57 = .ok (.iadd, 1) := by decide +kernel
theorem k12095_58 : decode (qc 12095) 58 = .ok (.iconst 1, 1) := by decide +kernel
theorem k12095_59 : decode (qc 12095) 59 = .ok (.isub, 1) := by decide +kernel
theorem k12095_60 : decode (qc 12095) 60 = .ok (.sipush 999, 3) := by decide +kernel
theorem k12095_63 : decode (qc 12095) 63 = .ok (.if_icmp .le 5, 3) := by decide +kernel
theorem k12095_66 : decode (qc 12095) 66 = .ok (.iconst (-1), 1) := by decide +kernel
theorem k12095_67 : decode (qc 12095) 67 = .ok (.ireturn, 1) := by decide +kernel
theorem k12095_68 : decode (qc 12095) 68 = .ok (.lload_n 2, 1) := by decide +kernel
theorem k12095_69 : decode (qc 12095) 69 = .ok (.lstore 5, 2) := by decide +kernel
theorem k12095_71 : decode (qc 12095) 71 = .ok (.iconst 0, 1) := by decide +kernel
theorem k12095_72 : decode (qc 12095) 72 = .ok (.istore 7, 2) := by decide +kernel
theorem k12095_74 : decode (qc 12095) 74 = .ok (.iload 7, 2) := by decide +kernel
theorem k12095_76 : decode (qc 12095) 76 = .ok (.iload_n 1, 1) := by decide +kernel
theorem k12095_77 : decode (qc 12095) 77 = .ok (.if_icmp .ge 99, 3) := by decide +kernel
theorem k12095_80 : decode (qc 12095) 80 = .ok (.lload 5, 2) := by decide +kernel
theorem k12095_82 : decode (qc 12095) 82 = .ok (.ldc2_w 433, 3) := by decide +kernel
theorem k12095_85 : decode (qc 12095) 85 = .ok (.lmul, 1) := by decide +kernel
theorem k12095_86 : decode (qc 12095) 86 = .ok (.ldc2_w 435, 3) := by decide +kernel
theorem k12095_89 : decode (qc 12095) 89 = .ok (.ladd, 1) := by decide +kernel
theorem k12095_90 : decode (qc 12095) 90 = .ok (.lstore 5, 2) := by decide +kernel
theorem k12095_92 : decode (qc 12095) 92 = .ok (.aload_n 0, 1) := by decide +kernel
theorem k12095_93 : decode (qc 12095) 93 = .ok (.getfield 50, 3) := by decide +kernel
theorem k12095_96 : decode (qc 12095) 96 = .ok (.aload_n 0, 1) := by decide +kernel
theorem k12095_97 : decode (qc 12095) 97 = .ok (.getfield 298, 3) := by decide +kernel
theorem k12095_100 : decode (qc 12095) 100 = .ok (.lload 5, 2) := by decide +kernel
theorem k12095_102 : decode (qc 12095) 102 = .ok (.bipush 33, 2) := by decide +kernel
theorem k12095_104 : decode (qc 12095) 104 = .ok (.lushr, 1) := by decide +kernel
theorem k12095_105 : decode (qc 12095) 105 = .ok (.aload_n 0, 1) := by decide +kernel
theorem k12095_106 : decode (qc 12095) 106 = .ok (.getfield 292, 3) := by decide +kernel
theorem k12095_109 : decode (qc 12095) 109 = .ok (.i2l, 1) := by decide +kernel
theorem k12095_110 : decode (qc 12095) 110 = .ok (.lrem, 1) := by decide +kernel
theorem k12095_111 : decode (qc 12095) 111 = .ok (.l2i, 1) := by decide +kernel
theorem k12095_112 : decode (qc 12095) 112 = .ok (.iastore, 1) := by decide +kernel
theorem k12095_113 : decode (qc 12095) 113 = .ok (.lload 5, 2) := by decide +kernel
theorem k12095_115 : decode (qc 12095) 115 = .ok (.ldc2_w 433, 3) := by decide +kernel
theorem k12095_118 : decode (qc 12095) 118 = .ok (.lmul, 1) := by decide +kernel
theorem k12095_119 : decode (qc 12095) 119 = .ok (.ldc2_w 435, 3) := by decide +kernel
theorem k12095_122 : decode (qc 12095) 122 = .ok (.ladd, 1) := by decide +kernel
theorem k12095_123 : decode (qc 12095) 123 = .ok (.lstore 5, 2) := by decide +kernel
theorem k12095_125 : decode (qc 12095) 125 = .ok (.aload_n 0, 1) := by decide +kernel
theorem k12095_126 : decode (qc 12095) 126 = .ok (.getfield 53, 3) := by decide +kernel
theorem k12095_129 : decode (qc 12095) 129 = .ok (.aload_n 0, 1) := by decide +kernel
theorem k12095_130 : decode (qc 12095) 130 = .ok (.getfield 298, 3) := by decide +kernel
theorem k12095_133 : decode (qc 12095) 133 = .ok (.lload 5, 2) := by decide +kernel
theorem k12095_135 : decode (qc 12095) 135 = .ok (.bipush 33, 2) := by decide +kernel
theorem k12095_137 : decode (qc 12095) 137 = .ok (.lushr, 1) := by decide +kernel
theorem k12095_138 : decode (qc 12095) 138 = .ok (.aload_n 0, 1) := by decide +kernel
theorem k12095_139 : decode (qc 12095) 139 = .ok (.getfield 289, 3) := by decide +kernel
theorem k12095_142 : decode (qc 12095) 142 = .ok (.i2l, 1) := by decide +kernel
theorem k12095_143 : decode (qc 12095) 143 = .ok (.lrem, 1) := by decide +kernel
theorem k12095_144 : decode (qc 12095) 144 = .ok (.l2i, 1) := by decide +kernel
theorem k12095_145 : decode (qc 12095) 145 = .ok (.iastore, 1) := by decide +kernel
theorem k12095_146 : decode (qc 12095) 146 = .ok (.aload_n 0, 1) := by decide +kernel
theorem k12095_147 : decode (qc 12095) 147 = .ok (.getfield 56, 3) := by decide +kernel
theorem k12095_150 : decode (qc 12095) 150 = .ok (.aload_n 0, 1) := by decide +kernel
theorem k12095_151 : decode (qc 12095) 151 = .ok (.getfield 298, 3) := by decide +kernel
theorem k12095_154 : decode (qc 12095) 154 = .ok (.iload 4, 2) := by decide +kernel
theorem k12095_156 : decode (qc 12095) 156 = .ok (.iload 7, 2) := by decide +kernel
theorem k12095_158 : decode (qc 12095) 158 = .ok (.iadd, 1) := by decide +kernel
theorem k12095_159 : decode (qc 12095) 159 = .ok (.iastore, 1) := by decide +kernel
theorem k12095_160 : decode (qc 12095) 160 = .ok (.aload_n 0, 1) := by decide +kernel
theorem k12095_161 : decode (qc 12095) 161 = .ok (.dup, 1) := by decide +kernel
theorem k12095_162 : decode (qc 12095) 162 = .ok (.getfield 298, 3) := by decide +kernel
theorem k12095_165 : decode (qc 12095) 165 = .ok (.iconst 1, 1) := by decide +kernel
theorem k12095_166 : decode (qc 12095) 166 = .ok (.iadd, 1) := by decide +kernel
theorem k12095_167 : decode (qc 12095) 167 = .ok (.putfield 298, 3) := by decide +kernel
theorem k12095_170 : decode (qc 12095) 170 = .ok (.iinc 7 1, 3) := by decide +kernel
theorem k12095_173 : decode (qc 12095) 173 = .ok (.goto (-99), 3) := by decide +kernel
theorem k12095_176 : decode (qc 12095) 176 = .ok (.aload_n 0, 1) := by decide +kernel
theorem k12095_177 : decode (qc 12095) 177 = .ok (.getfield 298, 3) := by decide +kernel
theorem k12095_180 : decode (qc 12095) 180 = .ok (.ireturn, 1) := by decide +kernel
theorem k12096_0 : decode (qc 12096) 0 = .ok (.aload_n 0, 1) := by decide +kernel
theorem k12096_1 : decode (qc 12096) 1 = .ok (.iload_n 1, 1) := by decide +kernel
theorem k12096_2 : decode (qc 12096) 2 = .ok (.invokevirtual 311, 3) := by decide +kernel
theorem k12096_5 : decode (qc 12096) 5 = .ok (.ifCond .eq 12, 3) := by decide +kernel
theorem k12096_8 : decode (qc 12096) 8 = .ok (.iload_n 2, 1) := by decide +kernel
theorem k12096_9 : decode (qc 12096) 9 = .ok (.ifCond .lt 8, 3) := by decide +kernel
theorem k12096_12 : decode (qc 12096) 12 = .ok (.iload_n 3, 1) := by decide +kernel
theorem k12096_13 : decode (qc 12096) 13 = .ok (.iconst (-1), 1) := by decide +kernel
theorem k12096_14 : decode (qc 12096) 14 = .ok (.if_icmp .ge 7, 3) := by decide +kernel
theorem k12096_17 : decode (qc 12096) 17 = .ok (.ldc_w 317, 3) := by decide +kernel
theorem k12096_20 : decode (qc 12096) 20 = .ok (.ireturn, 1) := by decide +kernel
theorem k12096_21 : decode (qc 12096) 21 = .ok (.aload_n 0, 1) := by decide +kernel
theorem k12096_22 : decode (qc 12096) 22 = .ok (.iload_n 2, 1) := by decide +kernel
theorem k12096_23 : decode (qc 12096) 23 = .ok (.invokevirtual 348, 3) := by decide +kernel
theorem k12096_26 : decode (qc 12096) 26 = .ok (.aload_n 0, 1) := by decide +kernel
theorem k12096_27 : decode (qc 12096) 27 = .ok (.iload_n 1, 1) := by decide +kernel
theorem k12096_28 : decode (qc 12096) 28 = .ok (.invokevirtual 339, 3) := by decide +kernel
theorem k12096_31 : decode (qc 12096) 31 = .ok (.istore 4, 2) := by decide +kernel
theorem k12096_33 : decode (qc 12096) 33 = .ok (.iload 4, 2) := by decide +kernel
theorem k12096_35 : decode (qc 12096) 35 = .ok (.iconst (-1), 1) := by decide +kernel
theorem k12096_36 : decode (qc 12096) 36 = .ok (.if_icmp .eq 9, 3) := by decide +kernel
theorem k12096_39 : decode (qc 12096) 39 = .ok (.iload_n 3, 1) := by decide +kernel
theorem k12096_40 : decode (qc 12096) 40 = .ok (.iload 4, 2) := by decide +kernel
theorem k12096_42 : decode (qc 12096) 42 = .ok (.if_icmp .lt 7, 3) := by decide +kernel
theorem k12096_45 : decode (qc 12096) 45 = .ok (.iconst (-1), 1) := by decide +kernel
theorem k12096_46 : decode (qc 12096) 46 = .ok (.goto 21, 3) := by decide +kernel
theorem k12096_49 : decode (qc 12096) 49 = .ok (.iload_n 3, 1) := by decide +kernel
theorem k12096_50 : decode (qc 12096) 50 = .ok (.iconst (-1), 1) := by decide +kernel
theorem k12096_51 : decode (qc 12096) 51 = .ok (.if_icmp .ne 8, 3) := by decide +kernel
theorem k12096_54 : decode (qc 12096) 54 = .ok (.iload 4, 2) := by decide +kernel
theorem k12096_56 : decode (qc 12096) 56 = .ok (.goto 11, 3) := by decide +kernel
theorem k12096_59 : decode (qc 12096) 59 = .ok (.aload_n 0, 1) := by decide +kernel
theorem k12096_60 : decode (qc 12096) 60 = .ok (.iload_n 1, 1) := by decide +kernel
theorem k12096_61 : decode (qc 12096) 61 = .ok (.iload_n 3, 1) := by decide +kernel
theorem k12096_62 : decode (qc 12096) 62 = .ok (.iconst 1, 1) := by decide +kernel
theorem k12096_63 : decode (qc 12096) 63 = .ok (.iadd, 1) := by decide +kernel
theorem k12096_64 : decode (qc 12096) 64 = .ok (.invokevirtual 342, 3) := by decide +kernel
theorem k12096_67 : decode (qc 12096) 67 = .ok (.ireturn, 1) := by decide +kernel
theorem k12097_0 : decode (qc 12097) 0 = .ok (.aload_n 0, 1) := by decide +kernel
theorem k12097_1 : decode (qc 12097) 1 = .ok (.iload_n 1, 1) := by decide +kernel
theorem k12097_2 : decode (qc 12097) 2 = .ok (.invokevirtual 314, 3) := by decide +kernel
theorem k12097_5 : decode (qc 12097) 5 = .ok (.ifCond .eq 16, 3) := by decide +kernel
theorem k12097_8 : decode (qc 12097) 8 = .ok (.iload_n 2, 1) := by decide +kernel
theorem k12097_9 : decode (qc 12097) 9 = .ok (.ifCond .lt 12, 3) := by decide +kernel
theorem k12097_12 : decode (qc 12097) 12 = .ok (.iload_n 3, 1) := by decide +kernel
theorem k12097_13 : decode (qc 12097) 13 = .ok (.iconst 0, 1) := by decide +kernel
theorem k12097_14 : decode (qc 12097) 14 = .ok (.iconst 1, 1) := by decide +kernel
theorem k12097_15 : decode (qc 12097) 15 = .ok (.invokestatic 231, 3) := by decide +kernel
theorem k12097_18 : decode (qc 12097) 18 = .ok (.ifCond .ne 5, 3) := by decide +kernel
theorem k12097_21 : decode (qc 12097) 21 = .ok (.iconst (-1), 1) := by decide +kernel
theorem k12097_22 : decode (qc 12097) 22 = .ok (.ireturn, 1) := by decide +kernel
theorem k12097_23 : decode (qc 12097) 23 = .ok (.aload_n 0, 1) := by decide +kernel
theorem k12097_24 : decode (qc 12097) 24 = .ok (.iload_n 2, 1) := by decide +kernel
theorem k12097_25 : decode (qc 12097) 25 = .ok (.invokevirtual 348, 3) := by decide +kernel
theorem k12097_28 : decode (qc 12097) 28 = .ok (.iconst (-1), 1) := by decide +kernel
theorem k12097_29 : decode (qc 12097) 29 = .ok (.istore 4, 2) := by decide +kernel
theorem k12097_31 : decode (qc 12097) 31 = .ok (.iconst 0, 1) := by decide +kernel
theorem k12097_32 : decode (qc 12097) 32 = .ok (.istore 5, 2) := by decide +kernel
theorem k12097_34 : decode (qc 12097) 34 = .ok (.iload 5, 2) := by decide +kernel
theorem k12097_36 : decode (qc 12097) 36 = .ok (.iconst 1, 1) := by decide +kernel
theorem k12097_37 : decode (qc 12097) 37 = .ok (.aload_n 0, 1) := by decide +kernel
theorem k12097_38 : decode (qc 12097) 38 = .ok (.getfield 289, 3) := by decide +kernel
theorem k12097_41 : decode (qc 12097) 41 = .ok (.ishl, 1) := by decide +kernel
theorem k12097_42 : decode (qc 12097) 42 = .ok (.if_icmp .ge 42, 3) := by decide +kernel
theorem k12097_45 : decode (qc 12097) 45 = .ok (.iload 4, 2) := by decide +kernel
theorem k12097_47 : decode (qc 12097) 47 = .ok (.iconst (-1), 1) := by decide +kernel
theorem k12097_48 : decode (qc 12097) 48 = .ok (.if_icmp .eq 16, 3) := by decide +kernel
theorem k12097_51 : decode (qc 12097) 51 = .ok (.iload 5, 2) := by decide +kernel
theorem k12097_53 : decode (qc 12097) 53 = .ok (.invokestatic 354, 3) := by decide +kernel
theorem k12097_56 : decode (qc 12097) 56 = .ok (.iload 4, 2) := by decide +kernel
theorem k12097_58 : decode (qc 12097) 58 = .ok (.invokestatic 354, 3) := by decide +kernel
theorem k12097_61 : decode (qc 12097) 61 = .ok (.if_icmp .ge 17, 3) := by decide +kernel
theorem k12097_64 : decode (qc 12097) 64 = .ok (.aload_n 0, 1) := by decide +kernel
theorem k12097_65 : decode (qc 12097) 65 = .ok (.iload_n 1, 1) := by decide +kernel
theorem k12097_66 : decode (qc 12097) 66 = .ok (.iload 5, 2) := by decide +kernel
theorem k12097_68 : decode (qc 12097) 68 = .ok (.invokevirtual 437, 3) := by decide +kernel
theorem k12097_71 : decode (qc 12097) 71 = .ok (.ifCond .eq 7, 3) := by decide +kernel
theorem k12097_74 : decode (qc 12097) 74 = .ok (.iload 5, 2) := by decide +kernel
theorem k12097_76 : decode (qc 12097) 76 = .ok (.istore 4, 2) := by decide +kernel
theorem k12097_78 : decode (qc 12097) 78 = .ok (.iinc 5 1, 3) := by decide +kernel
theorem k12097_81 : decode (qc 12097) 81 = .ok (.goto (-47), 3) := by decide +kernel
theorem k12097_84 : decode (qc 12097) 84 = .ok (.iload 4, 2) := by decide +kernel
theorem k12097_86 : decode (qc 12097) 86 = .ok (.iconst (-1), 1) := by decide +kernel
theorem k12097_87 : decode (qc 12097) 87 = .ok (.if_icmp .eq 8, 3) := by decide +kernel
theorem k12097_90 : decode (qc 12097) 90 = .ok (.iload_n 3, 1) := by decide +kernel
theorem k12097_91 : decode (qc 12097) 91 = .ok (.iconst 1, 1) := by decide +kernel
theorem k12097_92 : decode (qc 12097) 92 = .ok (.if_icmp .ne 8, 3) := by decide +kernel
theorem k12097_95 : decode (qc 12097) 95 = .ok (.iload 4, 2) := by decide +kernel
theorem k12097_97 : decode (qc 12097) 97 = .ok (.goto 8, 3) := by decide +kernel
theorem k12097_100 : decode (qc 12097) 100 = .ok (.iload 4, 2) := by decide +kernel
theorem k12097_102 : decode (qc 12097) 102 = .ok (.invokestatic 354, 3) := by decide +kernel
theorem k12097_105 : decode (qc 12097) 105 = .ok (.ireturn, 1) := by decide +kernel
theorem k12098_0 : decode (qc 12098) 0 = .ok (.iconst 1, 1) := by decide +kernel
theorem k12098_1 : decode (qc 12098) 1 = .ok (.istore_n 3, 1) := by decide +kernel
theorem k12098_2 : decode (qc 12098) 2 = .ok (.iconst 0, 1) := by decide +kernel
theorem k12098_3 : decode (qc 12098) 3 = .ok (.istore 4, 2) := by decide +kernel
theorem k12098_5 : decode (qc 12098) 5 = .ok (.iload 4, 2) := by decide +kernel
theorem k12098_7 : decode (qc 12098) 7 = .ok (.aload_n 0, 1) := by decide +kernel
theorem k12098_8 : decode (qc 12098) 8 = .ok (.getfield 289, 3) := by decide +kernel
theorem k12098_11 : decode (qc 12098) 11 = .ok (.if_icmp .ge 79, 3) := by decide +kernel
theorem k12098_14 : decode (qc 12098) 14 = .ok (.aload_n 0, 1) := by decide +kernel
theorem k12098_15 : decode (qc 12098) 15 = .ok (.getfield 107, 3) := by decide +kernel
theorem k12098_18 : decode (qc 12098) 18 = .ok (.iload 4, 2) := by decide +kernel
theorem k12098_20 : decode (qc 12098) 20 = .ok (.aload_n 0, 1) := by decide +kernel
theorem k12098_21 : decode (qc 12098) 21 = .ok (.getfield 62, 3) := by decide +kernel
theorem k12098_24 : decode (qc 12098) 24 = .ok (.iload 4, 2) := by decide +kernel
theorem k12098_26 : decode (qc 12098) 26 = .ok (.iaload, 1) := by decide +kernel
theorem k12098_27 : decode (qc 12098) 27 = .ok (.iastore, 1) := by decide +kernel
theorem k12098_28 : decode (qc 12098) 28 = .ok (.iload_n 3, 1) := by decide +kernel
theorem k12098_29 : decode (qc 12098) 29 = .ok (.ifCond .eq 26, 3) := by decide +kernel
theorem k12098_32 : decode (qc 12098) 32 = .ok (.iload_n 2, 1) := by decide +kernel
theorem k12098_33 : decode (qc 12098) 33 = .ok (.iload 4, 2) := by decide +kernel
theorem k12098_35 : decode (qc 12098) 35 = .ok (.invokestatic 263, 3) := by decide +kernel
theorem k12098_38 : decode (qc 12098) 38 = .ok (.ifCond .eq 13, 3) := by decide +kernel
theorem k12098_41 : decode (qc 12098) 41 = .ok (.aload_n 0, 1) := by decide +kernel
theorem k12098_42 : decode (qc 12098) 42 = .ok (.iload_n 1, 1) := by decide +kernel
theorem k12098_43 : decode (qc 12098) 43 = .ok (.iload 4, 2) := by decide +kernel
theorem k12098_45 : decode (qc 12098) 45 = .ok (.invokevirtual 324, 3) := by decide +kernel
theorem k12098_48 : decode (qc 12098) 48 = .ok (.ifCond .eq 7, 3) := by decide +kernel
theorem k12098_51 : decode (qc 12098) 51 = .ok (.iconst 1, 1) := by decide +kernel
theorem k12098_52 : decode (qc 12098) 52 = .ok (.goto 4, 3) := by decide +kernel
theorem k12098_55 : decode (qc 12098) 55 = .ok (.iconst 0, 1) := by decide +kernel
theorem k12098_56 : decode (qc 12098) 56 = .ok (.istore_n 3, 1) := by decide +kernel
theorem k12098_57 : decode (qc 12098) 57 = .ok (.aload_n 0, 1) := by decide +kernel
theorem k12098_58 : decode (qc 12098) 58 = .ok (.getfield 62, 3) := by decide +kernel
theorem k12098_61 : decode (qc 12098) 61 = .ok (.iload 4, 2) := by decide +kernel
theorem k12098_63 : decode (qc 12098) 63 = .ok (.iload_n 2, 1) := by decide +kernel
theorem k12098_64 : decode (qc 12098) 64 = .ok (.iload 4, 2) := by decide +kernel
theorem k12098_66 : decode (qc 12098) 66 = .ok (.invokestatic 263, 3) := by decide +kernel
theorem k12098_69 : decode (qc 12098) 69 = .ok (.ifCond .eq 7, 3) := by decide +kernel
theorem k12098_72 : decode (qc 12098) 72 = .ok (.iload_n 1, 1) := by decide +kernel
theorem k12098_73 : decode (qc 12098) 73 = .ok (.goto 10, 3) := by decide +kernel
theorem k12098_76 : decode (qc 12098) 76 = .ok (.aload_n 0, 1) := by decide +kernel
theorem k12098_77 : decode (qc 12098) 77 = .ok (.getfield 62, 3) := by decide +kernel
theorem k12098_80 : decode (qc 12098) 80 = .ok (.iload 4, 2) := by decide +kernel
theorem k12098_82 : decode (qc 12098) 82 = .ok (.iaload, 1) := by decide +kernel
theorem k12098_83 : decode (qc 12098) 83 = .ok (.iastore, 1) := by decide +kernel
theorem k12098_84 : decode (qc 12098) 84 = .ok (.iinc 4 1, 3) := by decide +kernel
theorem k12098_87 : decode (qc 12098) 87 = .ok (.goto (-82), 3) := by decide +kernel
theorem k12098_90 : decode (qc 12098) 90 = .ok (.iload_n 3, 1) := by decide +kernel
theorem k12098_91 : decode (qc 12098) 91 = .ok (.ifCond .eq 23, 3) := by decide +kernel
theorem k12098_94 : decode (qc 12098) 94 = .ok (.aload_n 0, 1) := by decide +kernel
theorem k12098_95 : decode (qc 12098) 95 = .ok (.iload_n 1, 1) := by decide +kernel
theorem k12098_96 : decode (qc 12098) 96 = .ok (.invokevirtual 351, 3) := by decide +kernel
theorem k12098_99 : decode (qc 12098) 99 = .ok (.iconst 1, 1) := by decide +kernel
theorem k12098_100 : decode (qc 12098) 100 = .ok (.aload_n 0, 1) := by decide +kernel
theorem k12098_101 : decode (qc 12098) 101 = .ok (.getfield 289, 3) := by decide +kernel
theorem k12098_104 : decode (qc 12098) 104 = .ok (.ishl, 1) := by decide +kernel
theorem k12098_105 : decode (qc 12098) 105 = .ok (.iconst 1, 1) := by decide +kernel
theorem k12098_106 : decode (qc 12098) 106 = .ok (.isub, 1) := by decide +kernel
theorem k12098_107 : decode (qc 12098) 107 = .ok (.if_icmp .ne 7, 3) := by decide +kernel
theorem k12098_110 : decode (qc 12098) 110 = .ok (.iconst 1, 1) := by decide +kernel
theorem k12098_111 : decode (qc 12098) 111 = .ok (.goto 4, 3) := by decide +kernel
theorem k12098_114 : decode (qc 12098) 114 = .ok (.iconst 0, 1) := by decide +kernel
theorem k12098_115 : decode (qc 12098) 115 = .ok (.istore 4, 2) := by decide +kernel
theorem k12098_117 : decode (qc 12098) 117 = .ok (.iconst 0, 1) := by decide +kernel
theorem k12098_118 : decode (qc 12098) 118 = .ok (.istore 5, 2) := by decide +kernel
theorem k12098_120 : decode (qc 12098) 120 = .ok (.iload 5, 2) := by decide +kernel
theorem k12098_122 : decode (qc 12098) 122 = .ok (.aload_n 0, 1) := by decide +kernel
theorem k12098_123 : decode (qc 12098) 123 = .ok (.getfield 289, 3) := by decide +kernel
theorem k12098_126 : decode (qc 12098) 126 = .ok (.if_icmp .ge 23, 3) := by decide +kernel
theorem k12098_129 : decode (qc 12098) 129 = .ok (.aload_n 0, 1) := by decide +kernel
theorem k12098_130 : decode (qc 12098) 130 = .ok (.getfield 62, 3) := by decide +kernel
theorem k12098_133 : decode (qc 12098) 133 = .ok (.iload 5, 2) := by decide +kernel
theorem k12098_135 : decode (qc 12098) 135 = .ok (.aload_n 0, 1) := by decide +kernel
theorem k12098_136 : decode (qc 12098) 136 = .ok (.getfield 107, 3) := by decide +kernel
theorem k12098_139 : decode (qc 12098) 139 = .ok (.iload 5, 2) := by decide +kernel
theorem k12098_141 : decode (qc 12098) 141 = .ok (.iaload, 1) := by decide +kernel
theorem k12098_142 : decode (qc 12098) 142 = .ok (.iastore, 1) := by decide +kernel
theorem k12098_143 : decode (qc 12098) 143 = .ok (.iinc 5 1, 3) := by decide +kernel
theorem k12098_146 : decode (qc 12098) 146 = .ok (.goto (-26), 3) := by decide +kernel
theorem k12098_149 : decode (qc 12098) 149 = .ok (.iload 4, 2) := by decide +kernel
theorem k12098_151 : decode (qc 12098) 151 = .ok (.ireturn, 1) := by decide +kernel
theorem k12099_0 : decode (qc 12099) 0 = .ok (.aload_n 0, 1) := by decide +kernel
theorem k12099_1 : decode (qc 12099) 1 = .ok (.iload_n 1, 1) := by decide +kernel
theorem k12099_2 : decode (qc 12099) 2 = .ok (.invokevirtual 311, 3) := by decide +kernel
theorem k12099_5 : decode (qc 12099) 5 = .ok (.ifCond .eq 11, 3) := by decide +kernel
theorem k12099_8 : decode (qc 12099) 8 = .ok (.iload_n 2, 1) := by decide +kernel
theorem k12099_9 : decode (qc 12099) 9 = .ok (.iload_n 3, 1) := by decide +kernel
theorem k12099_10 : decode (qc 12099) 10 = .ok (.invokestatic 366, 3) := by decide +kernel
theorem k12099_13 : decode (qc 12099) 13 = .ok (.ifCond .ne 5, 3) := by decide +kernel
theorem k12099_16 : decode (qc 12099) 16 = .ok (.iconst (-1), 1) := by decide +kernel
theorem k12099_17 : decode (qc 12099) 17 = .ok (.ireturn, 1) := by decide +kernel
theorem k12099_18 : decode (qc 12099) 18 = .ok (.aload_n 0, 1) := by decide +kernel
theorem k12099_19 : decode (qc 12099) 19 = .ok (.invokevirtual 333, 3) := by decide +kernel
theorem k12099_22 : decode (qc 12099) 22 = .ok (.iconst (-1), 1) := by decide +kernel
theorem k12099_23 : decode (qc 12099) 23 = .ok (.istore 4, 2) := by decide +kernel
theorem k12099_25 : decode (qc 12099) 25 = .ok (.iload_n 2, 1) := by decide +kernel
theorem k12099_26 : decode (qc 12099) 26 = .ok (.ifCond .le 17, 3) := by decide +kernel
theorem k12099_29 : decode (qc 12099) 29 = .ok (.aload_n 0, 1) := by decide +kernel
theorem k12099_30 : decode (qc 12099) 30 = .ok (.iload_n 2, 1) := by decide +kernel
theorem k12099_31 : decode (qc 12099) 31 = .ok (.iconst 1, 1) := by decide +kernel
theorem k12099_32 : decode (qc 12099) 32 = .ok (.isub, 1) := by decide +kernel
theorem k12099_33 : decode (qc 12099) 33 = .ok (.invokevirtual 336, 3) := by decide +kernel
theorem k12099_36 : decode (qc 12099) 36 = .ok (.aload_n 0, 1) := by decide +kernel
theorem k12099_37 : decode (qc 12099) 37 = .ok (.iload_n 1, 1) := by decide +kernel
theorem k12099_38 : decode (qc 12099) 38 = .ok (.invokevirtual 345, 3) := by decide +kernel
theorem k12099_41 : decode (qc 12099) 41 = .ok (.istore 4, 2) := by decide +kernel
theorem k12099_43 : decode (qc 12099) 43 = .ok (.iconst 0, 1) := by decide +kernel
theorem k12099_44 : decode (qc 12099) 44 = .ok (.istore 5, 2) := by decide +kernel
theorem k12099_46 : decode (qc 12099) 46 = .ok (.iload_n 2, 1) := by decide +kernel
theorem k12099_47 : decode (qc 12099) 47 = .ok (.istore 6, 2) := by decide +kernel
theorem k12099_49 : decode (qc 12099) 49 = .ok (.iload 6, 2) := by decide +kernel
theorem k12099_51 : decode (qc 12099) 51 = .ok (.iload_n 3, 1) := by decide +kernel
theorem k12099_52 : decode (qc 12099) 52 = .ok (.if_icmp .gt 42, 3) := by decide +kernel
theorem k12099_55 : decode (qc 12099) 55 = .ok (.aload_n 0, 1) := by decide +kernel
theorem k12099_56 : decode (qc 12099) 56 = .ok (.iload 6, 2) := by decide +kernel
theorem k12099_58 : decode (qc 12099) 58 = .ok (.invokevirtual 336, 3) := by decide +kernel
theorem k12099_61 : decode (qc 12099) 61 = .ok (.iload 5, 2) := by decide +kernel
theorem k12099_63 : decode (qc 12099) 63 = .ok (.aload_n 0, 1) := by decide +kernel
theorem k12099_64 : decode (qc 12099) 64 = .ok (.iload_n 1, 1) := by decide +kernel
theorem k12099_65 : decode (qc 12099) 65 = .ok (.invokevirtual 345, 3) := by decide +kernel
theorem k12099_68 : decode (qc 12099) 68 = .ok (.iload 4, 2) := by decide +kernel
theorem k12099_70 : decode (qc 12099) 70 = .ok (.if_icmp .eq 7, 3) := by decide +kernel
theorem k12099_73 : decode (qc 12099) 73 = .ok (.iconst 1, 1) := by decide +kernel
theorem k12099_74 : decode (qc 12099) 74 = .ok (.goto 4, 3) := by decide +kernel
theorem k12099_77 : decode (qc 12099) 77 = .ok (.iconst 0, 1) := by decide +kernel
theorem k12099_78 : decode (qc 12099) 78 = .ok (.iadd, 1) := by decide +kernel
theorem k12099_79 : decode (qc 12099) 79 = .ok (.istore 5, 2) := by decide +kernel
theorem k12099_81 : decode (qc 12099) 81 = .ok (.aload_n 0, 1) := by decide +kernel
theorem k12099_82 : decode (qc 12099) 82 = .ok (.iload_n 1, 1) := by decide +kernel
theorem k12099_83 : decode (qc 12099) 83 = .ok (.invokevirtual 345, 3) := by decide +kernel
theorem k12099_86 : decode (qc 12099) 86 = .ok (.istore 4, 2) := by decide +kernel
theorem k12099_88 : decode (qc 12099) 88 = .ok (.iinc 6 1, 3) := by decide +kernel
theorem k12099_91 : decode (qc 12099) 91 = .ok (.goto (-42), 3) := by decide +kernel
theorem k12099_94 : decode (qc 12099) 94 = .ok (.iload 5, 2) := by decide +kernel
theorem k12099_96 : decode (qc 12099) 96 = .ok (.ireturn, 1) := by decide +kernel
theorem k12100_0 : decode (qc 12100) 0 = .ok (.aload_n 0, 1) := by decide +kernel
theorem k12100_1 : decode (qc 12100) 1 = .ok (.getfield 289, 3) := by decide +kernel
theorem k12100_4 : decode (qc 12100) 4 = .ok (.ifCond .eq 16, 3) := by decide +kernel
theorem k12100_7 : decode (qc 12100) 7 = .ok (.iload_n 1, 1) := by decide +kernel
theorem k12100_8 : decode (qc 12100) 8 = .ok (.ifCond .lt 12, 3) := by decide +kernel
theorem k12100_11 : decode (qc 12100) 11 = .ok (.iload_n 2, 1) := by decide +kernel
theorem k12100_12 : decode (qc 12100) 12 = .ok (.iconst 0, 1) := by decide +kernel
theorem k12100_13 : decode (qc 12100) 13 = .ok (.iconst 1, 1) := by decide +kernel
theorem k12100_14 : decode (qc 12100) 14 = .ok (.invokestatic 231, 3) := by decide +kernel
theorem k12100_17 : decode (qc 12100) 17 = .ok (.ifCond .ne 5, 3) := by decide +kernel
theorem k12100_20 : decode (qc 12100) 20 = .ok (.iconst (-1), 1) := by decide +kernel
theorem k12100_21 : decode (qc 12100) 21 = .ok (.ireturn, 1) := by decide +kernel
theorem k12100_22 : decode (qc 12100) 22 = .ok (.aload_n 0, 1) := by decide +kernel
theorem k12100_23 : decode (qc 12100) 23 = .ok (.iload_n 1, 1) := by decide +kernel
theorem k12100_24 : decode (qc 12100) 24 = .ok (.invokevirtual 348, 3) := by decide +kernel
theorem k12100_27 : decode (qc 12100) 27 = .ok (.iconst 0, 1) := by decide +kernel
theorem k12100_28 : decode (qc 12100) 28 = .ok (.istore_n 3, 1) := by decide +kernel
theorem k12100_29 : decode (qc 12100) 29 = .ok (.iload_n 3, 1) := by decide +kernel
theorem k12100_30 : decode (qc 12100) 30 = .ok (.aload_n 0, 1) := by decide +kernel
theorem k12100_31 : decode (qc 12100) 31 = .ok (.getfield 289, 3) := by decide +kernel
theorem k12100_34 : decode (qc 12100) 34 = .ok (.if_icmp .ge 20, 3) := by decide +kernel
theorem k12100_37 : decode (qc 12100) 37 = .ok (.aload_n 0, 1) := by decide +kernel
theorem k12100_38 : decode (qc 12100) 38 = .ok (.getfield 110, 3) := by decide +kernel
theorem k12100_41 : decode (qc 12100) 41 = .ok (.iload_n 3, 1) := by decide +kernel
theorem k12100_42 : decode (qc 12100) 42 = .ok (.aload_n 0, 1) := by decide +kernel
theorem k12100_43 : decode (qc 12100) 43 = .ok (.iload_n 3, 1) := by decide +kernel
theorem k12100_44 : decode (qc 12100) 44 = .ok (.invokevirtual 345, 3) := by decide +kernel
theorem k12100_47 : decode (qc 12100) 47 = .ok (.iastore, 1) := by decide +kernel
theorem k12100_48 : decode (qc 12100) 48 = .ok (.iinc 3 1, 3) := by decide +kernel
theorem k12100_51 : decode (qc 12100) 51 = .ok (.goto (-22), 3) := by decide +kernel
theorem k12100_54 : decode (qc 12100) 54 = .ok (.iconst (-1), 1) := by decide +kernel
theorem k12100_55 : decode (qc 12100) 55 = .ok (.istore_n 3, 1) := by decide +kernel
theorem k12100_56 : decode (qc 12100) 56 = .ok (.iconst 0, 1) := by decide +kernel
theorem k12100_57 : decode (qc 12100) 57 = .ok (.istore 4, 2) := by decide +kernel
theorem k12100_59 : decode (qc 12100) 59 = .ok (.iconst 0, 1) := by decide +kernel
theorem k12100_60 : decode (qc 12100) 60 = .ok (.istore 5, 2) := by decide +kernel
theorem k12100_62 : decode (qc 12100) 62 = .ok (.iload 5, 2) := by decide +kernel
theorem k12100_64 : decode (qc 12100) 64 = .ok (.aload_n 0, 1) := by decide +kernel
theorem k12100_65 : decode (qc 12100) 65 = .ok (.getfield 298, 3) := by decide +kernel
theorem k12100_68 : decode (qc 12100) 68 = .ok (.if_icmp .ge 81, 3) := by decide +kernel
theorem k12100_71 : decode (qc 12100) 71 = .ok (.aload_n 0, 1) := by decide +kernel
theorem k12100_72 : decode (qc 12100) 72 = .ok (.iload 5, 2) := by decide +kernel
theorem k12100_74 : decode (qc 12100) 74 = .ok (.putfield 59, 3) := by decide +kernel
theorem k12100_77 : decode (qc 12100) 77 = .ok (.aload_n 0, 1) := by decide +kernel
theorem k12100_78 : decode (qc 12100) 78 = .ok (.iload_n 1, 1) := by decide +kernel
theorem k12100_79 : decode (qc 12100) 79 = .ok (.invokevirtual 348, 3) := by decide +kernel
theorem k12100_82 : decode (qc 12100) 82 = .ok (.iconst 0, 1) := by decide +kernel
theorem k12100_83 : decode (qc 12100) 83 = .ok (.istore 6, 2) := by decide +kernel
theorem k12100_85 : decode (qc 12100) 85 = .ok (.iconst 0, 1) := by decide +kernel
theorem k12100_86 : decode (qc 12100) 86 = .ok (.istore 7, 2) := by decide +kernel
theorem k12100_88 : decode (qc 12100) 88 = .ok (.iload 7, 2) := by decide +kernel
theorem k12100_90 : decode (qc 12100) 90 = .ok (.aload_n 0, 1) := by decide +kernel
theorem k12100_91 : decode (qc 12100) 91 = .ok (.getfield 289, 3) := by decide +kernel
theorem k12100_94 : decode (qc 12100) 94 = .ok (.if_icmp .ge 35, 3) := by decide +kernel
theorem k12100_97 : decode (qc 12100) 97 = .ok (.iload 6, 2) := by decide +kernel
theorem k12100_99 : decode (qc 12100) 99 = .ok (.aload_n 0, 1) := by decide +kernel
theorem k12100_100 : decode (qc 12100) 100 = .ok (.iload 7, 2) := by decide +kernel
theorem k12100_102 : decode (qc 12100) 102 = .ok (.invokevirtual 345, 3) := by decide +kernel
theorem k12100_105 : decode (qc 12100) 105 = .ok (.aload_n 0, 1) := by decide +kernel
theorem k12100_106 : decode (qc 12100) 106 = .ok (.getfield 110, 3) := by decide +kernel
theorem k12100_109 : decode (qc 12100) 109 = .ok (.iload 7, 2) := by decide +kernel
theorem k12100_111 : decode (qc 12100) 111 = .ok (.iaload, 1) := by decide +kernel
theorem k12100_112 : decode (qc 12100) 112 = .ok (.if_icmp .eq 7, 3) := by decide +kernel
theorem k12100_115 : decode (qc 12100) 115 = .ok (.iconst 1, 1) := by decide +kernel
theorem k12100_116 : decode (qc 12100) 116 = .ok (.goto 4, 3) := by decide +kernel
theorem k12100_119 : decode (qc 12100) 119 = .ok (.iconst 0, 1) := by decide +kernel
theorem k12100_120 : decode (qc 12100) 120 = .ok (.iadd, 1) := by decide +kernel
theorem k12100_121 : decode (qc 12100) 121 = .ok (.istore 6, 2) := by decide +kernel
theorem k12100_123 : decode (qc 12100) 123 = .ok (.iinc 7 1, 3) := by decide +kernel
theorem k12100_126 : decode (qc 12100) 126 = .ok (.goto (-38), 3) := by decide +kernel
theorem k12100_129 : decode (qc 12100) 129 = .ok (.iload 6, 2) := by decide +kernel
theorem k12100_131 : decode (qc 12100) 131 = .ok (.iload 4, 2) := by decide +kernel
theorem k12100_133 : decode (qc 12100) 133 = .ok (.if_icmp .le 10, 3) := by decide +kernel
theorem k12100_136 : decode (qc 12100) 136 = .ok (.iload 5, 2) := by decide +kernel
theorem k12100_138 : decode (qc 12100) 138 = .ok (.istore_n 3, 1) := by decide +kernel
theorem k12100_139 : decode (qc 12100) 139 = .ok (.iload 6, 2) := by decide +kernel
theorem k12100_141 : decode (qc 12100) 141 = .ok (.istore 4, 2) := by decide +kernel
theorem k12100_143 : decode (qc 12100) 143 = .ok (.iinc 5 1, 3) := by decide +kernel
theorem k12100_146 : decode (qc 12100) 146 = .ok (.goto (-84), 3) := by decide +kernel
theorem k12100_149 : decode (qc 12100) 149 = .ok (.aload_n 0, 1) := by decide +kernel
theorem k12100_150 : decode (qc 12100) 150 = .ok (.iconst (-1), 1) := by decide +kernel
theorem k12100_151 : decode (qc 12100) 151 = .ok (.putfield 59, 3) := by decide +kernel
theorem k12100_154 : decode (qc 12100) 154 = .ok (.iload_n 3, 1) := by decide +kernel
theorem k12100_155 : decode (qc 12100) 155 = .ok (.iconst (-1), 1) := by decide +kernel
theorem k12100_156 : decode (qc 12100) 156 = .ok (.if_icmp .eq 7, 3) := by decide +kernel
theorem k12100_159 : decode (qc 12100) 159 = .ok (.iload_n 2, 1) := by decide +kernel
theorem k12100_160 : decode (qc 12100) 160 = .ok (.ifCond .ne 7, 3) := by decide +kernel
theorem k12100_163 : decode (qc 12100) 163 = .ok (.iload_n 3, 1) := by decide +kernel
theorem k12100_164 : decode (qc 12100) 164 = .ok (.goto 5, 3) := by decide +kernel
theorem k12100_167 : decode (qc 12100) 167 = .ok (.iload 4, 2) := by decide +kernel
theorem k12100_169 : decode (qc 12100) 169 = .ok (.ireturn, 1) := by decide +kernel
theorem k12101_0 : decode (qc 12101) 0 = .ok (.aload_n 0, 1) := by decide +kernel
theorem k12101_1 : decode (qc 12101) 1 = .ok (.iload_n 1, 1) := by decide +kernel
theorem k12101_2 : decode (qc 12101) 2 = .ok (.invokevirtual 314, 3) := by decide +kernel
theorem k12101_5 : decode (qc 12101) 5 = .ok (.ifCond .eq 21, 3) := by decide +kernel
theorem k12101_8 : decode (qc 12101) 8 = .ok (.iload_n 2, 1) := by decide +kernel
theorem k12101_9 : decode (qc 12101) 9 = .ok (.iload_n 3, 1) := by decide +kernel
theorem k12101_10 : decode (qc 12101) 10 = .ok (.invokestatic 366, 3) := by decide +kernel
theorem k12101_13 : decode (qc 12101) 13 = .ok (.ifCond .eq 13, 3) := by decide +kernel
theorem k12101_16 : decode (qc 12101) 16 = .ok (.iload 4, 2) := by decide +kernel
theorem k12101_18 : decode (qc 12101) 18 = .ok (.iconst 0, 1) := by decide +kernel
theorem k12101_19 : decode (qc 12101) 19 = .ok (.iconst 1, 1) := by decide +kernel
theorem k12101_20 : decode (qc 12101) 20 = .ok (.invokestatic 231, 3) := by decide +kernel
theorem k12101_23 : decode (qc 12101) 23 = .ok (.ifCond .ne 7, 3) := by decide +kernel
theorem k12101_26 : decode (qc 12101) 26 = .ok (.ldc_w 317, 3) := by decide +kernel
theorem k12101_29 : decode (qc 12101) 29 = .ok (.ireturn, 1) := by decide +kernel
theorem k12101_30 : decode (qc 12101) 30 = .ok (.aload_n 0, 1) := by decide +kernel
theorem k12101_31 : decode (qc 12101) 31 = .ok (.invokevirtual 333, 3) := by decide +kernel
theorem k12101_34 : decode (qc 12101) 34 = .ok (.iconst 0, 1) := by decide +kernel
theorem k12101_35 : decode (qc 12101) 35 = .ok (.istore 5, 2) := by decide +kernel
theorem k12101_37 : decode (qc 12101) 37 = .ok (.iconst (-1), 1) := by decide +kernel
theorem k12101_38 : decode (qc 12101) 38 = .ok (.istore 6, 2) := by decide +kernel
theorem k12101_40 : decode (qc 12101) 40 = .ok (.iconst 0, 1) := by decide +kernel
theorem k12101_41 : decode (qc 12101) 41 = .ok (.istore 7, 2) := by decide +kernel
theorem k12101_43 : decode (qc 12101) 43 = .ok (.iload_n 2, 1) := by decide +kernel
theorem k12101_44 : decode (qc 12101) 44 = .ok (.istore 8, 2) := by decide +kernel
theorem k12101_46 : decode (qc 12101) 46 = .ok (.iload 8, 2) := by decide +kernel
theorem k12101_48 : decode (qc 12101) 48 = .ok (.iload_n 3, 1) := by decide +kernel
theorem k12101_49 : decode (qc 12101) 49 = .ok (.if_icmp .ge 53, 3) := by decide +kernel
theorem k12101_52 : decode (qc 12101) 52 = .ok (.aload_n 0, 1) := by decide +kernel
theorem k12101_53 : decode (qc 12101) 53 = .ok (.iload 8, 2) := by decide +kernel
theorem k12101_55 : decode (qc 12101) 55 = .ok (.invokevirtual 336, 3) := by decide +kernel
theorem k12101_58 : decode (qc 12101) 58 = .ok (.aload_n 0, 1) := by decide +kernel
theorem k12101_59 : decode (qc 12101) 59 = .ok (.iload_n 1, 1) := by decide +kernel
theorem k12101_60 : decode (qc 12101) 60 = .ok (.invokevirtual 351, 3) := by decide +kernel
theorem k12101_63 : decode (qc 12101) 63 = .ok (.ifCond .ne 10, 3) := by decide +kernel
theorem k12101_66 : decode (qc 12101) 66 = .ok (.iload 7, 2) := by decide +kernel
theorem k12101_68 : decode (qc 12101) 68 = .ok (.iconst 1, 1) := by decide +kernel
theorem k12101_69 : decode (qc 12101) 69 = .ok (.iadd, 1) := by decide +kernel
theorem k12101_70 : decode (qc 12101) 70 = .ok (.goto 4, 3) := by decide +kernel
theorem k12101_73 : decode (qc 12101) 73 = .ok (.iconst 0, 1) := by decide +kernel
theorem k12101_74 : decode (qc 12101) 74 = .ok (.istore 7, 2) := by decide +kernel
theorem k12101_76 : decode (qc 12101) 76 = .ok (.iload 7, 2) := by decide +kernel
theorem k12101_78 : decode (qc 12101) 78 = .ok (.iload 5, 2) := by decide +kernel
theorem k12101_80 : decode (qc 12101) 80 = .ok (.if_icmp .le 16, 3) := by decide +kernel
theorem k12101_83 : decode (qc 12101) 83 = .ok (.iload 7, 2) := by decide +kernel
theorem k12101_85 : decode (qc 12101) 85 = .ok (.istore 5, 2) := by decide +kernel
theorem k12101_87 : decode (qc 12101) 87 = .ok (.iload 8, 2) := by decide +kernel
theorem k12101_89 : decode (qc 12101) 89 = .ok (.iload 7, 2) := by decide +kernel
theorem k12101_91 : decode (qc 12101) 91 = .ok (.isub, 1) := by decide +kernel
theorem k12101_92 : decode (qc 12101) 92 = .ok (.iconst 1, 1) := by decide +kernel
theorem k12101_93 : decode (qc 12101) 93 = .ok (.iadd, 1) := by decide +kernel
theorem k12101_94 : decode (qc 12101) 94 = .ok (.istore 6, 2) := by decide +kernel
theorem k12101_96 : decode (qc 12101) 96 = .ok (.iinc 8 1, 3) := by decide +kernel
theorem k12101_99 : decode (qc 12101) 99 = .ok (.goto (-53), 3) := by decide +kernel
theorem k12101_102 : decode (qc 12101) 102 = .ok (.iload 4, 2) := by decide +kernel
theorem k12101_104 : decode (qc 12101) 104 = .ok (.ifCond .ne 8, 3) := by decide +kernel
theorem k12101_107 : decode (qc 12101) 107 = .ok (.iload 5, 2) := by decide +kernel
theorem k12101_109 : decode (qc 12101) 109 = .ok (.goto 5, 3) := by decide +kernel
theorem k12101_112 : decode (qc 12101) 112 = .ok (.iload 6, 2) := by decide +kernel
theorem k12101_114 : decode (qc 12101) 114 = .ok (.ireturn, 1) := by decide +kernel
theorem k12102_0 : decode (qc 12102) 0 = .ok (.aload_n 0, 1) := by decide +kernel
theorem k12102_1 : decode (qc 12102) 1 = .ok (.iload_n 1, 1) := by decide +kernel
theorem k12102_2 : decode (qc 12102) 2 = .ok (.invokevirtual 314, 3) := by decide +kernel
theorem k12102_5 : decode (qc 12102) 5 = .ok (.ifCond .eq 21, 3) := by decide +kernel
theorem k12102_8 : decode (qc 12102) 8 = .ok (.iload_n 2, 1) := by decide +kernel
theorem k12102_9 : decode (qc 12102) 9 = .ok (.iload_n 3, 1) := by decide +kernel
theorem k12102_10 : decode (qc 12102) 10 = .ok (.invokestatic 366, 3) := by decide +kernel
theorem k12102_13 : decode (qc 12102) 13 = .ok (.ifCond .eq 13, 3) := by decide +kernel
theorem k12102_16 : decode (qc 12102) 16 = .ok (.iload 4, 2) := by decide +kernel
theorem k12102_18 : decode (qc 12102) 18 = .ok (.iconst 0, 1) := by decide +kernel
theorem k12102_19 : decode (qc 12102) 19 = .ok (.iconst 1, 1) := by decide +kernel
theorem k12102_20 : decode (qc 12102) 20 = .ok (.invokestatic 231, 3) := by decide +kernel
theorem k12102_23 : decode (qc 12102) 23 = .ok (.ifCond .ne 5, 3) := by decide +kernel
theorem k12102_26 : decode (qc 12102) 26 = .ok (.iconst (-1), 1) := by decide +kernel
theorem k12102_27 : decode (qc 12102) 27 = .ok (.ireturn, 1) := by decide +kernel
theorem k12102_28 : decode (qc 12102) 28 = .ok (.aload_n 0, 1) := by decide +kernel
theorem k12102_29 : decode (qc 12102) 29 = .ok (.invokevirtual 333, 3) := by decide +kernel
theorem k12102_32 : decode (qc 12102) 32 = .ok (.iconst 0, 1) := by decide +kernel
theorem k12102_33 : decode (qc 12102) 33 = .ok (.istore 5, 2) := by decide +kernel
theorem k12102_35 : decode (qc 12102) 35 = .ok (.iload 5, 2) := by decide +kernel
theorem k12102_37 : decode (qc 12102) 37 = .ok (.aload_n 0, 1) := by decide +kernel
theorem k12102_38 : decode (qc 12102) 38 = .ok (.getfield 289, 3) := by decide +kernel
theorem k12102_41 : decode (qc 12102) 41 = .ok (.if_icmp .ge 17, 3) := by decide +kernel
theorem k12102_44 : decode (qc 12102) 44 = .ok (.aload_n 0, 1) := by decide +kernel
theorem k12102_45 : decode (qc 12102) 45 = .ok (.getfield 110, 3) := by decide +kernel
theorem k12102_48 : decode (qc 12102) 48 = .ok (.iload 5, 2) := by decide +kernel
theorem k12102_50 : decode (qc 12102) 50 = .ok (.iconst 0, 1) := by decide +kernel
theorem k12102_51 : decode (qc 12102) 51 = .ok (.iastore, 1) := by decide +kernel
theorem k12102_52 : decode (qc 12102) 52 = .ok (.iinc 5 1, 3) := by decide +kernel
theorem k12102_55 : decode (qc 12102) 55 = .ok (.goto (-20), 3) := by decide +kernel
theorem k12102_58 : decode (qc 12102) 58 = .ok (.iload_n 2, 1) := by decide +kernel
theorem k12102_59 : decode (qc 12102) 59 = .ok (.istore 5, 2) := by decide +kernel
theorem k12102_61 : decode (qc 12102) 61 = .ok (.iload 5, 2) := by decide +kernel
theorem k12102_63 : decode (qc 12102) 63 = .ok (.iload_n 3, 1) := by decide +kernel
theorem k12102_64 : decode (qc 12102) 64 = .ok (.if_icmp .ge 65, 3) := by decide +kernel
theorem k12102_67 : decode (qc 12102) 67 = .ok (.aload_n 0, 1) := by decide +kernel
theorem k12102_68 : decode (qc 12102) 68 = .ok (.iload 5, 2) := by decide +kernel
theorem k12102_70 : decode (qc 12102) 70 = .ok (.invokevirtual 336, 3) := by decide +kernel
theorem k12102_73 : decode (qc 12102) 73 = .ok (.aload_n 0, 1) := by decide +kernel
theorem k12102_74 : decode (qc 12102) 74 = .ok (.iload_n 1, 1) := by decide +kernel
theorem k12102_75 : decode (qc 12102) 75 = .ok (.invokevirtual 351, 3) := by decide +kernel
theorem k12102_78 : decode (qc 12102) 78 = .ok (.istore 6, 2) := by decide +kernel
theorem k12102_80 : decode (qc 12102) 80 = .ok (.iconst 0, 1) := by decide +kernel
theorem k12102_81 : decode (qc 12102) 81 = .ok (.istore 7, 2) := by decide +kernel
theorem k12102_83 : decode (qc 12102) 83 = .ok (.iload 7, 2) := by decide +kernel
theorem k12102_85 : decode (qc 12102) 85 = .ok (.aload_n 0, 1) := by decide +kernel
theorem k12102_86 : decode (qc 12102) 86 = .ok (.getfield 289, 3) := by decide +kernel
theorem k12102_89 : decode (qc 12102) 89 = .ok (.if_icmp .ge 34, 3) := by decide +kernel
theorem k12102_92 : decode (qc 12102) 92 = .ok (.aload_n 0, 1) := by decide +kernel
theorem k12102_93 : decode (qc 12102) 93 = .ok (.getfield 110, 3) := by decide +kernel
theorem k12102_96 : decode (qc 12102) 96 = .ok (.iload 7, 2) := by decide +kernel
theorem k12102_98 : decode (qc 12102) 98 = .ok (.dup2, 1) := by decide +kernel
theorem k12102_99 : decode (qc 12102) 99 = .ok (.iaload, 1) := by decide +kernel
theorem k12102_100 : decode (qc 12102) 100 = .ok (.iload 6, 2) := by decide +kernel
theorem k12102_102 : decode (qc 12102) 102 = .ok (.iload 7, 2) := by decide +kernel
theorem k12102_104 : decode (qc 12102) 104 = .ok (.invokestatic 263, 3) := by decide +kernel
theorem k12102_107 : decode (qc 12102) 107 = .ok (.ifCond .eq 7, 3) := by decide +kernel
theorem k12102_110 : decode (qc 12102) 110 = .ok (.iconst 1, 1) := by decide +kernel
theorem k12102_111 : decode (qc 12102) 111 = .ok (.goto 4, 3) := by decide +kernel
theorem k12102_114 : decode (qc 12102) 114 = .ok (.iconst 0, 1) := by decide +kernel
theorem k12102_115 : decode (qc 12102) 115 = .ok (.iadd, 1) := by decide +kernel
theorem k12102_116 : decode (qc 12102) 116 = .ok (.iastore, 1) := by decide +kernel
theorem k12102_117 : decode (qc 12102) 117 = .ok (.iinc 7 1, 3) := by decide +kernel
theorem k12102_120 : decode (qc 12102) 120 = .ok (.goto (-37), 3) := by decide +kernel
theorem k12102_123 : decode (qc 12102) 123 = .ok (.iinc 5 1, 3) := by decide +kernel
theorem k12102_126 : decode (qc 12102) 126 = .ok (.goto (-65), 3) := by decide +kernel
theorem k12102_129 : decode (qc 12102) 129 = .ok (.iconst (-1), 1) := by decide +kernel
theorem k12102_130 : decode (qc 12102) 130 = .ok (.istore 5, 2) := by decide +kernel
theorem k12102_132 : decode (qc 12102) 132 = .ok (.iconst 0, 1) := by decide +kernel
theorem k12102_133 : decode (qc 12102) 133 = .ok (.istore 6, 2) := by decide +kernel
theorem k12102_135 : decode (qc 12102) 135 = .ok (.iload 6, 2) := by decide +kernel
theorem k12102_137 : decode (qc 12102) 137 = .ok (.aload_n 0, 1) := by decide +kernel
theorem k12102_138 : decode (qc 12102) 138 = .ok (.getfield 289, 3) := by decide +kernel
theorem k12102_141 : decode (qc 12102) 141 = .ok (.if_icmp .ge 45, 3) := by decide +kernel
theorem k12102_144 : decode (qc 12102) 144 = .ok (.aload_n 0, 1) := by decide +kernel
theorem k12102_145 : decode (qc 12102) 145 = .ok (.getfield 110, 3) := by decide +kernel
theorem k12102_148 : decode (qc 12102) 148 = .ok (.iload 6, 2) := by decide +kernel
theorem k12102_150 : decode (qc 12102) 150 = .ok (.iaload, 1) := by decide +kernel
theorem k12102_151 : decode (qc 12102) 151 = .ok (.iload 5, 2) := by decide +kernel
theorem k12102_153 : decode (qc 12102) 153 = .ok (.iconst (-1), 1) := by decide +kernel
theorem k12102_154 : decode (qc 12102) 154 = .ok (.if_icmp .ne 7, 3) := by decide +kernel
theorem k12102_157 : decode (qc 12102) 157 = .ok (.iconst 0, 1) := by decide +kernel
theorem k12102_158 : decode (qc 12102) 158 = .ok (.goto 10, 3) := by decide +kernel
theorem k12102_161 : decode (qc 12102) 161 = .ok (.aload_n 0, 1) := by decide +kernel
theorem k12102_162 : decode (qc 12102) 162 = .ok (.getfield 110, 3) := by decide +kernel
theorem k12102_165 : decode (qc 12102) 165 = .ok (.iload 5, 2) := by decide +kernel
theorem k12102_167 : decode (qc 12102) 167 = .ok (.iaload, 1) := by decide +kernel
theorem k12102_168 : decode (qc 12102) 168 = .ok (.if_icmp .le 8, 3) := by decide +kernel
theorem k12102_171 : decode (qc 12102) 171 = .ok (.iload 6, 2) := by decide +kernel
theorem k12102_173 : decode (qc 12102) 173 = .ok (.goto 5, 3) := by decide +kernel
theorem k12102_176 : decode (qc 12102) 176 = .ok (.iload 5, 2) := by decide +kernel
theorem k12102_178 : decode (qc 12102) 178 = .ok (.istore 5, 2) := by decide +kernel
theorem k12102_180 : decode (qc 12102) 180 = .ok (.iinc 6 1, 3) := by decide +kernel
theorem k12102_183 : decode (qc 12102) 183 = .ok (.goto (-48), 3) := by decide +kernel
theorem k12102_186 : decode (qc 12102) 186 = .ok (.iload 5, 2) := by decide +kernel
theorem k12102_188 : decode (qc 12102) 188 = .ok (.iconst (-1), 1) := by decide +kernel
theorem k12102_189 : decode (qc 12102) 189 = .ok (.if_icmp .eq 8, 3) := by decide +kernel
theorem k12102_192 : decode (qc 12102) 192 = .ok (.iload 4, 2) := by decide +kernel
theorem k12102_194 : decode (qc 12102) 194 = .ok (.ifCond .ne 8, 3) := by decide +kernel
theorem k12102_197 : decode (qc 12102) 197 = .ok (.iload 5, 2) := by decide +kernel
theorem k12102_199 : decode (qc 12102) 199 = .ok (.goto 10, 3) := by decide +kernel
theorem k12102_202 : decode (qc 12102) 202 = .ok (.aload_n 0, 1) := by decide +kernel
theorem k12102_203 : decode (qc 12102) 203 = .ok (.getfield 110, 3) := by decide +kernel
theorem k12102_206 : decode (qc 12102) 206 = .ok (.iload 5, 2) := by decide +kernel
theorem k12102_208 : decode (qc 12102) 208 = .ok (.iaload, 1) := by decide +kernel
theorem k12102_209 : decode (qc 12102) 209 = .ok (.ireturn, 1) := by decide +kernel
theorem k12103_0 : decode (qc 12103) 0 = .ok (.aload_n 0, 1) := by decide +kernel
theorem k12103_1 : decode (qc 12103) 1 = .ok (.getfield 289, 3) := by decide +kernel
theorem k12103_4 : decode (qc 12103) 4 = .ok (.ifCond .ne 5, 3) := by decide +kernel
theorem k12103_7 : decode (qc 12103) 7 = .ok (.iconst (-1), 1) := by decide +kernel
theorem k12103_8 : decode (qc 12103) 8 = .ok (.ireturn, 1) := by decide +kernel
theorem k12103_9 : decode (qc 12103) 9 = .ok (.iconst 0, 1) := by decide +kernel
theorem k12103_10 : decode (qc 12103) 10 = .ok (.istore_n 1, 1) := by decide +kernel
theorem k12103_11 : decode (qc 12103) 11 = .ok (.iload_n 1, 1) := by decide +kernel
theorem k12103_12 : decode (qc 12103) 12 = .ok (.bipush 40, 2) := by decide +kernel
theorem k12103_14 : decode (qc 12103) 14 = .ok (.if_icmp .ge 55, 3) := by decide +kernel
theorem k12103_17 : decode (qc 12103) 17 = .ok (.aload_n 0, 1) := by decide +kernel
theorem k12103_18 : decode (qc 12103) 18 = .ok (.getfield 113, 3) := by decide +kernel
theorem k12103_21 : decode (qc 12103) 21 = .ok (.iconst 3, 1) := by decide +kernel
theorem k12103_22 : decode (qc 12103) 22 = .ok (.iload_n 1, 1) := by decide +kernel
theorem k12103_23 : decode (qc 12103) 23 = .ok (.imul, 1) := by decide +kernel
theorem k12103_24 : decode (qc 12103) 24 = .ok (.aload_n 0, 1) := by decide +kernel
theorem k12103_25 : decode (qc 12103) 25 = .ok (.getfield 50, 3) := by decide +kernel
theorem k12103_28 : decode (qc 12103) 28 = .ok (.iload_n 1, 1) := by decide +kernel
theorem k12103_29 : decode (qc 12103) 29 = .ok (.iaload, 1) := by decide +kernel
theorem k12103_30 : decode (qc 12103) 30 = .ok (.iastore, 1) := by decide +kernel
theorem k12103_31 : decode (qc 12103) 31 = .ok (.aload_n 0, 1) := by decide +kernel
theorem k12103_32 : decode (qc 12103) 32 = .ok (.getfield 113, 3) := by decide +kernel
theorem k12103_35 : decode (qc 12103) 35 = .ok (.iconst 3, 1) := by decide +kernel
theorem k12103_36 : decode (qc 12103) 36 = .ok (.iload_n 1, 1) := by decide +kernel
theorem k12103_37 : decode (qc 12103) 37 = .ok (.imul, 1) := by decide +kernel
theorem k12103_38 : decode (qc 12103) 38 = .ok (.iconst 1, 1) := by decide +kernel
theorem k12103_39 : decode (qc 12103) 39 = .ok (.iadd, 1) := by decide +kernel
theorem k12103_40 : decode (qc 12103) 40 = .ok (.aload_n 0, 1) := by decide +kernel
theorem k12103_41 : decode (qc 12103) 41 = .ok (.getfield 53, 3) := by decide +kernel
theorem k12103_44 : decode (qc 12103) 44 = .ok (.iload_n 1, 1) := by decide +kernel
theorem k12103_45 : decode (qc 12103) 45 = .ok (.iaload, 1) := by decide +kernel
theorem k12103_46 : decode (qc 12103) 46 = .ok (.iastore, 1) := by decide +kernel
theorem k12103_47 : decode (qc 12103) 47 = .ok (.aload_n 0, 1) := by decide +kernel
theorem k12103_48 : decode (qc 12103) 48 = .ok (.getfield 113, 3) := by decide +kernel
theorem k12103_51 : decode (qc 12103) 51 = .ok (.iconst 3, 1) := by decide +kernel
theorem k12103_52 : decode (qc 12103) 52 = .ok (.iload_n 1, 1) := by decide +kernel
theorem k12103_53 : decode (qc 12103) 53 = .ok (.imul, 1) := by decide +kernel
theorem k12103_54 : decode (qc 12103) 54 = .ok (.iconst 2, 1) := by decide +kernel
theorem k12103_55 : decode (qc 12103) 55 = .ok (.iadd, 1) := by decide +kernel
theorem k12103_56 : decode (qc 12103) 56 = .ok (.aload_n 0, 1) := by decide +kernel
theorem k12103_57 : decode (qc 12103) 57 = .ok (.getfield 56, 3) := by decide +kernel
theorem k12103_60 : decode (qc 12103) 60 = .ok (.iload_n 1, 1) := by decide +kernel
theorem k12103_61 : decode (qc 12103) 61 = .ok (.iaload, 1) := by decide +kernel
theorem k12103_62 : decode (qc 12103) 62 = .ok (.iastore, 1) := by decide +kernel
theorem k12103_63 : decode (qc 12103) 63 = .ok (.iinc 1 1, 3) := by decide +kernel
theorem k12103_66 : decode (qc 12103) 66 = .ok (.goto (-55), 3) := by decide +kernel
theorem k12103_69 : decode (qc 12103) 69 = .ok (.iconst 0, 1) := by decide +kernel
theorem k12103_70 : decode (qc 12103) 70 = .ok (.istore_n 1, 1) := by decide +kernel
theorem k12103_71 : decode (qc 12103) 71 = .ok (.iload_n 1, 1) := by decide +kernel
theorem k12103_72 : decode (qc 12103) 72 = .ok (.iconst 5, 1) := by decide +kernel
theorem k12103_73 : decode (qc 12103) 73 = .ok (.if_icmp .ge 24, 3) := by decide +kernel
theorem k12103_76 : decode (qc 12103) 76 = .ok (.aload_n 0, 1) := by decide +kernel
theorem k12103_77 : decode (qc 12103) 77 = .ok (.getfield 113, 3) := by decide +kernel
theorem k12103_80 : decode (qc 12103) 80 = .ok (.bipush 120, 2) := by decide +kernel
theorem k12103_82 : decode (qc 12103) 82 = .ok (.iload_n 1, 1) := by decide +kernel
theorem k12103_83 : decode (qc 12103) 83 = .ok (.iadd, 1) := by decide +kernel
theorem k12103_84 : decode (qc 12103) 84 = .ok (.aload_n 0, 1) := by decide +kernel
theorem k12103_85 : decode (qc 12103) 85 = .ok (.getfield 97, 3) := by decide +kernel
theorem k12103_88 : decode (qc 12103) 88 = .ok (.iload_n 1, 1) := by decide +kernel
theorem k12103_89 : decode (qc 12103) 89 = .ok (.iaload, 1) := by decide +kernel
theorem k12103_90 : decode (qc 12103) 90 = .ok (.iastore, 1) := by decide +kernel
theorem k12103_91 : decode (qc 12103) 91 = .ok (.iinc 1 1, 3) := by decide +kernel
theorem k12103_94 : decode (qc 12103) 94 = .ok (.goto (-23), 3) := by decide +kernel
theorem k12103_97 : decode (qc 12103) 97 = .ok (.aload_n 0, 1) := by decide +kernel
theorem k12103_98 : decode (qc 12103) 98 = .ok (.aload_n 0, 1) := by decide +kernel
theorem k12103_99 : decode (qc 12103) 99 = .ok (.getfield 298, 3) := by decide +kernel
theorem k12103_102 : decode (qc 12103) 102 = .ok (.putfield 440, 3) := by decide +kernel
theorem k12103_105 : decode (qc 12103) 105 = .ok (.aload_n 0, 1) := by decide +kernel
theorem k12103_106 : decode (qc 12103) 106 = .ok (.iconst 1, 1) := by decide +kernel
theorem k12103_107 : decode (qc 12103) 107 = .ok (.putfield 301, 3) := by decide +kernel
theorem k12103_110 : decode (qc 12103) 110 = .ok (.aload_n 0, 1) := by decide +kernel
theorem k12103_111 : decode (qc 12103) 111 = .ok (.getfield 298, 3) := by decide +kernel
theorem k12103_114 : decode (qc 12103) 114 = .ok (.ireturn, 1) := by decide +kernel
theorem k12104_0 : decode (qc 12104) 0 = .ok (.aload_n 0, 1) := by decide +kernel
theorem k12104_1 : decode (qc 12104) 1 = .ok (.getfield 301, 3) := by decide +kernel
theorem k12104_4 : decode (qc 12104) 4 = .ok (.ifCond .ne 5, 3) := by decide +kernel
theorem k12104_7 : decode (qc 12104) 7 = .ok (.iconst (-1), 1) := by decide +kernel
theorem k12104_8 : decode (qc 12104) 8 = .ok (.ireturn, 1) := by decide +kernel
theorem k12104_9 : decode (qc 12104) 9 = .ok (.iconst 0, 1) := by decide +kernel
theorem k12104_10 : decode (qc 12104) 10 = .ok (.istore_n 1, 1) := by decide +kernel
theorem k12104_11 : decode (qc 12104) 11 = .ok (.iload_n 1, 1) := by decide +kernel
theorem k12104_12 : decode (qc 12104) 12 = .ok (.bipush 40, 2) := by decide +kernel
theorem k12104_14 : decode (qc 12104) 14 = .ok (.if_icmp .ge 55, 3) := by decide +kernel
theorem k12104_17 : decode (qc 12104) 17 = .ok (.aload_n 0, 1) := by decide +kernel
theorem k12104_18 : decode (qc 12104) 18 = .ok (.getfield 50, 3) := by decide +kernel
theorem k12104_21 : decode (qc 12104) 21 = .ok (.iload_n 1, 1) := by decide +kernel
theorem k12104_22 : decode (qc 12104) 22 = .ok (.aload_n 0, 1) := by decide +kernel
theorem k12104_23 : decode (qc 12104) 23 = .ok (.getfield 113, 3) := by decide +kernel
theorem k12104_26 : decode (qc 12104) 26 = .ok (.iconst 3, 1) := by decide +kernel
theorem k12104_27 : decode (qc 12104) 27 = .ok (.iload_n 1, 1) := by decide +kernel
theorem k12104_28 : decode (qc 12104) 28 = .ok (.imul, 1) := by decide +kernel
theorem k12104_29 : decode (qc 12104) 29 = .ok (.iaload, 1) := by decide +kernel
theorem k12104_30 : decode (qc 12104) 30 = .ok (.iastore, 1) := by decide +kernel
theorem k12104_31 : decode (qc 12104) 31 = .ok (.aload_n 0, 1) := by decide +kernel
theorem k12104_32 : decode (qc 12104) 32 = .ok (.getfield 53, 3) := by decide +kernel
theorem k12104_35 : decode (qc 12104) 35 = .ok (.iload_n 1, 1) := by decide +kernel
theorem k12104_36 : decode (qc 12104) 36 = .ok (.aload_n 0, 1) := by decide +kernel
theorem k12104_37 : decode (qc 12104) 37 = .ok (.getfield 113, 3) := by decide +kernel
theorem k12104_40 : decode (qc 12104) 40 = .ok (.iconst 3, 1) := by decide +kernel
theorem k12104_41 : decode (qc 12104) 41 = .ok (.iload_n 1, 1) := by decide +kernel
theorem k12104_42 : decode (qc 12104) 42 = .ok (.imul, 1) := by decide +kernel
theorem k12104_43 : decode (qc 12104) 43 = .ok (.iconst 1, 1) := by decide +kernel
theorem k12104_44 : decode (qc 12104) 44 = .ok (.iadd, 1) := by decide +kernel
theorem k12104_45 : decode (qc 12104) 45 = .ok (.iaload, 1) := by decide +kernel
theorem k12104_46 : decode (qc 12104) 46 = .ok (.iastore, 1) := by decide +kernel
theorem k12104_47 : decode (qc 12104) 47 = .ok (.aload_n 0, 1) := by decide +kernel
theorem k12104_48 : decode (qc 12104) 48 = .ok (.getfield 56, 3) := by decide +kernel
theorem k12104_51 : decode (qc 12104) 51 = .ok (.iload_n 1, 1) := by decide +kernel
theorem k12104_52 : decode (qc 12104) 52 = .ok (.aload_n 0, 1) := by decide +kernel
theorem k12104_53 : decode (qc 12104) 53 = .ok (.getfield 113, 3) := by decide +kernel
theorem k12104_56 : decode (qc 12104) 56 = .ok (.iconst 3, 1) := by decide +kernel
theorem k12104_57 : decode (qc 12104) 57 = .ok (.iload_n 1, 1) := by decide +kernel
theorem k12104_58 : decode (qc 12104) 58 = .ok (.imul, 1) := by decide +kernel
theorem k12104_59 : decode (qc 12104) 59 = .ok (.iconst 2, 1) := by decide +kernel
theorem k12104_60 : decode (qc 12104) 60 = .ok (.iadd, 1) := by decide +kernel
theorem k12104_61 : decode (qc 12104) 61 = .ok (.iaload, 1) := by decide +kernel
theorem k12104_62 : decode (qc 12104) 62 = .ok (.iastore, 1) := by decide +kernel
theorem k12104_63 : decode (qc 12104) 63 = .ok (.iinc 1 1, 3) := by decide +kernel
theorem k12104_66 : decode (qc 12104) 66 = .ok (.goto (-55), 3) := by decide +kernel
theorem k12104_69 : decode (qc 12104) 69 = .ok (.iconst 0, 1) := by decide +kernel
theorem k12104_70 : decode (qc 12104) 70 = .ok (.istore_n 1, 1) := by decide +kernel
theorem k12104_71 : decode (qc 12104) 71 = .ok (.iload_n 1, 1) := by decide +kernel
theorem k12104_72 : decode (qc 12104) 72 = .ok (.iconst 5, 1) := by decide +kernel
theorem k12104_73 : decode (qc 12104) 73 = .ok (.if_icmp .ge 24, 3) := by decide +kernel
theorem k12104_76 : decode (qc 12104) 76 = .ok (.aload_n 0, 1) := by decide +kernel
theorem k12104_77 : decode (qc 12104) 77 = .ok (.getfield 97, 3) := by decide +kernel
theorem k12104_80 : decode (qc 12104) 80 = .ok (.iload_n 1, 1) := by decide +kernel
theorem k12104_81 : decode (qc 12104) 81 = .ok (.aload_n 0, 1) := by decide +kernel
theorem k12104_82 : decode (qc 12104) 82 = .ok (.getfield 113, 3) := by decide +kernel
theorem k12104_85 : decode (qc 12104) 85 = .ok (.bipush 120, 2) := by decide +kernel
theorem k12104_87 : decode (qc 12104) 87 = .ok (.iload_n 1, 1) := by decide +kernel
theorem k12104_88 : decode (qc 12104) 88 = .ok (.iadd, 1) := by decide +kernel
theorem k12104_89 : decode (qc 12104) 89 = .ok (.iaload, 1) := by decide +kernel
theorem k12104_90 : decode (qc 12104) 90 = .ok (.iastore, 1) := by decide +kernel
theorem k12104_91 : decode (qc 12104) 91 = .ok (.iinc 1 1, 3) := by decide +kernel
theorem k12104_94 : decode (qc 12104) 94 = .ok (.goto (-23), 3) := by decide +kernel
theorem k12104_97 : decode (qc 12104) 97 = .ok (.aload_n 0, 1) := by decide +kernel
theorem k12104_98 : decode (qc 12104) 98 = .ok (.aload_n 0, 1) := by decide +kernel
theorem k12104_99 : decode (qc 12104) 99 = .ok (.getfield 440, 3) := by decide +kernel
theorem k12104_102 : decode (qc 12104) 102 = .ok (.putfield 298, 3) := by decide +kernel
theorem k12104_105 : decode (qc 12104) 105 = .ok (.aload_n 0, 1) := by decide +kernel
theorem k12104_106 : decode (qc 12104) 106 = .ok (.getfield 298, 3) := by decide +kernel
theorem k12104_109 : decode (qc 12104) 109 = .ok (.ireturn, 1) := by decide +kernel
theorem k12105_0 : decode (qc 12105) 0 = .ok (.iload_n 1, 1) := by decide +kernel
theorem k12105_1 : decode (qc 12105) 1 = .ok (.tableswitch 105 0 9 #[55, 60, 65, 70, 75, 80, 85, 90, 95, 100], 55) := by decide +kernel
theorem k12105_56 : decode (qc 12105) 56 = .ok (.aload_n 0, 1) := by decide +kernel
theorem k12105_57 : decode (qc 12105) 57 = .ok (.getfield 286, 3) := by decide +kernel
theorem k12105_60 : decode (qc 12105) 60 = .ok (.ireturn, 1) := by decide +kernel
theorem k12105_61 : decode (qc 12105) 61 = .ok (.aload_n 0, 1) := by decide +kernel
theorem k12105_62 : decode (qc 12105) 62 = .ok (.getfield 289, 3) := by decide +kernel
theorem k12105_65 : decode (qc 12105) 65 = .ok (.ireturn, 1) := by decide +kernel
theorem k12105_66 : decode (qc 12105) 66 = .ok (.aload_n 0, 1) := by decide +kernel
theorem k12105_67 : decode (qc 12105) 67 = .ok (.getfield 292, 3) := by decide +kernel
theorem k12105_70 : decode (qc 12105) 70 = .ok (.ireturn, 1) := by decide +kernel
theorem k12105_71 : decode (qc 12105) 71 = .ok (.aload_n 0, 1) := by decide +kernel
theorem k12105_72 : decode (qc 12105) 72 = .ok (.getfield 295, 3) := by decide +kernel
theorem k12105_75 : decode (qc 12105) 75 = .ok (.ireturn, 1) := by decide +kernel
theorem k12105_76 : decode (qc 12105) 76 = .ok (.aload_n 0, 1) := by decide +kernel
theorem k12105_77 : decode (qc 12105) 77 = .ok (.getfield 308, 3) := by decide +kernel
theorem k12105_80 : decode (qc 12105) 80 = .ok (.ireturn, 1) := by decide +kernel
theorem k12105_81 : decode (qc 12105) 81 = .ok (.aload_n 0, 1) := by decide +kernel
theorem k12105_82 : decode (qc 12105) 82 = .ok (.getfield 123, 3) := by decide +kernel
theorem k12105_85 : decode (qc 12105) 85 = .ok (.ireturn, 1) := by decide +kernel
theorem k12105_86 : decode (qc 12105) 86 = .ok (.aload_n 0, 1) := by decide +kernel
theorem k12105_87 : decode (qc 12105) 87 = .ok (.getfield 298, 3) := by decide +kernel
theorem k12105_90 : decode (qc 12105) 90 = .ok (.ireturn, 1) := by decide +kernel
theorem k12105_91 : decode (qc 12105) 91 = .ok (.aload_n 0, 1) := by decide +kernel
theorem k12105_92 : decode (qc 12105) 92 = .ok (.getfield 46, 3) := by decide +kernel
theorem k12105_95 : decode (qc 12105) 95 = .ok (.ireturn, 1) := by decide +kernel
theorem k12105_96 : decode (qc 12105) 96 = .ok (.aload_n 0, 1) := by decide +kernel
theorem k12105_97 : decode (qc 12105) 97 = .ok (.getfield 318, 3) := by decide +kernel
theorem k12105_100 : decode (qc 12105) 100 = .ok (.ireturn, 1) := by decide +kernel
theorem k12105_101 : decode (qc 12105) 101 = .ok (.aload_n 0, 1) := by decide +kernel
theorem k12105_102 : decode (qc 12105) 102 = .ok (.getfield 321, 3) := by decide +kernel
theorem k12105_105 : decode (qc 12105) 105 = .ok (.ireturn, 1) := by decide +kernel
theorem k12105_106 : decode (qc 12105) 106 = .ok (.ldc_w 317, 3) := by decide +kernel
theorem k12105_109 : decode (qc 12105) 109 = .ok (.ireturn, 1) := by decide +kernel
