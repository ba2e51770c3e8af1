def y_Model_init : MethodName := ⟨"PlainOriginModel", "<init>", "()V"⟩
def ws_Model_init : List Cond := Cond.code y_Model_init prog_14_method_1_code 1 none :: UW
theorem hd_Model_init : y_Model_init.cls ≠ "java/lang/invoke/MethodHandle" ∧ y_Model_init.cls ≠ "java/lang/invoke/VarHandle" ∧ (parseMethodDescriptor y_Model_init.desc).map (fun d => d.parameters.length) = some 0 := by decide +kernel
theorem d_Model_init_0 : decode prog_14_method_1_code 0 = .ok (.aload_n 0, 1) := by decide +kernel
theorem d_Model_init_1 : decode prog_14_method_1_code 1 = .ok (.invokespecial 1, 3) := by decide +kernel
theorem d_Model_init_4 : decode prog_14_method_1_code 4 = .ok (.aload_n 0, 1) := by decide +kernel
theorem d_Model_init_5 : decode prog_14_method_1_code 5 = .ok (.bipush (38), 2) := by decide +kernel
theorem d_Model_init_7 : decode prog_14_method_1_code 7 = .ok (.newarray .long, 2) := by decide +kernel
theorem d_Model_init_9 : decode prog_14_method_1_code 9 = .ok (.dup, 1) := by decide +kernel
theorem d_Model_init_10 : decode prog_14_method_1_code 10 = .ok (.iconst 0, 1) := by decide +kernel
theorem d_Model_init_11 : decode prog_14_method_1_code 11 = .ok (.ldc2_w 7, 3) := by decide +kernel
theorem d_Model_init_14 : decode prog_14_method_1_code 14 = .ok (.lastore, 1) := by decide +kernel
theorem d_Model_init_15 : decode prog_14_method_1_code 15 = .ok (.dup, 1) := by decide +kernel
theorem d_Model_init_16 : decode prog_14_method_1_code 16 = .ok (.iconst 1, 1) := by decide +kernel
theorem d_Model_init_17 : decode prog_14_method_1_code 17 = .ok (.ldc2_w 9, 3) := by decide +kernel
theorem d_Model_init_20 : decode prog_14_method_1_code 20 = .ok (.lastore, 1) := by decide +kernel
theorem d_Model_init_21 : decode prog_14_method_1_code 21 = .ok (.dup, 1) := by decide +kernel
theorem d_Model_init_22 : decode prog_14_method_1_code 22 = .ok (.iconst 2, 1) := by decide +kernel
theorem d_Model_init_23 : decode prog_14_method_1_code 23 = .ok (.ldc2_w 11, 3) := by decide +kernel
theorem d_Model_init_26 : decode prog_14_method_1_code 26 = .ok (.lastore, 1) := by decide +kernel
theorem d_Model_init_27 : decode prog_14_method_1_code 27 = .ok (.dup, 1) := by decide +kernel
theorem d_Model_init_28 : decode prog_14_method_1_code 28 = .ok (.iconst 3, 1) := by decide +kernel
theorem d_Model_init_29 : decode prog_14_method_1_code 29 = .ok (.ldc2_w 13, 3) := by decide +kernel
theorem d_Model_init_32 : decode prog_14_method_1_code 32 = .ok (.lastore, 1) := by decide +kernel
theorem d_Model_init_33 : decode prog_14_method_1_code 33 = .ok (.dup, 1) := by decide +kernel
theorem d_Model_init_34 : decode prog_14_method_1_code 34 = .ok (.iconst 4, 1) := by decide +kernel
theorem d_Model_init_35 : decode prog_14_method_1_code 35 = .ok (.ldc2_w 15, 3) := by decide +kernel
theorem d_Model_init_38 : decode prog_14_method_1_code 38 = .ok (.lastore, 1) := by decide +kernel
theorem d_Model_init_39 : decode prog_14_method_1_code 39 = .ok (.dup, 1) := by decide +kernel
theorem d_Model_init_40 : decode prog_14_method_1_code 40 = .ok (.iconst 5, 1) := by decide +kernel
theorem d_Model_init_41 : decode prog_14_method_1_code 41 = .ok (.ldc2_w 17, 3) := by decide +kernel
theorem d_Model_init_44 : decode prog_14_method_1_code 44 = .ok (.lastore, 1) := by decide +kernel
theorem d_Model_init_45 : decode prog_14_method_1_code 45 = .ok (.dup, 1) := by decide +kernel
theorem d_Model_init_46 : decode prog_14_method_1_code 46 = .ok (.bipush (6), 2) := by decide +kernel
theorem d_Model_init_48 : decode prog_14_method_1_code 48 = .ok (.ldc2_w 19, 3) := by decide +kernel
theorem d_Model_init_51 : decode prog_14_method_1_code 51 = .ok (.lastore, 1) := by decide +kernel
theorem d_Model_init_52 : decode prog_14_method_1_code 52 = .ok (.dup, 1) := by decide +kernel
theorem d_Model_init_53 : decode prog_14_method_1_code 53 = .ok (.bipush (7), 2) := by decide +kernel
theorem d_Model_init_55 : decode prog_14_method_1_code 55 = .ok (.ldc2_w 21, 3) := by decide +kernel
theorem d_Model_init_58 : decode prog_14_method_1_code 58 = .ok (.lastore, 1) := by decide +kernel
theorem d_Model_init_59 : decode prog_14_method_1_code 59 = .ok (.dup, 1) := by decide +kernel
theorem d_Model_init_60 : decode prog_14_method_1_code 60 = .ok (.bipush (8), 2) := by decide +kernel
theorem d_Model_init_62 : decode prog_14_method_1_code 62 = .ok (.ldc2_w 23, 3) := by decide +kernel
theorem d_Model_init_65 : decode prog_14_method_1_code 65 = .ok (.lastore, 1) := by decide +kernel
theorem d_Model_init_66 : decode prog_14_method_1_code 66 = .ok (.dup, 1) := by decide +kernel
theorem d_Model_init_67 : decode prog_14_method_1_code 67 = .ok (.bipush (9), 2) := by decide +kernel
theorem d_Model_init_69 : decode prog_14_method_1_code 69 = .ok (.ldc2_w 25, 3) := by decide +kernel
theorem d_Model_init_72 : decode prog_14_method_1_code 72 = .ok (.lastore, 1) := by decide +kernel
theorem d_Model_init_73 : decode prog_14_method_1_code 73 = .ok (.dup, 1) := by decide +kernel
theorem d_Model_init_74 : decode prog_14_method_1_code 74 = .ok (.bipush (10), 2) := by decide +kernel
theorem d_Model_init_76 : decode prog_14_method_1_code 76 = .ok (.ldc2_w 27, 3) := by decide +kernel
theorem d_Model_init_79 : decode prog_14_method_1_code 79 = .ok (.lastore, 1) := by decide +kernel
theorem d_Model_init_80 : decode prog_14_method_1_code 80 = .ok (.dup, 1) := by decide +kernel
theorem d_Model_init_81 : decode prog_14_method_1_code 81 = .ok (.bipush (11), 2) := by decide +kernel
theorem d_Model_init_83 : decode prog_14_method_1_code 83 = .ok (.ldc2_w 29, 3) := by decide +kernel
theorem d_Model_init_86 : decode prog_14_method_1_code 86 = .ok (.lastore, 1) := by decide +kernel
theorem d_Model_init_87 : decode prog_14_method_1_code 87 = .ok (.dup, 1) := by decide +kernel
theorem d_Model_init_88 : decode prog_14_method_1_code 88 = .ok (.bipush (12), 2) := by decide +kernel
theorem d_Model_init_90 : decode prog_14_method_1_code 90 = .ok (.ldc2_w 31, 3) := by decide +kernel
theorem d_Model_init_93 : decode prog_14_method_1_code 93 = .ok (.lastore, 1) := by decide +kernel
theorem d_Model_init_94 : decode prog_14_method_1_code 94 = .ok (.dup, 1) := by decide +kernel
theorem d_Model_init_95 : decode prog_14_method_1_code 95 = .ok (.bipush (13), 2) := by decide +kernel
theorem d_Model_init_97 : decode prog_14_method_1_code 97 = .ok (.ldc2_w 33, 3) := by decide +kernel
theorem d_Model_init_100 : decode prog_14_method_1_code 100 = .ok (.lastore, 1) := by decide +kernel
theorem d_Model_init_101 : decode prog_14_method_1_code 101 = .ok (.dup, 1) := by decide +kernel
theorem d_Model_init_102 : decode prog_14_method_1_code 102 = .ok (.bipush (14), 2) := by decide +kernel
theorem d_Model_init_104 : decode prog_14_method_1_code 104 = .ok (.ldc2_w 35, 3) := by decide +kernel
theorem d_Model_init_107 : decode prog_14_method_1_code 107 = .ok (.lastore, 1) := by decide +kernel
theorem d_Model_init_108 : decode prog_14_method_1_code 108 = .ok (.dup, 1) := by decide +kernel
theorem d_Model_init_109 : decode prog_14_method_1_code 109 = .ok (.bipush (15), 2) := by decide +kernel
theorem d_Model_init_111 : decode prog_14_method_1_code 111 = .ok (.ldc2_w 37, 3) := by decide +kernel
theorem d_Model_init_114 : decode prog_14_method_1_code 114 = .ok (.lastore, 1) := by decide +kernel
theorem d_Model_init_115 : decode prog_14_method_1_code 115 = .ok (.dup, 1) := by decide +kernel
theorem d_Model_init_116 : decode prog_14_method_1_code 116 = .ok (.bipush (16), 2) := by decide +kernel
theorem d_Model_init_118 : decode prog_14_method_1_code 118 = .ok (.ldc2_w 39, 3) := by decide +kernel
theorem d_Model_init_121 : decode prog_14_method_1_code 121 = .ok (.lastore, 1) := by decide +kernel
theorem d_Model_init_122 : decode prog_14_method_1_code 122 = .ok (.dup, 1) := by decide +kernel
theorem d_Model_init_123 : decode prog_14_method_1_code 123 = .ok (.bipush (17), 2) := by decide +kernel
theorem d_Model_init_125 : decode prog_14_method_1_code 125 = .ok (.ldc2_w 41, 3) := by decide +kernel
theorem d_Model_init_128 : decode prog_14_method_1_code 128 = .ok (.lastore, 1) := by decide +kernel
theorem d_Model_init_129 : decode prog_14_method_1_code 129 = .ok (.dup, 1) := by decide +kernel
theorem d_Model_init_130 : decode prog_14_method_1_code 130 = .ok (.bipush (18), 2) := by decide +kernel
theorem d_Model_init_132 : decode prog_14_method_1_code 132 = .ok (.ldc2_w 43, 3) := by decide +kernel
theorem d_Model_init_135 : decode prog_14_method_1_code 135 = .ok (.lastore, 1) := by decide +kernel
theorem d_Model_init_136 : decode prog_14_method_1_code 136 = .ok (.dup, 1) := by decide +kernel
theorem d_Model_init_137 : decode prog_14_method_1_code 137 = .ok (.bipush (19), 2) := by decide +kernel
theorem d_Model_init_139 : decode prog_14_method_1_code 139 = .ok (.ldc2_w 45, 3) := by decide +kernel
theorem d_Model_init_142 : decode prog_14_method_1_code 142 = .ok (.lastore, 1) := by decide +kernel
theorem d_Model_init_143 : decode prog_14_method_1_code 143 = .ok (.dup, 1) := by decide +kernel
theorem d_Model_init_144 : decode prog_14_method_1_code 144 = .ok (.bipush (20), 2) := by decide +kernel
theorem d_Model_init_146 : decode prog_14_method_1_code 146 = .ok (.ldc2_w 47, 3) := by decide +kernel
theorem d_Model_init_149 : decode prog_14_method_1_code 149 = .ok (.lastore, 1) := by decide +kernel
theorem d_Model_init_150 : decode prog_14_method_1_code 150 = .ok (.dup, 1) := by decide +kernel
theorem d_Model_init_151 : decode prog_14_method_1_code 151 = .ok (.bipush (21), 2) := by decide +kernel
theorem d_Model_init_153 : decode prog_14_method_1_code 153 = .ok (.ldc2_w 49, 3) := by decide +kernel
theorem d_Model_init_156 : decode prog_14_method_1_code 156 = .ok (.lastore, 1) := by decide +kernel
theorem d_Model_init_157 : decode prog_14_method_1_code 157 = .ok (.dup, 1) := by decide +kernel
theorem d_Model_init_158 : decode prog_14_method_1_code 158 = .ok (.bipush (22), 2) := by decide +kernel
theorem d_Model_init_160 : decode prog_14_method_1_code 160 = .ok (.ldc2_w 51, 3) := by decide +kernel
theorem d_Model_init_163 : decode prog_14_method_1_code 163 = .ok (.lastore, 1) := by decide +kernel
theorem d_Model_init_164 : decode prog_14_method_1_code 164 = .ok (.dup, 1) := by decide +kernel
theorem d_Model_init_165 : decode prog_14_method_1_code 165 = .ok (.bipush (23), 2) := by decide +kernel
theorem d_Model_init_167 : decode prog_14_method_1_code 167 = .ok (.ldc2_w 53, 3) := by decide +kernel
theorem d_Model_init_170 : decode prog_14_method_1_code 170 = .ok (.lastore, 1) := by decide +kernel
theorem d_Model_init_171 : decode prog_14_method_1_code 171 = .ok (.dup, 1) := by decide +kernel
theorem d_Model_init_172 : decode prog_14_method_1_code 172 = .ok (.bipush (24), 2) := by decide +kernel
theorem d_Model_init_174 : decode prog_14_method_1_code 174 = .ok (.ldc2_w 49, 3) := by decide +kernel
theorem d_Model_init_177 : decode prog_14_method_1_code 177 = .ok (.lastore, 1) := by decide +kernel
theorem d_Model_init_178 : decode prog_14_method_1_code 178 = .ok (.dup, 1) := by decide +kernel
theorem d_Model_init_179 : decode prog_14_method_1_code 179 = .ok (.bipush (25), 2) := by decide +kernel
theorem d_Model_init_181 : decode prog_14_method_1_code 181 = .ok (.ldc2_w 55, 3) := by decide +kernel
theorem d_Model_init_184 : decode prog_14_method_1_code 184 = .ok (.lastore, 1) := by decide +kernel
theorem d_Model_init_185 : decode prog_14_method_1_code 185 = .ok (.dup, 1) := by decide +kernel
theorem d_Model_init_186 : decode prog_14_method_1_code 186 = .ok (.bipush (26), 2) := by decide +kernel
theorem d_Model_init_188 : decode prog_14_method_1_code 188 = .ok (.ldc2_w 57, 3) := by decide +kernel
theorem d_Model_init_191 : decode prog_14_method_1_code 191 = .ok (.lastore, 1) := by decide +kernel
theorem d_Model_init_192 : decode prog_14_method_1_code 192 = .ok (.dup, 1) := by decide +kernel
theorem d_Model_init_193 : decode prog_14_method_1_code 193 = .ok (.bipush (27), 2) := by decide +kernel
theorem d_Model_init_195 : decode prog_14_method_1_code 195 = .ok (.ldc2_w 59, 3) := by decide +kernel
theorem d_Model_init_198 : decode prog_14_method_1_code 198 = .ok (.lastore, 1) := by decide +kernel
theorem d_Model_init_199 : decode prog_14_method_1_code 199 = .ok (.dup, 1) := by decide +kernel
theorem d_Model_init_200 : decode prog_14_method_1_code 200 = .ok (.bipush (28), 2) := by decide +kernel
theorem d_Model_init_202 : decode prog_14_method_1_code 202 = .ok (.ldc2_w 61, 3) := by decide +kernel
theorem d_Model_init_205 : decode prog_14_method_1_code 205 = .ok (.lastore, 1) := by decide +kernel
theorem d_Model_init_206 : decode prog_14_method_1_code 206 = .ok (.dup, 1) := by decide +kernel
theorem d_Model_init_207 : decode prog_14_method_1_code 207 = .ok (.bipush (29), 2) := by decide +kernel
theorem d_Model_init_209 : decode prog_14_method_1_code 209 = .ok (.ldc2_w 63, 3) := by decide +kernel
theorem d_Model_init_212 : decode prog_14_method_1_code 212 = .ok (.lastore, 1) := by decide +kernel
theorem d_Model_init_213 : decode prog_14_method_1_code 213 = .ok (.dup, 1) := by decide +kernel
theorem d_Model_init_214 : decode prog_14_method_1_code 214 = .ok (.bipush (30), 2) := by decide +kernel
theorem d_Model_init_216 : decode prog_14_method_1_code 216 = .ok (.ldc2_w 65, 3) := by decide +kernel
theorem d_Model_init_219 : decode prog_14_method_1_code 219 = .ok (.lastore, 1) := by decide +kernel
theorem d_Model_init_220 : decode prog_14_method_1_code 220 = .ok (.dup, 1) := by decide +kernel
theorem d_Model_init_221 : decode prog_14_method_1_code 221 = .ok (.bipush (31), 2) := by decide +kernel
theorem d_Model_init_223 : decode prog_14_method_1_code 223 = .ok (.ldc2_w 67, 3) := by decide +kernel
theorem d_Model_init_226 : decode prog_14_method_1_code 226 = .ok (.lastore, 1) := by decide +kernel
theorem d_Model_init_227 : decode prog_14_method_1_code 227 = .ok (.dup, 1) := by decide +kernel
theorem d_Model_init_228 : decode prog_14_method_1_code 228 = .ok (.bipush (32), 2) := by decide +kernel
theorem d_Model_init_230 : decode prog_14_method_1_code 230 = .ok (.ldc2_w 69, 3) := by decide +kernel
theorem d_Model_init_233 : decode prog_14_method_1_code 233 = .ok (.lastore, 1) := by decide +kernel
theorem d_Model_init_234 : decode prog_14_method_1_code 234 = .ok (.dup, 1) := by decide +kernel
theorem d_Model_init_235 : decode prog_14_method_1_code 235 = .ok (.bipush (33), 2) := by decide +kernel
theorem d_Model_init_237 : decode prog_14_method_1_code 237 = .ok (.ldc2_w 71, 3) := by decide +kernel
theorem d_Model_init_240 : decode prog_14_method_1_code 240 = .ok (.lastore, 1) := by decide +kernel
theorem d_Model_init_241 : decode prog_14_method_1_code 241 = .ok (.dup, 1) := by decide +kernel
theorem d_Model_init_242 : decode prog_14_method_1_code 242 = .ok (.bipush (34), 2) := by decide +kernel
theorem d_Model_init_244 : decode prog_14_method_1_code 244 = .ok (.ldc2_w 73, 3) := by decide +kernel
theorem d_Model_init_247 : decode prog_14_method_1_code 247 = .ok (.lastore, 1) := by decide +kernel
theorem d_Model_init_248 : decode prog_14_method_1_code 248 = .ok (.dup, 1) := by decide +kernel
theorem d_Model_init_249 : decode prog_14_method_1_code 249 = .ok (.bipush (35), 2) := by decide +kernel
theorem d_Model_init_251 : decode prog_14_method_1_code 251 = .ok (.ldc2_w 75, 3) := by decide +kernel
theorem d_Model_init_254 : decode prog_14_method_1_code 254 = .ok (.lastore, 1) := by decide +kernel
theorem d_Model_init_255 : decode prog_14_method_1_code 255 = .ok (.dup, 1) := by decide +kernel
theorem d_Model_init_256 : decode prog_14_method_1_code 256 = .ok (.bipush (36), 2) := by decide +kernel
theorem d_Model_init_258 : decode prog_14_method_1_code 258 = .ok (.ldc2_w 77, 3) := by decide +kernel
theorem d_Model_init_261 : decode prog_14_method_1_code 261 = .ok (.lastore, 1) := by decide +kernel
theorem d_Model_init_262 : decode prog_14_method_1_code 262 = .ok (.dup, 1) := by decide +kernel
theorem d_Model_init_263 : decode prog_14_method_1_code 263 = .ok (.bipush (37), 2) := by decide +kernel
theorem d_Model_init_265 : decode prog_14_method_1_code 265 = .ok (.ldc2_w 79, 3) := by decide +kernel
theorem d_Model_init_268 : decode prog_14_method_1_code 268 = .ok (.lastore, 1) := by decide +kernel
theorem d_Model_init_269 : decode prog_14_method_1_code 269 = .ok (.putfield 81, 3) := by decide +kernel
theorem d_Model_init_272 : decode prog_14_method_1_code 272 = .ok (.aload_n 0, 1) := by decide +kernel
theorem d_Model_init_273 : decode prog_14_method_1_code 273 = .ok (.bipush (8), 2) := by decide +kernel
theorem d_Model_init_275 : decode prog_14_method_1_code 275 = .ok (.newarray .boolean, 2) := by decide +kernel
theorem d_Model_init_277 : decode prog_14_method_1_code 277 = .ok (.putfield 87, 3) := by decide +kernel
theorem d_Model_init_280 : decode prog_14_method_1_code 280 = .ok (.aload_n 0, 1) := by decide +kernel
theorem d_Model_init_281 : decode prog_14_method_1_code 281 = .ok (.bipush (8), 2) := by decide +kernel
theorem d_Model_init_283 : decode prog_14_method_1_code 283 = .ok (.newarray .int, 2) := by decide +kernel
theorem d_Model_init_285 : decode prog_14_method_1_code 285 = .ok (.putfield 91, 3) := by decide +kernel
theorem d_Model_init_288 : decode prog_14_method_1_code 288 = .ok (.aload_n 0, 1) := by decide +kernel
theorem d_Model_init_289 : decode prog_14_method_1_code 289 = .ok (.bipush (8), 2) := by decide +kernel
theorem d_Model_init_291 : decode prog_14_method_1_code 291 = .ok (.newarray .int, 2) := by decide +kernel
theorem d_Model_init_293 : decode prog_14_method_1_code 293 = .ok (.putfield 95, 3) := by decide +kernel
theorem d_Model_init_296 : decode prog_14_method_1_code 296 = .ok (.aload_n 0, 1) := by decide +kernel
theorem d_Model_init_297 : decode prog_14_method_1_code 297 = .ok (.sipush (1600), 3) := by decide +kernel
theorem d_Model_init_300 : decode prog_14_method_1_code 300 = .ok (.newarray .int, 2) := by decide +kernel
theorem d_Model_init_302 : decode prog_14_method_1_code 302 = .ok (.putfield 98, 3) := by decide +kernel
theorem d_Model_init_305 : decode prog_14_method_1_code 305 = .ok (.aload_n 0, 1) := by decide +kernel
theorem d_Model_init_306 : decode prog_14_method_1_code 306 = .ok (.iconst 1, 1) := by decide +kernel
theorem d_Model_init_307 : decode prog_14_method_1_code 307 = .ok (.putfield 101, 3) := by decide +kernel
theorem d_Model_init_310 : decode prog_14_method_1_code 310 = .ok (.aload_n 0, 1) := by decide +kernel
theorem d_Model_init_311 : decode prog_14_method_1_code 311 = .ok (.bipush (80), 2) := by decide +kernel
theorem d_Model_init_313 : decode prog_14_method_1_code 313 = .ok (.newarray .int, 2) := by decide +kernel
theorem d_Model_init_315 : decode prog_14_method_1_code 315 = .ok (.putfield 105, 3) := by decide +kernel
theorem d_Model_init_318 : decode prog_14_method_1_code 318 = .ok (.aload_n 0, 1) := by decide +kernel
theorem d_Model_init_319 : decode prog_14_method_1_code 319 = .ok (.bipush (121), 2) := by decide +kernel
theorem d_Model_init_321 : decode prog_14_method_1_code 321 = .ok (.putfield 108, 3) := by decide +kernel
theorem d_Model_init_324 : decode prog_14_method_1_code 324 = .ok (.aload_n 0, 1) := by decide +kernel
theorem d_Model_init_325 : decode prog_14_method_1_code 325 = .ok (.bipush (80), 2) := by decide +kernel
theorem d_Model_init_327 : decode prog_14_method_1_code 327 = .ok (.newarray .int, 2) := by decide +kernel
theorem d_Model_init_329 : decode prog_14_method_1_code 329 = .ok (.putfield 112, 3) := by decide +kernel
theorem d_Model_init_332 : decode prog_14_method_1_code 332 = .ok (.aload_n 0, 1) := by decide +kernel
theorem d_Model_init_333 : decode prog_14_method_1_code 333 = .ok (.iconst 1, 1) := by decide +kernel
theorem d_Model_init_334 : decode prog_14_method_1_code 334 = .ok (.putfield 115, 3) := by decide +kernel
theorem d_Model_init_337 : decode prog_14_method_1_code 337 = .ok (.aload_n 0, 1) := by decide +kernel
theorem d_Model_init_338 : decode prog_14_method_1_code 338 = .ok (.sipush (960), 3) := by decide +kernel
theorem d_Model_init_341 : decode prog_14_method_1_code 341 = .ok (.newarray .int, 2) := by decide +kernel
theorem d_Model_init_343 : decode prog_14_method_1_code 343 = .ok (.putfield 118, 3) := by decide +kernel
theorem d_Model_init_346 : decode prog_14_method_1_code 346 = .ok (.aload_n 0, 1) := by decide +kernel
theorem d_Model_init_347 : decode prog_14_method_1_code 347 = .ok (.bipush (12), 2) := by decide +kernel
theorem d_Model_init_349 : decode prog_14_method_1_code 349 = .ok (.newarray .int, 2) := by decide +kernel
theorem d_Model_init_351 : decode prog_14_method_1_code 351 = .ok (.putfield 121, 3) := by decide +kernel
theorem d_Model_init_354 : decode prog_14_method_1_code 354 = .ok (.aload_n 0, 1) := by decide +kernel
theorem d_Model_init_355 : decode prog_14_method_1_code 355 = .ok (.bipush (12), 2) := by decide +kernel
theorem d_Model_init_357 : decode prog_14_method_1_code 357 = .ok (.newarray .int, 2) := by decide +kernel
theorem d_Model_init_359 : decode prog_14_method_1_code 359 = .ok (.putfield 124, 3) := by decide +kernel
theorem d_Model_init_362 : decode prog_14_method_1_code 362 = .ok (.aload_n 0, 1) := by decide +kernel
theorem d_Model_init_363 : decode prog_14_method_1_code 363 = .ok (.sipush (200), 3) := by decide +kernel
theorem d_Model_init_366 : decode prog_14_method_1_code 366 = .ok (.newarray .int, 2) := by decide +kernel
theorem d_Model_init_368 : decode prog_14_method_1_code 368 = .ok (.putfield 127, 3) := by decide +kernel
theorem d_Model_init_371 : decode prog_14_method_1_code 371 = .ok (.aload_n 0, 1) := by decide +kernel
theorem d_Model_init_372 : decode prog_14_method_1_code 372 = .ok (.sipush (512), 3) := by decide +kernel
theorem d_Model_init_375 : decode prog_14_method_1_code 375 = .ok (.newarray .int, 2) := by decide +kernel
theorem d_Model_init_377 : decode prog_14_method_1_code 377 = .ok (.putfield 130, 3) := by decide +kernel
theorem d_Model_init_380 : decode prog_14_method_1_code 380 = .ok (.aload_n 0, 1) := by decide +kernel
theorem d_Model_init_381 : decode prog_14_method_1_code 381 = .ok (.sipush (512), 3) := by decide +kernel
theorem d_Model_init_384 : decode prog_14_method_1_code 384 = .ok (.newarray .int, 2) := by decide +kernel
theorem d_Model_init_386 : decode prog_14_method_1_code 386 = .ok (.putfield 133, 3) := by decide +kernel
theorem d_Model_init_389 : decode prog_14_method_1_code 389 = .ok (.aload_n 0, 1) := by decide +kernel
theorem d_Model_init_390 : decode prog_14_method_1_code 390 = .ok (.iconst (-1), 1) := by decide +kernel
theorem d_Model_init_391 : decode prog_14_method_1_code 391 = .ok (.putfield 136, 3) := by decide +kernel
theorem d_Model_init_394 : decode prog_14_method_1_code 394 = .ok (.aload_n 0, 1) := by decide +kernel
theorem d_Model_init_395 : decode prog_14_method_1_code 395 = .ok (.sipush (2000), 3) := by decide +kernel
theorem d_Model_init_398 : decode prog_14_method_1_code 398 = .ok (.newarray .int, 2) := by decide +kernel
theorem d_Model_init_400 : decode prog_14_method_1_code 400 = .ok (.putfield 139, 3) := by decide +kernel
theorem d_Model_init_403 : decode prog_14_method_1_code 403 = .ok (.return_, 1) := by decide +kernel
set_option maxHeartbeats 4000000 in
set_option maxRecDepth 100000 in
theorem n_Model_init (l : Launch) (G : xG) (f : Nat → va_E) (hf : ∀ j, 51 ≤ j → j < 66 → f j = xcl G x_s0 j) : Met l y_Model_init ws_Model_init { frames := 1, cells := 14, slots := 6030, locals := 20 } (xPk G (xu f 51 (.inr (10, [.null, .int 0, .null, .null, .null, .null, .int 0, .int 0, .int 0, .int 0, .int 0, .null, .int 0, .int 0, .null, .int 0, .int 0, .int 0, .null, .null, .null, .int 0, .int 0, .null, .int 0, .int 0, .int 0, .null, .null, .int 0, .int 0, .int 0, .null]))) (52) [.ref (G.2.1 51)]) (xQk G f (66)) 14 (6030) (xA G) := by
  refine Met.ofW (cc := prog_14_method_1_code) (maxL := 1) (ret := none) (by decide) rfl ?_
  intro p e s m args below meth c s₁ B hml hv
  obtain ⟨rfl, hs, hw, hC⟩ := hv
  have hx := B.exec
  have hb := B.bytes
  have hr := B.returns
  have hu : ∀ w ∈ UW, w.before _ s = true := fun w h => atoms_spec B.pre w (List.mem_cons_of_mem _ h)
  have hown : s.vm.findClass R_Model = some m.cls := findClass_of_methodNamed B.named
  have hlocks := B.notSynchronized
  have hin : meth.name = "<init>" := (name_of_methodNamed B.named B.method).1
  have hI : xInj G := hC.2.1.inj
  have hS : va_S (xA G) s.heap s.heap [] := va_S.rf
  have hl := lv_entry ([.ref (G.2.1 51)]) (n := 1) (Nat.le_of_ble_eq_true rfl)
  rw [lg_entry_eq]
  generalize (lg_sl ([.ref (G.2.1 51)]) ++ List.replicate (1 - (lg_sl ([.ref (G.2.1 51)])).length) Slot.unset).toArray = ls at hl ⊢
  have hl : lv_has ls 1 [(0, .ref (G.2.1 51))] := hl
  refine lv_aload_n hx hb d_Model_init_0 rfl (lv_at hl 0 rfl) ?_
  refine W.objInit hx hb hown (hu _ mw_1030) (hu _ mw_92) (hu _ mw_93) rfl (by rw [hml]; exact hl.1) rfl d_Model_init_1 (Nat.le_of_ble_eq_true rfl) (Nat.le_of_ble_eq_true rfl) ?_
  show W p l e _ s m _ below meth c _ _ _ _ _ (F0 m 4 ls [])
  refine lv_aload_n hx hb d_Model_init_4 rfl (lv_at hl 0 rfl) ?_
  refine lv_bipush (v := (38 : Int32)) hx hb d_Model_init_5 (by decide) ?_
  refine x_sz (fun hz => ?_)
  have hsz : _ = G.2.1 52 := xk.sz (n := 51) hC hw hz (by rw [hs]; exact (hC.2.1.add (52) 0).symm)
  refine x_newa (G := G) (atype := .long) hx hb mw_1168 hu 2 rfl hC hsz hw hS (a0 := (38, .inr (.inl (x_wf 0)))) (fun cA => by rw [x_wf0]; rfl) (by decide) (by decide) (by decide) (Nat.le_of_ble_eq_true rfl) (Nat.le_of_ble_eq_true rfl) d_Model_init_7 (fun H hw hS => ?_)
  have hw : xk G (xu (xu f 51 (.inr (10, [.null, .int 0, .null, .null, .null, .null, .int 0, .int 0, .int 0, .int 0, .int 0, .null, .int 0, .int 0, .null, .int 0, .int 0, .int 0, .null, .null, .null, .int 0, .int 0, .null, .int 0, .int 0, .int 0, .null, .null, .int 0, .int 0, .int 0, .null]))) 52 (.inl (G.2.2.1 2, 38, .inr (.inl (x_wf 0))))) (53) H := hw
  refine lv_dup hx hb d_Model_init_9 rfl ?_
  refine lv_iconst (v := (0 : Int32)) hx hb d_Model_init_10 (by decide) ?_
  refine lv_ldc2 (v := (7021802314326568808 : Int64)) hx hb hown (hu _ mw_1031) d_Model_init_11 ?_
  refine va_last hx hb hC.1 hw.P (wk_D hI (by decide)) hS 52 2 (wk_at (by decide) (xu_eq _ _ _)) rfl (by unfold vp_in; decide) d_Model_init_14 (fun H locs hw _ hS => ?_)
  replace hw := xk.ofset (by decide) hw
  rw [xu_same] at hw
  have hw : xk G (xu (xu f 51 (.inr (10, [.null, .int 0, .null, .null, .null, .null, .int 0, .int 0, .int 0, .int 0, .int 0, .null, .int 0, .int 0, .null, .int 0, .int 0, .int 0, .null, .null, .null, .int 0, .int 0, .null, .int 0, .int 0, .int 0, .null, .null, .int 0, .int 0, .int 0, .null]))) 52 (.inl (G.2.2.1 2, 38, .inr (.inl (vp_updL (x_wf 0) 0 (x_words.getD 0 0)))))) (53) H := hw
  rw [x_wf_up] at hw
  refine lv_dup hx hb d_Model_init_15 rfl ?_
  refine lv_iconst (v := (1 : Int32)) hx hb d_Model_init_16 (by decide) ?_
  refine lv_ldc2 (v := (7954814286170583918 : Int64)) hx hb hown (hu _ mw_1032) d_Model_init_17 ?_
  refine va_last hx hb hC.1 hw.P (wk_D hI (by decide)) hS 52 2 (wk_at (by decide) (xu_eq _ _ _)) rfl (by unfold vp_in; decide) d_Model_init_20 (fun H locs hw _ hS => ?_)
  replace hw := xk.ofset (by decide) hw
  rw [xu_same] at hw
  have hw : xk G (xu (xu f 51 (.inr (10, [.null, .int 0, .null, .null, .null, .null, .int 0, .int 0, .int 0, .int 0, .int 0, .null, .int 0, .int 0, .null, .int 0, .int 0, .int 0, .null, .null, .null, .int 0, .int 0, .null, .int 0, .int 0, .int 0, .null, .null, .int 0, .int 0, .int 0, .null]))) 52 (.inl (G.2.2.1 2, 38, .inr (.inl (vp_updL (x_wf 1) 1 (x_words.getD 1 0)))))) (53) H := hw
  rw [x_wf_up] at hw
  refine lv_dup hx hb d_Model_init_21 rfl ?_
  refine lv_iconst (v := (2 : Int32)) hx hb d_Model_init_22 (by decide) ?_
  refine lv_ldc2 (v := (7133815533667118947 : Int64)) hx hb hown (hu _ mw_1033) d_Model_init_23 ?_
  refine va_last hx hb hC.1 hw.P (wk_D hI (by decide)) hS 52 2 (wk_at (by decide) (xu_eq _ _ _)) rfl (by unfold vp_in; decide) d_Model_init_26 (fun H locs hw _ hS => ?_)
  replace hw := xk.ofset (by decide) hw
  rw [xu_same] at hw
  have hw : xk G (xu (xu f 51 (.inr (10, [.null, .int 0, .null, .null, .null, .null, .int 0, .int 0, .int 0, .int 0, .int 0, .null, .int 0, .int 0, .null, .int 0, .int 0, .int 0, .null, .null, .null, .int 0, .int 0, .null, .int 0, .int 0, .int 0, .null, .null, .int 0, .int 0, .int 0, .null]))) 52 (.inl (G.2.2.1 2, 38, .inr (.inl (vp_updL (x_wf 2) 2 (x_words.getD 2 0)))))) (53) H := hw
  rw [x_wf_up] at hw
  refine lv_dup hx hb d_Model_init_27 rfl ?_
  refine lv_iconst (v := (3 : Int32)) hx hb d_Model_init_28 (by decide) ?_
  refine lv_ldc2 (v := (7795014547545550447 : Int64)) hx hb hown (hu _ mw_1034) d_Model_init_29 ?_
  refine va_last hx hb hC.1 hw.P (wk_D hI (by decide)) hS 52 2 (wk_at (by decide) (xu_eq _ _ _)) rfl (by unfold vp_in; decide) d_Model_init_32 (fun H locs hw _ hS => ?_)
  replace hw := xk.ofset (by decide) hw
  rw [xu_same] at hw
  have hw : xk G (xu (xu f 51 (.inr (10, [.null, .int 0, .null, .null, .null, .null, .int 0, .int 0, .int 0, .int 0, .int 0, .null, .int 0, .int 0, .null, .int 0, .int 0, .int 0, .null, .null, .null, .int 0, .int 0, .null, .int 0, .int 0, .int 0, .null, .null, .int 0, .int 0, .int 0, .null]))) 52 (.inl (G.2.2.1 2, 38, .inr (.inl (vp_updL (x_wf 3) 3 (x_words.getD 3 0)))))) (53) H := hw
  rw [x_wf_up] at hw
  refine lv_dup hx hb d_Model_init_33 rfl ?_
  refine lv_iconst (v := (4 : Int32)) hx hb d_Model_init_34 (by decide) ?_
  refine lv_ldc2 (v := (8675340705828662885 : Int64)) hx hb hown (hu _ mw_1035) d_Model_init_35 ?_
  refine va_last hx hb hC.1 hw.P (wk_D hI (by decide)) hS 52 2 (wk_at (by decide) (xu_eq _ _ _)) rfl (by unfold vp_in; decide) d_Model_init_38 (fun H locs hw _ hS => ?_)
  replace hw := xk.ofset (by decide) hw
  rw [xu_same] at hw
  have hw : xk G (xu (xu f 51 (.inr (10, [.null, .int 0, .null, .null, .null, .null, .int 0, .int 0, .int 0, .int 0, .int 0, .null, .int 0, .int 0, .null, .int 0, .int 0, .int 0, .null, .null, .null, .int 0, .int 0, .null, .int 0, .int 0, .int 0, .null, .null, .int 0, .int 0, .int 0, .null]))) 52 (.inl (G.2.2.1 2, 38, .inr (.inl (vp_updL (x_wf 4) 4 (x_words.getD 4 0)))))) (53) H := hw
  rw [x_wf_up] at hw
  refine lv_dup hx hb d_Model_init_39 rfl ?_
  refine lv_iconst (v := (5 : Int32)) hx hb d_Model_init_40 (by decide) ?_
  refine lv_ldc2 (v := (7957687920190776688 : Int64)) hx hb hown (hu _ mw_1036) d_Model_init_41 ?_
  refine va_last hx hb hC.1 hw.P (wk_D hI (by decide)) hS 52 2 (wk_at (by decide) (xu_eq _ _ _)) rfl (by unfold vp_in; decide) d_Model_init_44 (fun H locs hw _ hS => ?_)
  replace hw := xk.ofset (by decide) hw
  rw [xu_same] at hw
  have hw : xk G (xu (xu f 51 (.inr (10, [.null, .int 0, .null, .null, .null, .null, .int 0, .int 0, .int 0, .int 0, .int 0, .null, .int 0, .int 0, .null, .int 0, .int 0, .int 0, .null, .null, .null, .int 0, .int 0, .null, .int 0, .int 0, .int 0, .null, .null, .int 0, .int 0, .int 0, .null]))) 52 (.inl (G.2.2.1 2, 38, .inr (.inl (vp_updL (x_wf 5) 5 (x_words.getD 5 0)))))) (53) H := hw
  rw [x_wf_up] at hw
  refine lv_dup hx hb d_Model_init_45 rfl ?_
  refine lv_bipush (v := (6 : Int32)) hx hb d_Model_init_46 (by decide) ?_
  refine lv_ldc2 (v := (31084746153092462 : Int64)) hx hb hown (hu _ mw_1037) d_Model_init_48 ?_
  refine va_last hx hb hC.1 hw.P (wk_D hI (by decide)) hS 52 2 (wk_at (by decide) (xu_eq _ _ _)) rfl (by unfold vp_in; decide) d_Model_init_51 (fun H locs hw _ hS => ?_)
  replace hw := xk.ofset (by decide) hw
  rw [xu_same] at hw
  have hw : xk G (xu (xu f 51 (.inr (10, [.null, .int 0, .null, .null, .null, .null, .int 0, .int 0, .int 0, .int 0, .int 0, .null, .int 0, .int 0, .null, .int 0, .int 0, .int 0, .null, .null, .null, .int 0, .int 0, .null, .int 0, .int 0, .int 0, .null, .null, .int 0, .int 0, .int 0, .null]))) 52 (.inl (G.2.2.1 2, 38, .inr (.inl (vp_updL (x_wf 6) 6 (x_words.getD 6 0)))))) (53) H := hw
  rw [x_wf_up] at hw
  refine lv_dup hx hb d_Model_init_52 rfl ?_
  refine lv_bipush (v := (7 : Int32)) hx hb d_Model_init_53 (by decide) ?_
  refine lv_ldc2 (v := (3271142129223427689 : Int64)) hx hb hown (hu _ mw_1038) d_Model_init_55 ?_
  refine va_last hx hb hC.1 hw.P (wk_D hI (by decide)) hS 52 2 (wk_at (by decide) (xu_eq _ _ _)) rfl (by unfold vp_in; decide) d_Model_init_58 (fun H locs hw _ hS => ?_)
  replace hw := xk.ofset (by decide) hw
  rw [xu_same] at hw
  have hw : xk G (xu (xu f 51 (.inr (10, [.null, .int 0, .null, .null, .null, .null, .int 0, .int 0, .int 0, .int 0, .int 0, .null, .int 0, .int 0, .null, .int 0, .int 0, .int 0, .null, .null, .null, .int 0, .int 0, .null, .int 0, .int 0, .int 0, .null, .null, .int 0, .int 0, .int 0, .null]))) 52 (.inl (G.2.2.1 2, 38, .inr (.inl (vp_updL (x_wf 7) 7 (x_words.getD 7 0)))))) (53) H := hw
  rw [x_wf_up] at hw
  refine lv_dup hx hb d_Model_init_59 rfl ?_
  refine lv_bipush (v := (8 : Int32)) hx hb d_Model_init_60 (by decide) ?_
  refine lv_ldc2 (v := (7021675217369194861 : Int64)) hx hb hown (hu _ mw_1039) d_Model_init_62 ?_
  refine va_last hx hb hC.1 hw.P (wk_D hI (by decide)) hS 52 2 (wk_at (by decide) (xu_eq _ _ _)) rfl (by unfold vp_in; decide) d_Model_init_65 (fun H locs hw _ hS => ?_)
  replace hw := xk.ofset (by decide) hw
  rw [xu_same] at hw
  have hw : xk G (xu (xu f 51 (.inr (10, [.null, .int 0, .null, .null, .null, .null, .int 0, .int 0, .int 0, .int 0, .int 0, .null, .int 0, .int 0, .null, .int 0, .int 0, .int 0, .null, .null, .null, .int 0, .int 0, .null, .int 0, .int 0, .int 0, .null, .null, .int 0, .int 0, .int 0, .null]))) 52 (.inl (G.2.2.1 2, 38, .inr (.inl (vp_updL (x_wf 8) 8 (x_words.getD 8 0)))))) (53) H := hw
  rw [x_wf_up] at hw
  refine lv_dup hx hb d_Model_init_66 rfl ?_
  refine lv_bipush (v := (9 : Int32)) hx hb d_Model_init_67 (by decide) ?_
  refine lv_ldc2 (v := (7959382690864916334 : Int64)) hx hb hown (hu _ mw_1040) d_Model_init_69 ?_
  refine va_last hx hb hC.1 hw.P (wk_D hI (by decide)) hS 52 2 (wk_at (by decide) (xu_eq _ _ _)) rfl (by unfold vp_in; decide) d_Model_init_72 (fun H locs hw _ hS => ?_)
  replace hw := xk.ofset (by decide) hw
  rw [xu_same] at hw
  have hw : xk G (xu (xu f 51 (.inr (10, [.null, .int 0, .null, .null, .null, .null, .int 0, .int 0, .int 0, .int 0, .int 0, .null, .int 0, .int 0, .null, .int 0, .int 0, .int 0, .null, .null, .null, .int 0, .int 0, .null, .int 0, .int 0, .int 0, .null, .null, .int 0, .int 0, .int 0, .null]))) 52 (.inl (G.2.2.1 2, 38, .inr (.inl (vp_updL (x_wf 9) 9 (x_words.getD 9 0)))))) (53) H := hw
  rw [x_wf_up] at hw
  refine lv_dup hx hb d_Model_init_73 rfl ?_
  refine lv_bipush (v := (10 : Int32)) hx hb d_Model_init_74 (by decide) ?_
  refine lv_ldc2 (v := (3256155517606978923 : Int64)) hx hb hown (hu _ mw_1041) d_Model_init_76 ?_
  refine va_last hx hb hC.1 hw.P (wk_D hI (by decide)) hS 52 2 (wk_at (by decide) (xu_eq _ _ _)) rfl (by unfold vp_in; decide) d_Model_init_79 (fun H locs hw _ hS => ?_)
  replace hw := xk.ofset (by decide) hw
  rw [xu_same] at hw
  have hw : xk G (xu (xu f 51 (.inr (10, [.null, .int 0, .null, .null, .null, .null, .int 0, .int 0, .int 0, .int 0, .int 0, .null, .int 0, .int 0, .null, .int 0, .int 0, .int 0, .null, .null, .null, .int 0, .int 0, .null, .int 0, .int 0, .int 0, .null, .null, .int 0, .int 0, .int 0, .null]))) 52 (.inl (G.2.2.1 2, 38, .inr (.inl (vp_updL (x_wf 10) 10 (x_words.getD 10 0)))))) (53) H := hw
  rw [x_wf_up] at hw
  refine lv_dup hx hb d_Model_init_80 rfl ?_
  refine lv_bipush (v := (11 : Int32)) hx hb d_Model_init_81 (by decide) ?_
  refine lv_ldc2 (v := (7310870969309884259 : Int64)) hx hb hown (hu _ mw_1042) d_Model_init_83 ?_
  refine va_last hx hb hC.1 hw.P (wk_D hI (by decide)) hS 52 2 (wk_at (by decide) (xu_eq _ _ _)) rfl (by unfold vp_in; decide) d_Model_init_86 (fun H locs hw _ hS => ?_)
  replace hw := xk.ofset (by decide) hw
  rw [xu_same] at hw
  have hw : xk G (xu (xu f 51 (.inr (10, [.null, .int 0, .null, .null, .null, .null, .int 0, .int 0, .int 0, .int 0, .int 0, .null, .int 0, .int 0, .null, .int 0, .int 0, .int 0, .null, .null, .null, .int 0, .int 0, .null, .int 0, .int 0, .int 0, .null, .null, .int 0, .int 0, .int 0, .null]))) 52 (.inl (G.2.2.1 2, 38, .inr (.inl (vp_updL (x_wf 11) 11 (x_words.getD 11 0)))))) (53) H := hw
  rw [x_wf_up] at hw
  refine lv_dup hx hb d_Model_init_87 rfl ?_
  refine lv_bipush (v := (12 : Int32)) hx hb d_Model_init_88 (by decide) ?_
  refine lv_ldc2 (v := (7710274108523307776 : Int64)) hx hb hown (hu _ mw_1043) d_Model_init_90 ?_
  refine va_last hx hb hC.1 hw.P (wk_D hI (by decide)) hS 52 2 (wk_at (by decide) (xu_eq _ _ _)) rfl (by unfold vp_in; decide) d_Model_init_93 (fun H locs hw _ hS => ?_)
  replace hw := xk.ofset (by decide) hw
  rw [xu_same] at hw
  have hw : xk G (xu (xu f 51 (.inr (10, [.null, .int 0, .null, .null, .null, .null, .int 0, .int 0, .int 0, .int 0, .int 0, .null, .int 0, .int 0, .null, .int 0, .int 0, .int 0, .null, .null, .null, .int 0, .int 0, .null, .int 0, .int 0, .int 0, .null, .null, .int 0, .int 0, .int 0, .null]))) 52 (.inl (G.2.2.1 2, 38, .inr (.inl (vp_updL (x_wf 12) 12 (x_words.getD 12 0)))))) (53) H := hw
  rw [x_wf_up] at hw
  refine lv_dup hx hb d_Model_init_94 rfl ?_
  refine lv_bipush (v := (13 : Int32)) hx hb d_Model_init_95 (by decide) ?_
  refine lv_ldc2 (v := (8532470133660083557 : Int64)) hx hb hown (hu _ mw_1044) d_Model_init_97 ?_
  refine va_last hx hb hC.1 hw.P (wk_D hI (by decide)) hS 52 2 (wk_at (by decide) (xu_eq _ _ _)) rfl (by unfold vp_in; decide) d_Model_init_100 (fun H locs hw _ hS => ?_)
  replace hw := xk.ofset (by decide) hw
  rw [xu_same] at hw
  have hw : xk G (xu (xu f 51 (.inr (10, [.null, .int 0, .null, .null, .null, .null, .int 0, .int 0, .int 0, .int 0, .int 0, .null, .int 0, .int 0, .null, .int 0, .int 0, .int 0, .null, .null, .null, .int 0, .int 0, .null, .int 0, .int 0, .int 0, .null, .null, .int 0, .int 0, .int 0, .null]))) 52 (.inl (G.2.2.1 2, 38, .inr (.inl (vp_updL (x_wf 13) 13 (x_words.getD 13 0)))))) (53) H := hw
  rw [x_wf_up] at hw
  refine lv_dup hx hb d_Model_init_101 rfl ?_
  refine lv_bipush (v := (14 : Int32)) hx hb d_Model_init_102 (by decide) ?_
  refine lv_ldc2 (v := (4427994409562407013 : Int64)) hx hb hown (hu _ mw_1045) d_Model_init_104 ?_
  refine va_last hx hb hC.1 hw.P (wk_D hI (by decide)) hS 52 2 (wk_at (by decide) (xu_eq _ _ _)) rfl (by unfold vp_in; decide) d_Model_init_107 (fun H locs hw _ hS => ?_)
  replace hw := xk.ofset (by decide) hw
  rw [xu_same] at hw
  have hw : xk G (xu (xu f 51 (.inr (10, [.null, .int 0, .null, .null, .null, .null, .int 0, .int 0, .int 0, .int 0, .int 0, .null, .int 0, .int 0, .null, .int 0, .int 0, .int 0, .null, .null, .null, .int 0, .int 0, .null, .int 0, .int 0, .int 0, .null, .null, .int 0, .int 0, .int 0, .null]))) 52 (.inl (G.2.2.1 2, 38, .inr (.inl (vp_updL (x_wf 14) 14 (x_words.getD 14 0)))))) (53) H := hw
  rw [x_wf_up] at hw
  refine lv_dup hx hb d_Model_init_108 rfl ?_
  refine lv_bipush (v := (15 : Int32)) hx hb d_Model_init_109 (by decide) ?_
  refine lv_ldc2 (v := (4703244552109377280 : Int64)) hx hb hown (hu _ mw_1046) d_Model_init_111 ?_
  refine va_last hx hb hC.1 hw.P (wk_D hI (by decide)) hS 52 2 (wk_at (by decide) (xu_eq _ _ _)) rfl (by unfold vp_in; decide) d_Model_init_114 (fun H locs hw _ hS => ?_)
  replace hw := xk.ofset (by decide) hw
  rw [xu_same] at hw
  have hw : xk G (xu (xu f 51 (.inr (10, [.null, .int 0, .null, .null, .null, .null, .int 0, .int 0, .int 0, .int 0, .int 0, .null, .int 0, .int 0, .null, .int 0, .int 0, .int 0, .null, .null, .null, .int 0, .int 0, .null, .int 0, .int 0, .int 0, .null, .null, .int 0, .int 0, .int 0, .null]))) 52 (.inl (G.2.2.1 2, 38, .inr (.inl (vp_updL (x_wf 15) 15 (x_words.getD 15 0)))))) (53) H := hw
  rw [x_wf_up] at hw
  refine lv_dup hx hb d_Model_init_115 rfl ?_
  refine lv_bipush (v := (16 : Int32)) hx hb d_Model_init_116 (by decide) ?_
  refine lv_ldc2 (v := (5715068289341718596 : Int64)) hx hb hown (hu _ mw_1047) d_Model_init_118 ?_
  refine va_last hx hb hC.1 hw.P (wk_D hI (by decide)) hS 52 2 (wk_at (by decide) (xu_eq _ _ _)) rfl (by unfold vp_in; decide) d_Model_init_121 (fun H locs hw _ hS => ?_)
  replace hw := xk.ofset (by decide) hw
  rw [xu_same] at hw
  have hw : xk G (xu (xu f 51 (.inr (10, [.null, .int 0, .null, .null, .null, .null, .int 0, .int 0, .int 0, .int 0, .int 0, .null, .int 0, .int 0, .null, .int 0, .int 0, .int 0, .null, .null, .null, .int 0, .int 0, .null, .int 0, .int 0, .int 0, .null, .null, .int 0, .int 0, .int 0, .null]))) 52 (.inl (G.2.2.1 2, 38, .inr (.inl (vp_updL (x_wf 16) 16 (x_words.getD 16 0)))))) (53) H := hw
  rw [x_wf_up] at hw
  refine lv_dup hx hb d_Model_init_122 rfl ?_
  refine lv_bipush (v := (17 : Int32)) hx hb d_Model_init_123 (by decide) ?_
  refine lv_ldc2 (v := (6072343532956308563 : Int64)) hx hb hown (hu _ mw_1048) d_Model_init_125 ?_
  refine va_last hx hb hC.1 hw.P (wk_D hI (by decide)) hS 52 2 (wk_at (by decide) (xu_eq _ _ _)) rfl (by unfold vp_in; decide) d_Model_init_128 (fun H locs hw _ hS => ?_)
  replace hw := xk.ofset (by decide) hw
  rw [xu_same] at hw
  have hw : xk G (xu (xu f 51 (.inr (10, [.null, .int 0, .null, .null, .null, .null, .int 0, .int 0, .int 0, .int 0, .int 0, .null, .int 0, .int 0, .null, .int 0, .int 0, .int 0, .null, .null, .null, .int 0, .int 0, .null, .int 0, .int 0, .int 0, .null, .null, .int 0, .int 0, .int 0, .null]))) 52 (.inl (G.2.2.1 2, 38, .inr (.inl (vp_updL (x_wf 17) 17 (x_words.getD 17 0)))))) (53) H := hw
  rw [x_wf_up] at hw
  refine lv_dup hx hb d_Model_init_129 rfl ?_
  refine lv_bipush (v := (18 : Int32)) hx hb d_Model_init_130 (by decide) ?_
  refine lv_ldc2 (v := (5642809484591956037 : Int64)) hx hb hown (hu _ mw_1049) d_Model_init_132 ?_
  refine va_last hx hb hC.1 hw.P (wk_D hI (by decide)) hS 52 2 (wk_at (by decide) (xu_eq _ _ _)) rfl (by unfold vp_in; decide) d_Model_init_135 (fun H locs hw _ hS => ?_)
  replace hw := xk.ofset (by decide) hw
  rw [xu_same] at hw
  have hw : xk G (xu (xu f 51 (.inr (10, [.null, .int 0, .null, .null, .null, .null, .int 0, .int 0, .int 0, .int 0, .int 0, .null, .int 0, .int 0, .null, .int 0, .int 0, .int 0, .null, .null, .null, .int 0, .int 0, .null, .int 0, .int 0, .int 0, .null, .null, .int 0, .int 0, .int 0, .null]))) 52 (.inl (G.2.2.1 2, 38, .inr (.inl (vp_updL (x_wf 18) 18 (x_words.getD 18 0)))))) (53) H := hw
  rw [x_wf_up] at hw
  refine lv_dup hx hb d_Model_init_136 rfl ?_
  refine lv_bipush (v := (19 : Int32)) hx hb d_Model_init_137 (by decide) ?_
  refine lv_ldc2 (v := (19495721226207315 : Int64)) hx hb hown (hu _ mw_1050) d_Model_init_139 ?_
  refine va_last hx hb hC.1 hw.P (wk_D hI (by decide)) hS 52 2 (wk_at (by decide) (xu_eq _ _ _)) rfl (by unfold vp_in; decide) d_Model_init_142 (fun H locs hw _ hS => ?_)
  replace hw := xk.ofset (by decide) hw
  rw [xu_same] at hw
  have hw : xk G (xu (xu f 51 (.inr (10, [.null, .int 0, .null, .null, .null, .null, .int 0, .int 0, .int 0, .int 0, .int 0, .null, .int 0, .int 0, .null, .int 0, .int 0, .int 0, .null, .null, .null, .int 0, .int 0, .null, .int 0, .int 0, .int 0, .null, .null, .int 0, .int 0, .int 0, .null]))) 52 (.inl (G.2.2.1 2, 38, .inr (.inl (vp_updL (x_wf 19) 19 (x_words.getD 19 0)))))) (53) H := hw
  rw [x_wf_up] at hw
  refine lv_dup hx hb d_Model_init_143 rfl ?_
  refine lv_bipush (v := (20 : Int32)) hx hb d_Model_init_144 (by decide) ?_
  refine lv_ldc2 (v := (3543824036068086856 : Int64)) hx hb hown (hu _ mw_1051) d_Model_init_146 ?_
  refine va_last hx hb hC.1 hw.P (wk_D hI (by decide)) hS 52 2 (wk_at (by decide) (xu_eq _ _ _)) rfl (by unfold vp_in; decide) d_Model_init_149 (fun H locs hw _ hS => ?_)
  replace hw := xk.ofset (by decide) hw
  rw [xu_same] at hw
  have hw : xk G (xu (xu f 51 (.inr (10, [.null, .int 0, .null, .null, .null, .null, .int 0, .int 0, .int 0, .int 0, .int 0, .null, .int 0, .int 0, .null, .int 0, .int 0, .int 0, .null, .null, .null, .int 0, .int 0, .null, .int 0, .int 0, .int 0, .null, .null, .int 0, .int 0, .int 0, .null]))) 52 (.inl (G.2.2.1 2, 38, .inr (.inl (vp_updL (x_wf 20) 20 (x_words.getD 20 0)))))) (53) H := hw
  rw [x_wf_up] at hw
  refine lv_dup hx hb d_Model_init_150 rfl ?_
  refine lv_bipush (v := (21 : Int32)) hx hb d_Model_init_151 (by decide) ?_
  refine lv_ldc2 (v := (7954892334481735712 : Int64)) hx hb hown (hu _ mw_1052) d_Model_init_153 ?_
  refine va_last hx hb hC.1 hw.P (wk_D hI (by decide)) hS 52 2 (wk_at (by decide) (xu_eq _ _ _)) rfl (by unfold vp_in; decide) d_Model_init_156 (fun H locs hw _ hS => ?_)
  replace hw := xk.ofset (by decide) hw
  rw [xu_same] at hw
  have hw : xk G (xu (xu f 51 (.inr (10, [.null, .int 0, .null, .null, .null, .null, .int 0, .int 0, .int 0, .int 0, .int 0, .null, .int 0, .int 0, .null, .int 0, .int 0, .int 0, .null, .null, .null, .int 0, .int 0, .null, .int 0, .int 0, .int 0, .null, .null, .int 0, .int 0, .int 0, .null]))) 52 (.inl (G.2.2.1 2, 38, .inr (.inl (vp_updL (x_wf 21) 21 (x_words.getD 21 0)))))) (53) H := hw
  rw [x_wf_up] at hw
  refine lv_dup hx hb d_Model_init_157 rfl ?_
  refine lv_bipush (v := (22 : Int32)) hx hb d_Model_init_158 (by decide) ?_
  refine lv_ldc2 (v := (7526754601086496116 : Int64)) hx hb hown (hu _ mw_1053) d_Model_init_160 ?_
  refine va_last hx hb hC.1 hw.P (wk_D hI (by decide)) hS 52 2 (wk_at (by decide) (xu_eq _ _ _)) rfl (by unfold vp_in; decide) d_Model_init_163 (fun H locs hw _ hS => ?_)
  replace hw := xk.ofset (by decide) hw
  rw [xu_same] at hw
  have hw : xk G (xu (xu f 51 (.inr (10, [.null, .int 0, .null, .null, .null, .null, .int 0, .int 0, .int 0, .int 0, .int 0, .null, .int 0, .int 0, .null, .int 0, .int 0, .int 0, .null, .null, .null, .int 0, .int 0, .null, .int 0, .int 0, .int 0, .null, .null, .int 0, .int 0, .int 0, .null]))) 52 (.inl (G.2.2.1 2, 38, .inr (.inl (vp_updL (x_wf 22) 22 (x_words.getD 22 0)))))) (53) H := hw
  rw [x_wf_up] at hw
  refine lv_dup hx hb d_Model_init_164 rfl ?_
  refine lv_bipush (v := (23 : Int32)) hx hb d_Model_init_165 (by decide) ?_
  refine lv_ldc2 (v := (4208439391363801146 : Int64)) hx hb hown (hu _ mw_1054) d_Model_init_167 ?_
  refine va_last hx hb hC.1 hw.P (wk_D hI (by decide)) hS 52 2 (wk_at (by decide) (xu_eq _ _ _)) rfl (by unfold vp_in; decide) d_Model_init_170 (fun H locs hw _ hS => ?_)
  replace hw := xk.ofset (by decide) hw
  rw [xu_same] at hw
  have hw : xk G (xu (xu f 51 (.inr (10, [.null, .int 0, .null, .null, .null, .null, .int 0, .int 0, .int 0, .int 0, .int 0, .null, .int 0, .int 0, .null, .int 0, .int 0, .int 0, .null, .null, .null, .int 0, .int 0, .null, .int 0, .int 0, .int 0, .null, .null, .int 0, .int 0, .int 0, .null]))) 52 (.inl (G.2.2.1 2, 38, .inr (.inl (vp_updL (x_wf 23) 23 (x_words.getD 23 0)))))) (53) H := hw
  rw [x_wf_up] at hw
  refine lv_dup hx hb d_Model_init_171 rfl ?_
  refine lv_bipush (v := (24 : Int32)) hx hb d_Model_init_172 (by decide) ?_
  refine lv_ldc2 (v := (7954892334481735712 : Int64)) hx hb hown (hu _ mw_1052) d_Model_init_174 ?_
  refine va_last hx hb hC.1 hw.P (wk_D hI (by decide)) hS 52 2 (wk_at (by decide) (xu_eq _ _ _)) rfl (by unfold vp_in; decide) d_Model_init_177 (fun H locs hw _ hS => ?_)
  replace hw := xk.ofset (by decide) hw
  rw [xu_same] at hw
  have hw : xk G (xu (xu f 51 (.inr (10, [.null, .int 0, .null, .null, .null, .null, .int 0, .int 0, .int 0, .int 0, .int 0, .null, .int 0, .int 0, .null, .int 0, .int 0, .int 0, .null, .null, .null, .int 0, .int 0, .null, .int 0, .int 0, .int 0, .null, .null, .int 0, .int 0, .int 0, .null]))) 52 (.inl (G.2.2.1 2, 38, .inr (.inl (vp_updL (x_wf 24) 24 (x_words.getD 24 0)))))) (53) H := hw
  rw [x_wf_up] at hw
  refine lv_dup hx hb d_Model_init_178 rfl ?_
  refine lv_bipush (v := (25 : Int32)) hx hb d_Model_init_179 (by decide) ?_
  refine lv_ldc2 (v := (4207883150624435572 : Int64)) hx hb hown (hu _ mw_1055) d_Model_init_181 ?_
  refine va_last hx hb hC.1 hw.P (wk_D hI (by decide)) hS 52 2 (wk_at (by decide) (xu_eq _ _ _)) rfl (by unfold vp_in; decide) d_Model_init_184 (fun H locs hw _ hS => ?_)
  replace hw := xk.ofset (by decide) hw
  rw [xu_same] at hw
  have hw : xk G (xu (xu f 51 (.inr (10, [.null, .int 0, .null, .null, .null, .null, .int 0, .int 0, .int 0, .int 0, .int 0, .null, .int 0, .int 0, .null, .int 0, .int 0, .int 0, .null, .null, .null, .int 0, .int 0, .null, .int 0, .int 0, .int 0, .null, .null, .int 0, .int 0, .int 0, .null]))) 52 (.inl (G.2.2.1 2, 38, .inr (.inl (vp_updL (x_wf 25) 25 (x_words.getD 25 0)))))) (53) H := hw
  rw [x_wf_up] at hw
  refine lv_dup hx hb d_Model_init_185 rfl ?_
  refine lv_bipush (v := (26 : Int32)) hx hb d_Model_init_186 (by decide) ?_
  refine lv_ldc2 (v := (9134078837744160 : Int64)) hx hb hown (hu _ mw_1056) d_Model_init_188 ?_
  refine va_last hx hb hC.1 hw.P (wk_D hI (by decide)) hS 52 2 (wk_at (by decide) (xu_eq _ _ _)) rfl (by unfold vp_in; decide) d_Model_init_191 (fun H locs hw _ hS => ?_)
  replace hw := xk.ofset (by decide) hw
  rw [xu_same] at hw
  have hw : xk G (xu (xu f 51 (.inr (10, [.null, .int 0, .null, .null, .null, .null, .int 0, .int 0, .int 0, .int 0, .int 0, .null, .int 0, .int 0, .null, .int 0, .int 0, .int 0, .null, .null, .null, .int 0, .int 0, .null, .int 0, .int 0, .int 0, .null, .null, .int 0, .int 0, .int 0, .null]))) 52 (.inl (G.2.2.1 2, 38, .inr (.inl (vp_updL (x_wf 26) 26 (x_words.getD 26 0)))))) (53) H := hw
  rw [x_wf_up] at hw
  refine lv_dup hx hb d_Model_init_192 rfl ?_
  refine lv_bipush (v := (27 : Int32)) hx hb d_Model_init_193 (by decide) ?_
  refine lv_ldc2 (v := (5125160660592520257 : Int64)) hx hb hown (hu _ mw_1057) d_Model_init_195 ?_
  refine va_last hx hb hC.1 hw.P (wk_D hI (by decide)) hS 52 2 (wk_at (by decide) (xu_eq _ _ _)) rfl (by unfold vp_in; decide) d_Model_init_198 (fun H locs hw _ hS => ?_)
  replace hw := xk.ofset (by decide) hw
  rw [xu_same] at hw
  have hw : xk G (xu (xu f 51 (.inr (10, [.null, .int 0, .null, .null, .null, .null, .int 0, .int 0, .int 0, .int 0, .int 0, .null, .int 0, .int 0, .null, .int 0, .int 0, .int 0, .null, .null, .null, .int 0, .int 0, .null, .int 0, .int 0, .int 0, .null, .null, .int 0, .int 0, .int 0, .null]))) 52 (.inl (G.2.2.1 2, 38, .inr (.inl (vp_updL (x_wf 27) 27 (x_words.getD 27 0)))))) (53) H := hw
  rw [x_wf_up] at hw
  refine lv_dup hx hb d_Model_init_199 rfl ?_
  refine lv_bipush (v := (28 : Int32)) hx hb d_Model_init_200 (by decide) ?_
  refine lv_ldc2 (v := (4918288444145030213 : Int64)) hx hb hown (hu _ mw_1058) d_Model_init_202 ?_
  refine va_last hx hb hC.1 hw.P (wk_D hI (by decide)) hS 52 2 (wk_at (by decide) (xu_eq _ _ _)) rfl (by unfold vp_in; decide) d_Model_init_205 (fun H locs hw _ hS => ?_)
  replace hw := xk.ofset (by decide) hw
  rw [xu_same] at hw
  have hw : xk G (xu (xu f 51 (.inr (10, [.null, .int 0, .null, .null, .null, .null, .int 0, .int 0, .int 0, .int 0, .int 0, .null, .int 0, .int 0, .null, .int 0, .int 0, .int 0, .null, .null, .null, .int 0, .int 0, .null, .int 0, .int 0, .int 0, .null, .null, .int 0, .int 0, .int 0, .null]))) 52 (.inl (G.2.2.1 2, 38, .inr (.inl (vp_updL (x_wf 28) 28 (x_words.getD 28 0)))))) (53) H := hw
  rw [x_wf_up] at hw
  refine lv_dup hx hb d_Model_init_206 rfl ?_
  refine lv_bipush (v := (29 : Int32)) hx hb d_Model_init_207 (by decide) ?_
  refine lv_ldc2 (v := (5773663463009165356 : Int64)) hx hb hown (hu _ mw_1059) d_Model_init_209 ?_
  refine va_last hx hb hC.1 hw.P (wk_D hI (by decide)) hS 52 2 (wk_at (by decide) (xu_eq _ _ _)) rfl (by unfold vp_in; decide) d_Model_init_212 (fun H locs hw _ hS => ?_)
  replace hw := xk.ofset (by decide) hw
  rw [xu_same] at hw
  have hw : xk G (xu (xu f 51 (.inr (10, [.null, .int 0, .null, .null, .null, .null, .int 0, .int 0, .int 0, .int 0, .int 0, .null, .int 0, .int 0, .null, .int 0, .int 0, .int 0, .null, .null, .null, .int 0, .int 0, .null, .int 0, .int 0, .int 0, .null, .null, .int 0, .int 0, .int 0, .null]))) 52 (.inl (G.2.2.1 2, 38, .inr (.inl (vp_updL (x_wf 29) 29 (x_words.getD 29 0)))))) (53) H := hw
  rw [x_wf_up] at hw
  refine lv_dup hx hb d_Model_init_213 rfl ?_
  refine lv_bipush (v := (30 : Int32)) hx hb d_Model_init_214 (by decide) ?_
  refine lv_ldc2 (v := (5495873825248924495 : Int64)) hx hb hown (hu _ mw_1060) d_Model_init_216 ?_
  refine va_last hx hb hC.1 hw.P (wk_D hI (by decide)) hS 52 2 (wk_at (by decide) (xu_eq _ _ _)) rfl (by unfold vp_in; decide) d_Model_init_219 (fun H locs hw _ hS => ?_)
  replace hw := xk.ofset (by decide) hw
  rw [xu_same] at hw
  have hw : xk G (xu (xu f 51 (.inr (10, [.null, .int 0, .null, .null, .null, .null, .int 0, .int 0, .int 0, .int 0, .int 0, .null, .int 0, .int 0, .null, .int 0, .int 0, .int 0, .null, .null, .null, .int 0, .int 0, .null, .int 0, .int 0, .int 0, .null, .null, .int 0, .int 0, .int 0, .null]))) 52 (.inl (G.2.2.1 2, 38, .inr (.inl (vp_updL (x_wf 30) 30 (x_words.getD 30 0)))))) (53) H := hw
  rw [x_wf_up] at hw
  refine lv_dup hx hb d_Model_init_220 rfl ?_
  refine lv_bipush (v := (31 : Int32)) hx hb d_Model_init_221 (by decide) ?_
  refine lv_ldc2 (v := (6075442896923087941 : Int64)) hx hb hown (hu _ mw_1061) d_Model_init_223 ?_
  refine va_last hx hb hC.1 hw.P (wk_D hI (by decide)) hS 52 2 (wk_at (by decide) (xu_eq _ _ _)) rfl (by unfold vp_in; decide) d_Model_init_226 (fun H locs hw _ hS => ?_)
  replace hw := xk.ofset (by decide) hw
  rw [xu_same] at hw
  have hw : xk G (xu (xu f 51 (.inr (10, [.null, .int 0, .null, .null, .null, .null, .int 0, .int 0, .int 0, .int 0, .int 0, .null, .int 0, .int 0, .null, .int 0, .int 0, .int 0, .null, .null, .null, .int 0, .int 0, .null, .int 0, .int 0, .int 0, .null, .null, .int 0, .int 0, .int 0, .null]))) 52 (.inl (G.2.2.1 2, 38, .inr (.inl (vp_updL (x_wf 31) 31 (x_words.getD 31 0)))))) (53) H := hw
  rw [x_wf_up] at hw
  refine lv_dup hx hb d_Model_init_227 rfl ?_
  refine lv_bipush (v := (32 : Int32)) hx hb d_Model_init_228 (by decide) ?_
  refine lv_ldc2 (v := (7957652735263657801 : Int64)) hx hb hown (hu _ mw_1062) d_Model_init_230 ?_
  refine va_last hx hb hC.1 hw.P (wk_D hI (by decide)) hS 52 2 (wk_at (by decide) (xu_eq _ _ _)) rfl (by unfold vp_in; decide) d_Model_init_233 (fun H locs hw _ hS => ?_)
  replace hw := xk.ofset (by decide) hw
  rw [xu_same] at hw
  have hw : xk G (xu (xu f 51 (.inr (10, [.null, .int 0, .null, .null, .null, .null, .int 0, .int 0, .int 0, .int 0, .int 0, .null, .int 0, .int 0, .null, .int 0, .int 0, .int 0, .null, .null, .null, .int 0, .int 0, .null, .int 0, .int 0, .int 0, .null, .null, .int 0, .int 0, .int 0, .null]))) 52 (.inl (G.2.2.1 2, 38, .inr (.inl (vp_updL (x_wf 32) 32 (x_words.getD 32 0)))))) (53) H := hw
  rw [x_wf_up] at hw
  refine lv_dup hx hb d_Model_init_234 rfl ?_
  refine lv_bipush (v := (33 : Int32)) hx hb d_Model_init_235 (by decide) ?_
  refine lv_ldc2 (v := (4210425200352912750 : Int64)) hx hb hown (hu _ mw_1063) d_Model_init_237 ?_
  refine va_last hx hb hC.1 hw.P (wk_D hI (by decide)) hS 52 2 (wk_at (by decide) (xu_eq _ _ _)) rfl (by unfold vp_in; decide) d_Model_init_240 (fun H locs hw _ hS => ?_)
  replace hw := xk.ofset (by decide) hw
  rw [xu_same] at hw
  have hw : xk G (xu (xu f 51 (.inr (10, [.null, .int 0, .null, .null, .null, .null, .int 0, .int 0, .int 0, .int 0, .int 0, .null, .int 0, .int 0, .null, .int 0, .int 0, .int 0, .null, .null, .null, .int 0, .int 0, .null, .int 0, .int 0, .int 0, .null, .null, .int 0, .int 0, .int 0, .null]))) 52 (.inl (G.2.2.1 2, 38, .inr (.inl (vp_updL (x_wf 33) 33 (x_words.getD 33 0)))))) (53) H := hw
  rw [x_wf_up] at hw
  refine lv_dup hx hb d_Model_init_241 rfl ?_
  refine lv_bipush (v := (34 : Int32)) hx hb d_Model_init_242 (by decide) ?_
  refine lv_ldc2 (v := (4827970347006190368 : Int64)) hx hb hown (hu _ mw_1064) d_Model_init_244 ?_
  refine va_last hx hb hC.1 hw.P (wk_D hI (by decide)) hS 52 2 (wk_at (by decide) (xu_eq _ _ _)) rfl (by unfold vp_in; decide) d_Model_init_247 (fun H locs hw _ hS => ?_)
  replace hw := xk.ofset (by decide) hw
  rw [xu_same] at hw
  have hw : xk G (xu (xu f 51 (.inr (10, [.null, .int 0, .null, .null, .null, .null, .int 0, .int 0, .int 0, .int 0, .int 0, .null, .int 0, .int 0, .null, .int 0, .int 0, .int 0, .null, .null, .null, .int 0, .int 0, .null, .int 0, .int 0, .int 0, .null, .null, .int 0, .int 0, .int 0, .null]))) 52 (.inl (G.2.2.1 2, 38, .inr (.inl (vp_updL (x_wf 34) 34 (x_words.getD 34 0)))))) (53) H := hw
  rw [x_wf_up] at hw
  refine lv_dup hx hb d_Model_init_248 rfl ?_
  refine lv_bipush (v := (35 : Int32)) hx hb d_Model_init_249 (by decide) ?_
  refine lv_ldc2 (v := (8028075781016940143 : Int64)) hx hb hown (hu _ mw_1065) d_Model_init_251 ?_
  refine va_last hx hb hC.1 hw.P (wk_D hI (by decide)) hS 52 2 (wk_at (by decide) (xu_eq _ _ _)) rfl (by unfold vp_in; decide) d_Model_init_254 (fun H locs hw _ hS => ?_)
  replace hw := xk.ofset (by decide) hw
  rw [xu_same] at hw
  have hw : xk G (xu (xu f 51 (.inr (10, [.null, .int 0, .null, .null, .null, .null, .int 0, .int 0, .int 0, .int 0, .int 0, .null, .int 0, .int 0, .null, .int 0, .int 0, .int 0, .null, .null, .null, .int 0, .int 0, .null, .int 0, .int 0, .int 0, .null, .null, .int 0, .int 0, .int 0, .null]))) 52 (.inl (G.2.2.1 2, 38, .inr (.inl (vp_updL (x_wf 35) 35 (x_words.getD 35 0)))))) (53) H := hw
  rw [x_wf_up] at hw
  refine lv_dup hx hb d_Model_init_255 rfl ?_
  refine lv_bipush (v := (36 : Int32)) hx hb d_Model_init_256 (by decide) ?_
  refine lv_ldc2 (v := (3274228415361727086 : Int64)) hx hb hown (hu _ mw_1066) d_Model_init_258 ?_
  refine va_last hx hb hC.1 hw.P (wk_D hI (by decide)) hS 52 2 (wk_at (by decide) (xu_eq _ _ _)) rfl (by unfold vp_in; decide) d_Model_init_261 (fun H locs hw _ hS => ?_)
  replace hw := xk.ofset (by decide) hw
  rw [xu_same] at hw
  have hw : xk G (xu (xu f 51 (.inr (10, [.null, .int 0, .null, .null, .null, .null, .int 0, .int 0, .int 0, .int 0, .int 0, .null, .int 0, .int 0, .null, .int 0, .int 0, .int 0, .null, .null, .null, .int 0, .int 0, .null, .int 0, .int 0, .int 0, .null, .null, .int 0, .int 0, .int 0, .null]))) 52 (.inl (G.2.2.1 2, 38, .inr (.inl (vp_updL (x_wf 36) 36 (x_words.getD 36 0)))))) (53) H := hw
  rw [x_wf_up] at hw
  refine lv_dup hx hb d_Model_init_262 rfl ?_
  refine lv_bipush (v := (37 : Int32)) hx hb d_Model_init_263 (by decide) ?_
  refine lv_ldc2 (v := (435778317409 : Int64)) hx hb hown (hu _ mw_1067) d_Model_init_265 ?_
  refine va_last hx hb hC.1 hw.P (wk_D hI (by decide)) hS 52 2 (wk_at (by decide) (xu_eq _ _ _)) rfl (by unfold vp_in; decide) d_Model_init_268 (fun H locs hw _ hS => ?_)
  replace hw := xk.ofset (by decide) hw
  rw [xu_same] at hw
  have hw : xk G (xu (xu f 51 (.inr (10, [.null, .int 0, .null, .null, .null, .null, .int 0, .int 0, .int 0, .int 0, .int 0, .null, .int 0, .int 0, .null, .int 0, .int 0, .int 0, .null, .null, .null, .int 0, .int 0, .null, .int 0, .int 0, .int 0, .null, .null, .int 0, .int 0, .int 0, .null]))) 52 (.inl (G.2.2.1 2, 38, .inr (.inl (vp_updL (x_wf 37) 37 (x_words.getD 37 0)))))) (53) H := hw
  rw [x_wf_up] at hw
  rw [x_wf_end, xu_self (show (xu f 51 (.inr (10, [.null, .int 0, .null, .null, .null, .null, .int 0, .int 0, .int 0, .int 0, .int 0, .null, .int 0, .int 0, .null, .int 0, .int 0, .int 0, .null, .null, .null, .int 0, .int 0, .null, .int 0, .int 0, .int 0, .null, .null, .int 0, .int 0, .int 0, .null]))) 52 = .inl (G.2.2.1 2, 38, .inr (.inl (x_long x_s0 52))) from (xu_ne (by decide)).trans (hf 52 (by decide) (by decide)))] at hw
  have hw : xk G (xu f 51 (.inr (10, [.null, .int 0, .null, .null, .null, .null, .int 0, .int 0, .int 0, .int 0, .int 0, .null, .int 0, .int 0, .null, .int 0, .int 0, .int 0, .null, .null, .null, .int 0, .int 0, .null, .int 0, .int 0, .int 0, .null, .null, .int 0, .int 0, .int 0, .null]))) (53) H := hw
  refine va_putF (D := G.1) (cl := xCl) (ci := 10) (v := .ref (G.2.1 52)) (ty := ty_Model 0) (C := R_Model) (T := T_Model) (N := 33) hx hb hu fi_Model ty_Model tyok_Model nm_Model hown hC.1 hw.P (wk_D hI (by decide)) hS 51 (wk_at (by decide) (xu_eq _ _ _)) rfl 0 (by decide) (hu _ mw_1068) (fun _ h9 => h9) rfl hin rfl (tyok_Model 0 (by decide)) rfl rfl (Nat.le_of_ble_eq_true rfl) d_Model_init_269 (fun H locs hw _ hS => ?_)
  replace hw := xk.ofset (by decide) hw
  rw [xu_same] at hw
  have hw : xk G (xu f 51 (.inr (10, [.ref (G.2.1 52), .int 0, .null, .null, .null, .null, .int 0, .int 0, .int 0, .int 0, .int 0, .null, .int 0, .int 0, .null, .int 0, .int 0, .int 0, .null, .null, .null, .int 0, .int 0, .null, .int 0, .int 0, .int 0, .null, .null, .int 0, .int 0, .int 0, .null]))) (53) H := hw
  refine lv_aload_n hx hb d_Model_init_272 rfl (lv_at hl 0 rfl) ?_
  refine lv_bipush (v := (8 : Int32)) hx hb d_Model_init_273 (by decide) ?_
  refine x_sz (fun hz => ?_)
  have hsz : _ = G.2.1 53 := xk.sz (n := 52) hC hw hz (by rw [hs]; exact (hC.2.1.add (52) 1).symm)
  refine x_newa (G := G) (atype := .boolean) hx hb mw_1169 hu 1 rfl hC hsz hw hS (a0 := (8, .inl (fun _ => 0))) (fun _ => rfl) (by decide) (by decide) (by decide) (Nat.le_of_ble_eq_true rfl) (Nat.le_of_ble_eq_true rfl) d_Model_init_275 (fun H hw hS => ?_)
  rw [xu_self (show (xu f 51 (.inr (10, [.ref (G.2.1 52), .int 0, .null, .null, .null, .null, .int 0, .int 0, .int 0, .int 0, .int 0, .null, .int 0, .int 0, .null, .int 0, .int 0, .int 0, .null, .null, .null, .int 0, .int 0, .null, .int 0, .int 0, .int 0, .null, .null, .int 0, .int 0, .int 0, .null]))) 53 = .inl (G.2.2.1 1, 8, .inl (fun _ => 0)) from (xu_ne (by decide)).trans (hf 53 (by decide) (by decide)))] at hw
  have hw : xk G (xu f 51 (.inr (10, [.ref (G.2.1 52), .int 0, .null, .null, .null, .null, .int 0, .int 0, .int 0, .int 0, .int 0, .null, .int 0, .int 0, .null, .int 0, .int 0, .int 0, .null, .null, .null, .int 0, .int 0, .null, .int 0, .int 0, .int 0, .null, .null, .int 0, .int 0, .int 0, .null]))) (54) H := hw
  refine va_putF (D := G.1) (cl := xCl) (ci := 10) (v := .ref (G.2.1 53)) (ty := ty_Model 2) (C := R_Model) (T := T_Model) (N := 33) hx hb hu fi_Model ty_Model tyok_Model nm_Model hown hC.1 hw.P (wk_D hI (by decide)) hS 51 (wk_at (by decide) (xu_eq _ _ _)) rfl 2 (by decide) (hu _ mw_1070) (fun _ h9 => h9) rfl hin rfl (tyok_Model 2 (by decide)) rfl rfl (Nat.le_of_ble_eq_true rfl) d_Model_init_277 (fun H locs hw _ hS => ?_)
  replace hw := xk.ofset (by decide) hw
  rw [xu_same] at hw
  have hw : xk G (xu f 51 (.inr (10, [.ref (G.2.1 52), .int 0, .ref (G.2.1 53), .null, .null, .null, .int 0, .int 0, .int 0, .int 0, .int 0, .null, .int 0, .int 0, .null, .int 0, .int 0, .int 0, .null, .null, .null, .int 0, .int 0, .null, .int 0, .int 0, .int 0, .null, .null, .int 0, .int 0, .int 0, .null]))) (54) H := hw
  refine lv_aload_n hx hb d_Model_init_280 rfl (lv_at hl 0 rfl) ?_
  refine lv_bipush (v := (8 : Int32)) hx hb d_Model_init_281 (by decide) ?_
  refine x_sz (fun hz => ?_)
  have hsz : _ = G.2.1 54 := xk.sz (n := 53) hC hw hz (by rw [hs]; exact (hC.2.1.add (52) 2).symm)
  refine x_newa (G := G) (atype := .int) hx hb mw_127 hu 0 rfl hC hsz hw hS (a0 := (8, .inl (fun _ => 0))) (fun _ => rfl) (by decide) (by decide) (by decide) (Nat.le_of_ble_eq_true rfl) (Nat.le_of_ble_eq_true rfl) d_Model_init_283 (fun H hw hS => ?_)
  rw [xu_self (show (xu f 51 (.inr (10, [.ref (G.2.1 52), .int 0, .ref (G.2.1 53), .null, .null, .null, .int 0, .int 0, .int 0, .int 0, .int 0, .null, .int 0, .int 0, .null, .int 0, .int 0, .int 0, .null, .null, .null, .int 0, .int 0, .null, .int 0, .int 0, .int 0, .null, .null, .int 0, .int 0, .int 0, .null]))) 54 = .inl (G.2.2.1 0, 8, .inl (fun _ => 0)) from (xu_ne (by decide)).trans (hf 54 (by decide) (by decide)))] at hw
  have hw : xk G (xu f 51 (.inr (10, [.ref (G.2.1 52), .int 0, .ref (G.2.1 53), .null, .null, .null, .int 0, .int 0, .int 0, .int 0, .int 0, .null, .int 0, .int 0, .null, .int 0, .int 0, .int 0, .null, .null, .null, .int 0, .int 0, .null, .int 0, .int 0, .int 0, .null, .null, .int 0, .int 0, .int 0, .null]))) (55) H := hw
  refine va_putF (D := G.1) (cl := xCl) (ci := 10) (v := .ref (G.2.1 54)) (ty := ty_Model 3) (C := R_Model) (T := T_Model) (N := 33) hx hb hu fi_Model ty_Model tyok_Model nm_Model hown hC.1 hw.P (wk_D hI (by decide)) hS 51 (wk_at (by decide) (xu_eq _ _ _)) rfl 3 (by decide) (hu _ mw_1071) (fun _ h9 => h9) rfl hin rfl (tyok_Model 3 (by decide)) rfl rfl (Nat.le_of_ble_eq_true rfl) d_Model_init_285 (fun H locs hw _ hS => ?_)
  replace hw := xk.ofset (by decide) hw
  rw [xu_same] at hw
  have hw : xk G (xu f 51 (.inr (10, [.ref (G.2.1 52), .int 0, .ref (G.2.1 53), .ref (G.2.1 54), .null, .null, .int 0, .int 0, .int 0, .int 0, .int 0, .null, .int 0, .int 0, .null, .int 0, .int 0, .int 0, .null, .null, .null, .int 0, .int 0, .null, .int 0, .int 0, .int 0, .null, .null, .int 0, .int 0, .int 0, .null]))) (55) H := hw
  refine lv_aload_n hx hb d_Model_init_288 rfl (lv_at hl 0 rfl) ?_
  refine lv_bipush (v := (8 : Int32)) hx hb d_Model_init_289 (by decide) ?_
  refine x_sz (fun hz => ?_)
  have hsz : _ = G.2.1 55 := xk.sz (n := 54) hC hw hz (by rw [hs]; exact (hC.2.1.add (52) 3).symm)
  refine x_newa (G := G) (atype := .int) hx hb mw_127 hu 0 rfl hC hsz hw hS (a0 := (8, .inl (fun _ => 0))) (fun _ => rfl) (by decide) (by decide) (by decide) (Nat.le_of_ble_eq_true rfl) (Nat.le_of_ble_eq_true rfl) d_Model_init_291 (fun H hw hS => ?_)
  rw [xu_self (show (xu f 51 (.inr (10, [.ref (G.2.1 52), .int 0, .ref (G.2.1 53), .ref (G.2.1 54), .null, .null, .int 0, .int 0, .int 0, .int 0, .int 0, .null, .int 0, .int 0, .null, .int 0, .int 0, .int 0, .null, .null, .null, .int 0, .int 0, .null, .int 0, .int 0, .int 0, .null, .null, .int 0, .int 0, .int 0, .null]))) 55 = .inl (G.2.2.1 0, 8, .inl (fun _ => 0)) from (xu_ne (by decide)).trans (hf 55 (by decide) (by decide)))] at hw
  have hw : xk G (xu f 51 (.inr (10, [.ref (G.2.1 52), .int 0, .ref (G.2.1 53), .ref (G.2.1 54), .null, .null, .int 0, .int 0, .int 0, .int 0, .int 0, .null, .int 0, .int 0, .null, .int 0, .int 0, .int 0, .null, .null, .null, .int 0, .int 0, .null, .int 0, .int 0, .int 0, .null, .null, .int 0, .int 0, .int 0, .null]))) (56) H := hw
  refine va_putF (D := G.1) (cl := xCl) (ci := 10) (v := .ref (G.2.1 55)) (ty := ty_Model 4) (C := R_Model) (T := T_Model) (N := 33) hx hb hu fi_Model ty_Model tyok_Model nm_Model hown hC.1 hw.P (wk_D hI (by decide)) hS 51 (wk_at (by decide) (xu_eq _ _ _)) rfl 4 (by decide) (hu _ mw_1072) (fun _ h9 => h9) rfl hin rfl (tyok_Model 4 (by decide)) rfl rfl (Nat.le_of_ble_eq_true rfl) d_Model_init_293 (fun H locs hw _ hS => ?_)
  replace hw := xk.ofset (by decide) hw
  rw [xu_same] at hw
  have hw : xk G (xu f 51 (.inr (10, [.ref (G.2.1 52), .int 0, .ref (G.2.1 53), .ref (G.2.1 54), .ref (G.2.1 55), .null, .int 0, .int 0, .int 0, .int 0, .int 0, .null, .int 0, .int 0, .null, .int 0, .int 0, .int 0, .null, .null, .null, .int 0, .int 0, .null, .int 0, .int 0, .int 0, .null, .null, .int 0, .int 0, .int 0, .null]))) (56) H := hw
  refine lv_aload_n hx hb d_Model_init_296 rfl (lv_at hl 0 rfl) ?_
  refine lv_sipush (v := (1600 : Int32)) hx hb d_Model_init_297 (by decide) ?_
  refine x_sz (fun hz => ?_)
  have hsz : _ = G.2.1 56 := xk.sz (n := 55) hC hw hz (by rw [hs]; exact (hC.2.1.add (52) 4).symm)
  refine x_newa (G := G) (atype := .int) hx hb mw_127 hu 0 rfl hC hsz hw hS (a0 := (1600, .inl (fun _ => 0))) (fun _ => rfl) (by decide) (by decide) (by decide) (Nat.le_of_ble_eq_true rfl) (Nat.le_of_ble_eq_true rfl) d_Model_init_300 (fun H hw hS => ?_)
  rw [xu_self (show (xu f 51 (.inr (10, [.ref (G.2.1 52), .int 0, .ref (G.2.1 53), .ref (G.2.1 54), .ref (G.2.1 55), .null, .int 0, .int 0, .int 0, .int 0, .int 0, .null, .int 0, .int 0, .null, .int 0, .int 0, .int 0, .null, .null, .null, .int 0, .int 0, .null, .int 0, .int 0, .int 0, .null, .null, .int 0, .int 0, .int 0, .null]))) 56 = .inl (G.2.2.1 0, 1600, .inl (fun _ => 0)) from (xu_ne (by decide)).trans (hf 56 (by decide) (by decide)))] at hw
  have hw : xk G (xu f 51 (.inr (10, [.ref (G.2.1 52), .int 0, .ref (G.2.1 53), .ref (G.2.1 54), .ref (G.2.1 55), .null, .int 0, .int 0, .int 0, .int 0, .int 0, .null, .int 0, .int 0, .null, .int 0, .int 0, .int 0, .null, .null, .null, .int 0, .int 0, .null, .int 0, .int 0, .int 0, .null, .null, .int 0, .int 0, .int 0, .null]))) (57) H := hw
  refine va_putF (D := G.1) (cl := xCl) (ci := 10) (v := .ref (G.2.1 56)) (ty := ty_Model 5) (C := R_Model) (T := T_Model) (N := 33) hx hb hu fi_Model ty_Model tyok_Model nm_Model hown hC.1 hw.P (wk_D hI (by decide)) hS 51 (wk_at (by decide) (xu_eq _ _ _)) rfl 5 (by decide) (hu _ mw_1073) (fun _ h9 => h9) rfl hin rfl (tyok_Model 5 (by decide)) rfl rfl (Nat.le_of_ble_eq_true rfl) d_Model_init_302 (fun H locs hw _ hS => ?_)
  replace hw := xk.ofset (by decide) hw
  rw [xu_same] at hw
  have hw : xk G (xu f 51 (.inr (10, [.ref (G.2.1 52), .int 0, .ref (G.2.1 53), .ref (G.2.1 54), .ref (G.2.1 55), .ref (G.2.1 56), .int 0, .int 0, .int 0, .int 0, .int 0, .null, .int 0, .int 0, .null, .int 0, .int 0, .int 0, .null, .null, .null, .int 0, .int 0, .null, .int 0, .int 0, .int 0, .null, .null, .int 0, .int 0, .int 0, .null]))) (57) H := hw
  refine lv_aload_n hx hb d_Model_init_305 rfl (lv_at hl 0 rfl) ?_
  refine lv_iconst (v := (1 : Int32)) hx hb d_Model_init_306 (by decide) ?_
  refine va_put (D := G.1) (cl := xCl) (ci := 10) (v := .int (1 : Int32)) (ty := ty_Model 7) (C := R_Model) (T := T_Model) (N := 33) hx hb hu fi_Model ty_Model tyok_Model nm_Model hown hC.1 hw.P (wk_D hI (by decide)) hS 51 (wk_at (by decide) (xu_eq _ _ _)) rfl 7 (by decide) (hu _ mw_1075) (fun _ h9 => h9) rfl (tyok_Model 7 (by decide)) rfl rfl (Nat.le_of_ble_eq_true rfl) d_Model_init_307 (fun H locs hw _ hS => ?_)
  replace hw := xk.ofset (by decide) hw
  rw [xu_same] at hw
  have hw : xk G (xu f 51 (.inr (10, [.ref (G.2.1 52), .int 0, .ref (G.2.1 53), .ref (G.2.1 54), .ref (G.2.1 55), .ref (G.2.1 56), .int 0, .int (1 : Int32), .int 0, .int 0, .int 0, .null, .int 0, .int 0, .null, .int 0, .int 0, .int 0, .null, .null, .null, .int 0, .int 0, .null, .int 0, .int 0, .int 0, .null, .null, .int 0, .int 0, .int 0, .null]))) (57) H := hw
  refine lv_aload_n hx hb d_Model_init_310 rfl (lv_at hl 0 rfl) ?_
  refine lv_bipush (v := (80 : Int32)) hx hb d_Model_init_311 (by decide) ?_
  refine x_sz (fun hz => ?_)
  have hsz : _ = G.2.1 57 := xk.sz (n := 56) hC hw hz (by rw [hs]; exact (hC.2.1.add (52) 5).symm)
  refine x_newa (G := G) (atype := .int) hx hb mw_127 hu 0 rfl hC hsz hw hS (a0 := (80, .inl (fun _ => 0))) (fun _ => rfl) (by decide) (by decide) (by decide) (Nat.le_of_ble_eq_true rfl) (Nat.le_of_ble_eq_true rfl) d_Model_init_313 (fun H hw hS => ?_)
  rw [xu_self (show (xu f 51 (.inr (10, [.ref (G.2.1 52), .int 0, .ref (G.2.1 53), .ref (G.2.1 54), .ref (G.2.1 55), .ref (G.2.1 56), .int 0, .int (1 : Int32), .int 0, .int 0, .int 0, .null, .int 0, .int 0, .null, .int 0, .int 0, .int 0, .null, .null, .null, .int 0, .int 0, .null, .int 0, .int 0, .int 0, .null, .null, .int 0, .int 0, .int 0, .null]))) 57 = .inl (G.2.2.1 0, 80, .inl (fun _ => 0)) from (xu_ne (by decide)).trans (hf 57 (by decide) (by decide)))] at hw
  have hw : xk G (xu f 51 (.inr (10, [.ref (G.2.1 52), .int 0, .ref (G.2.1 53), .ref (G.2.1 54), .ref (G.2.1 55), .ref (G.2.1 56), .int 0, .int (1 : Int32), .int 0, .int 0, .int 0, .null, .int 0, .int 0, .null, .int 0, .int 0, .int 0, .null, .null, .null, .int 0, .int 0, .null, .int 0, .int 0, .int 0, .null, .null, .int 0, .int 0, .int 0, .null]))) (58) H := hw
  refine va_putF (D := G.1) (cl := xCl) (ci := 10) (v := .ref (G.2.1 57)) (ty := ty_Model 11) (C := R_Model) (T := T_Model) (N := 33) hx hb hu fi_Model ty_Model tyok_Model nm_Model hown hC.1 hw.P (wk_D hI (by decide)) hS 51 (wk_at (by decide) (xu_eq _ _ _)) rfl 11 (by decide) (hu _ mw_1079) (fun _ h9 => h9) rfl hin rfl (tyok_Model 11 (by decide)) rfl rfl (Nat.le_of_ble_eq_true rfl) d_Model_init_315 (fun H locs hw _ hS => ?_)
  replace hw := xk.ofset (by decide) hw
  rw [xu_same] at hw
  have hw : xk G (xu f 51 (.inr (10, [.ref (G.2.1 52), .int 0, .ref (G.2.1 53), .ref (G.2.1 54), .ref (G.2.1 55), .ref (G.2.1 56), .int 0, .int (1 : Int32), .int 0, .int 0, .int 0, .ref (G.2.1 57), .int 0, .int 0, .null, .int 0, .int 0, .int 0, .null, .null, .null, .int 0, .int 0, .null, .int 0, .int 0, .int 0, .null, .null, .int 0, .int 0, .int 0, .null]))) (58) H := hw
  refine lv_aload_n hx hb d_Model_init_318 rfl (lv_at hl 0 rfl) ?_
  refine lv_bipush (v := (121 : Int32)) hx hb d_Model_init_319 (by decide) ?_
  refine va_put (D := G.1) (cl := xCl) (ci := 10) (v := .int (121 : Int32)) (ty := ty_Model 12) (C := R_Model) (T := T_Model) (N := 33) hx hb hu fi_Model ty_Model tyok_Model nm_Model hown hC.1 hw.P (wk_D hI (by decide)) hS 51 (wk_at (by decide) (xu_eq _ _ _)) rfl 12 (by decide) (hu _ mw_1080) (fun _ h9 => h9) rfl (tyok_Model 12 (by decide)) rfl rfl (Nat.le_of_ble_eq_true rfl) d_Model_init_321 (fun H locs hw _ hS => ?_)
  replace hw := xk.ofset (by decide) hw
  rw [xu_same] at hw
  have hw : xk G (xu f 51 (.inr (10, [.ref (G.2.1 52), .int 0, .ref (G.2.1 53), .ref (G.2.1 54), .ref (G.2.1 55), .ref (G.2.1 56), .int 0, .int (1 : Int32), .int 0, .int 0, .int 0, .ref (G.2.1 57), .int (121 : Int32), .int 0, .null, .int 0, .int 0, .int 0, .null, .null, .null, .int 0, .int 0, .null, .int 0, .int 0, .int 0, .null, .null, .int 0, .int 0, .int 0, .null]))) (58) H := hw
  refine lv_aload_n hx hb d_Model_init_324 rfl (lv_at hl 0 rfl) ?_
  refine lv_bipush (v := (80 : Int32)) hx hb d_Model_init_325 (by decide) ?_
  refine x_sz (fun hz => ?_)
  have hsz : _ = G.2.1 58 := xk.sz (n := 57) hC hw hz (by rw [hs]; exact (hC.2.1.add (52) 6).symm)
  refine x_newa (G := G) (atype := .int) hx hb mw_127 hu 0 rfl hC hsz hw hS (a0 := (80, .inl (fun _ => 0))) (fun _ => rfl) (by decide) (by decide) (by decide) (Nat.le_of_ble_eq_true rfl) (Nat.le_of_ble_eq_true rfl) d_Model_init_327 (fun H hw hS => ?_)
  rw [xu_self (show (xu f 51 (.inr (10, [.ref (G.2.1 52), .int 0, .ref (G.2.1 53), .ref (G.2.1 54), .ref (G.2.1 55), .ref (G.2.1 56), .int 0, .int (1 : Int32), .int 0, .int 0, .int 0, .ref (G.2.1 57), .int (121 : Int32), .int 0, .null, .int 0, .int 0, .int 0, .null, .null, .null, .int 0, .int 0, .null, .int 0, .int 0, .int 0, .null, .null, .int 0, .int 0, .int 0, .null]))) 58 = .inl (G.2.2.1 0, 80, .inl (fun _ => 0)) from (xu_ne (by decide)).trans (hf 58 (by decide) (by decide)))] at hw
  have hw : xk G (xu f 51 (.inr (10, [.ref (G.2.1 52), .int 0, .ref (G.2.1 53), .ref (G.2.1 54), .ref (G.2.1 55), .ref (G.2.1 56), .int 0, .int (1 : Int32), .int 0, .int 0, .int 0, .ref (G.2.1 57), .int (121 : Int32), .int 0, .null, .int 0, .int 0, .int 0, .null, .null, .null, .int 0, .int 0, .null, .int 0, .int 0, .int 0, .null, .null, .int 0, .int 0, .int 0, .null]))) (59) H := hw
  refine va_putF (D := G.1) (cl := xCl) (ci := 10) (v := .ref (G.2.1 58)) (ty := ty_Model 14) (C := R_Model) (T := T_Model) (N := 33) hx hb hu fi_Model ty_Model tyok_Model nm_Model hown hC.1 hw.P (wk_D hI (by decide)) hS 51 (wk_at (by decide) (xu_eq _ _ _)) rfl 14 (by decide) (hu _ mw_1082) (fun _ h9 => h9) rfl hin rfl (tyok_Model 14 (by decide)) rfl rfl (Nat.le_of_ble_eq_true rfl) d_Model_init_329 (fun H locs hw _ hS => ?_)
  replace hw := xk.ofset (by decide) hw
  rw [xu_same] at hw
  have hw : xk G (xu f 51 (.inr (10, [.ref (G.2.1 52), .int 0, .ref (G.2.1 53), .ref (G.2.1 54), .ref (G.2.1 55), .ref (G.2.1 56), .int 0, .int (1 : Int32), .int 0, .int 0, .int 0, .ref (G.2.1 57), .int (121 : Int32), .int 0, .ref (G.2.1 58), .int 0, .int 0, .int 0, .null, .null, .null, .int 0, .int 0, .null, .int 0, .int 0, .int 0, .null, .null, .int 0, .int 0, .int 0, .null]))) (59) H := hw
  refine lv_aload_n hx hb d_Model_init_332 rfl (lv_at hl 0 rfl) ?_
  refine lv_iconst (v := (1 : Int32)) hx hb d_Model_init_333 (by decide) ?_
  refine va_put (D := G.1) (cl := xCl) (ci := 10) (v := .int (1 : Int32)) (ty := ty_Model 15) (C := R_Model) (T := T_Model) (N := 33) hx hb hu fi_Model ty_Model tyok_Model nm_Model hown hC.1 hw.P (wk_D hI (by decide)) hS 51 (wk_at (by decide) (xu_eq _ _ _)) rfl 15 (by decide) (hu _ mw_1083) (fun _ h9 => h9) rfl (tyok_Model 15 (by decide)) rfl rfl (Nat.le_of_ble_eq_true rfl) d_Model_init_334 (fun H locs hw _ hS => ?_)
  replace hw := xk.ofset (by decide) hw
  rw [xu_same] at hw
  have hw : xk G (xu f 51 (.inr (10, [.ref (G.2.1 52), .int 0, .ref (G.2.1 53), .ref (G.2.1 54), .ref (G.2.1 55), .ref (G.2.1 56), .int 0, .int (1 : Int32), .int 0, .int 0, .int 0, .ref (G.2.1 57), .int (121 : Int32), .int 0, .ref (G.2.1 58), .int (1 : Int32), .int 0, .int 0, .null, .null, .null, .int 0, .int 0, .null, .int 0, .int 0, .int 0, .null, .null, .int 0, .int 0, .int 0, .null]))) (59) H := hw
  refine lv_aload_n hx hb d_Model_init_337 rfl (lv_at hl 0 rfl) ?_
  refine lv_sipush (v := (960 : Int32)) hx hb d_Model_init_338 (by decide) ?_
  refine x_sz (fun hz => ?_)
  have hsz : _ = G.2.1 59 := xk.sz (n := 58) hC hw hz (by rw [hs]; exact (hC.2.1.add (52) 7).symm)
  refine x_newa (G := G) (atype := .int) hx hb mw_127 hu 0 rfl hC hsz hw hS (a0 := (960, .inl (fun _ => 0))) (fun _ => rfl) (by decide) (by decide) (by decide) (Nat.le_of_ble_eq_true rfl) (Nat.le_of_ble_eq_true rfl) d_Model_init_341 (fun H hw hS => ?_)
  rw [xu_self (show (xu f 51 (.inr (10, [.ref (G.2.1 52), .int 0, .ref (G.2.1 53), .ref (G.2.1 54), .ref (G.2.1 55), .ref (G.2.1 56), .int 0, .int (1 : Int32), .int 0, .int 0, .int 0, .ref (G.2.1 57), .int (121 : Int32), .int 0, .ref (G.2.1 58), .int (1 : Int32), .int 0, .int 0, .null, .null, .null, .int 0, .int 0, .null, .int 0, .int 0, .int 0, .null, .null, .int 0, .int 0, .int 0, .null]))) 59 = .inl (G.2.2.1 0, 960, .inl (fun _ => 0)) from (xu_ne (by decide)).trans (hf 59 (by decide) (by decide)))] at hw
  have hw : xk G (xu f 51 (.inr (10, [.ref (G.2.1 52), .int 0, .ref (G.2.1 53), .ref (G.2.1 54), .ref (G.2.1 55), .ref (G.2.1 56), .int 0, .int (1 : Int32), .int 0, .int 0, .int 0, .ref (G.2.1 57), .int (121 : Int32), .int 0, .ref (G.2.1 58), .int (1 : Int32), .int 0, .int 0, .null, .null, .null, .int 0, .int 0, .null, .int 0, .int 0, .int 0, .null, .null, .int 0, .int 0, .int 0, .null]))) (60) H := hw
  refine va_putF (D := G.1) (cl := xCl) (ci := 10) (v := .ref (G.2.1 59)) (ty := ty_Model 18) (C := R_Model) (T := T_Model) (N := 33) hx hb hu fi_Model ty_Model tyok_Model nm_Model hown hC.1 hw.P (wk_D hI (by decide)) hS 51 (wk_at (by decide) (xu_eq _ _ _)) rfl 18 (by decide) (hu _ mw_1086) (fun _ h9 => h9) rfl hin rfl (tyok_Model 18 (by decide)) rfl rfl (Nat.le_of_ble_eq_true rfl) d_Model_init_343 (fun H locs hw _ hS => ?_)
  replace hw := xk.ofset (by decide) hw
  rw [xu_same] at hw
  have hw : xk G (xu f 51 (.inr (10, [.ref (G.2.1 52), .int 0, .ref (G.2.1 53), .ref (G.2.1 54), .ref (G.2.1 55), .ref (G.2.1 56), .int 0, .int (1 : Int32), .int 0, .int 0, .int 0, .ref (G.2.1 57), .int (121 : Int32), .int 0, .ref (G.2.1 58), .int (1 : Int32), .int 0, .int 0, .ref (G.2.1 59), .null, .null, .int 0, .int 0, .null, .int 0, .int 0, .int 0, .null, .null, .int 0, .int 0, .int 0, .null]))) (60) H := hw
  refine lv_aload_n hx hb d_Model_init_346 rfl (lv_at hl 0 rfl) ?_
  refine lv_bipush (v := (12 : Int32)) hx hb d_Model_init_347 (by decide) ?_
  refine x_sz (fun hz => ?_)
  have hsz : _ = G.2.1 60 := xk.sz (n := 59) hC hw hz (by rw [hs]; exact (hC.2.1.add (52) 8).symm)
  refine x_newa (G := G) (atype := .int) hx hb mw_127 hu 0 rfl hC hsz hw hS (a0 := (12, .inl (fun _ => 0))) (fun _ => rfl) (by decide) (by decide) (by decide) (Nat.le_of_ble_eq_true rfl) (Nat.le_of_ble_eq_true rfl) d_Model_init_349 (fun H hw hS => ?_)
  rw [xu_self (show (xu f 51 (.inr (10, [.ref (G.2.1 52), .int 0, .ref (G.2.1 53), .ref (G.2.1 54), .ref (G.2.1 55), .ref (G.2.1 56), .int 0, .int (1 : Int32), .int 0, .int 0, .int 0, .ref (G.2.1 57), .int (121 : Int32), .int 0, .ref (G.2.1 58), .int (1 : Int32), .int 0, .int 0, .ref (G.2.1 59), .null, .null, .int 0, .int 0, .null, .int 0, .int 0, .int 0, .null, .null, .int 0, .int 0, .int 0, .null]))) 60 = .inl (G.2.2.1 0, 12, .inl (fun _ => 0)) from (xu_ne (by decide)).trans (hf 60 (by decide) (by decide)))] at hw
  have hw : xk G (xu f 51 (.inr (10, [.ref (G.2.1 52), .int 0, .ref (G.2.1 53), .ref (G.2.1 54), .ref (G.2.1 55), .ref (G.2.1 56), .int 0, .int (1 : Int32), .int 0, .int 0, .int 0, .ref (G.2.1 57), .int (121 : Int32), .int 0, .ref (G.2.1 58), .int (1 : Int32), .int 0, .int 0, .ref (G.2.1 59), .null, .null, .int 0, .int 0, .null, .int 0, .int 0, .int 0, .null, .null, .int 0, .int 0, .int 0, .null]))) (61) H := hw
  refine va_putF (D := G.1) (cl := xCl) (ci := 10) (v := .ref (G.2.1 60)) (ty := ty_Model 19) (C := R_Model) (T := T_Model) (N := 33) hx hb hu fi_Model ty_Model tyok_Model nm_Model hown hC.1 hw.P (wk_D hI (by decide)) hS 51 (wk_at (by decide) (xu_eq _ _ _)) rfl 19 (by decide) (hu _ mw_1087) (fun _ h9 => h9) rfl hin rfl (tyok_Model 19 (by decide)) rfl rfl (Nat.le_of_ble_eq_true rfl) d_Model_init_351 (fun H locs hw _ hS => ?_)
  replace hw := xk.ofset (by decide) hw
  rw [xu_same] at hw
  have hw : xk G (xu f 51 (.inr (10, [.ref (G.2.1 52), .int 0, .ref (G.2.1 53), .ref (G.2.1 54), .ref (G.2.1 55), .ref (G.2.1 56), .int 0, .int (1 : Int32), .int 0, .int 0, .int 0, .ref (G.2.1 57), .int (121 : Int32), .int 0, .ref (G.2.1 58), .int (1 : Int32), .int 0, .int 0, .ref (G.2.1 59), .ref (G.2.1 60), .null, .int 0, .int 0, .null, .int 0, .int 0, .int 0, .null, .null, .int 0, .int 0, .int 0, .null]))) (61) H := hw
  refine lv_aload_n hx hb d_Model_init_354 rfl (lv_at hl 0 rfl) ?_
  refine lv_bipush (v := (12 : Int32)) hx hb d_Model_init_355 (by decide) ?_
  refine x_sz (fun hz => ?_)
  have hsz : _ = G.2.1 61 := xk.sz (n := 60) hC hw hz (by rw [hs]; exact (hC.2.1.add (52) 9).symm)
  refine x_newa (G := G) (atype := .int) hx hb mw_127 hu 0 rfl hC hsz hw hS (a0 := (12, .inl (fun _ => 0))) (fun _ => rfl) (by decide) (by decide) (by decide) (Nat.le_of_ble_eq_true rfl) (Nat.le_of_ble_eq_true rfl) d_Model_init_357 (fun H hw hS => ?_)
  rw [xu_self (show (xu f 51 (.inr (10, [.ref (G.2.1 52), .int 0, .ref (G.2.1 53), .ref (G.2.1 54), .ref (G.2.1 55), .ref (G.2.1 56), .int 0, .int (1 : Int32), .int 0, .int 0, .int 0, .ref (G.2.1 57), .int (121 : Int32), .int 0, .ref (G.2.1 58), .int (1 : Int32), .int 0, .int 0, .ref (G.2.1 59), .ref (G.2.1 60), .null, .int 0, .int 0, .null, .int 0, .int 0, .int 0, .null, .null, .int 0, .int 0, .int 0, .null]))) 61 = .inl (G.2.2.1 0, 12, .inl (fun _ => 0)) from (xu_ne (by decide)).trans (hf 61 (by decide) (by decide)))] at hw
  have hw : xk G (xu f 51 (.inr (10, [.ref (G.2.1 52), .int 0, .ref (G.2.1 53), .ref (G.2.1 54), .ref (G.2.1 55), .ref (G.2.1 56), .int 0, .int (1 : Int32), .int 0, .int 0, .int 0, .ref (G.2.1 57), .int (121 : Int32), .int 0, .ref (G.2.1 58), .int (1 : Int32), .int 0, .int 0, .ref (G.2.1 59), .ref (G.2.1 60), .null, .int 0, .int 0, .null, .int 0, .int 0, .int 0, .null, .null, .int 0, .int 0, .int 0, .null]))) (62) H := hw
  refine va_putF (D := G.1) (cl := xCl) (ci := 10) (v := .ref (G.2.1 61)) (ty := ty_Model 20) (C := R_Model) (T := T_Model) (N := 33) hx hb hu fi_Model ty_Model tyok_Model nm_Model hown hC.1 hw.P (wk_D hI (by decide)) hS 51 (wk_at (by decide) (xu_eq _ _ _)) rfl 20 (by decide) (hu _ mw_1088) (fun _ h9 => h9) rfl hin rfl (tyok_Model 20 (by decide)) rfl rfl (Nat.le_of_ble_eq_true rfl) d_Model_init_359 (fun H locs hw _ hS => ?_)
  replace hw := xk.ofset (by decide) hw
  rw [xu_same] at hw
  have hw : xk G (xu f 51 (.inr (10, [.ref (G.2.1 52), .int 0, .ref (G.2.1 53), .ref (G.2.1 54), .ref (G.2.1 55), .ref (G.2.1 56), .int 0, .int (1 : Int32), .int 0, .int 0, .int 0, .ref (G.2.1 57), .int (121 : Int32), .int 0, .ref (G.2.1 58), .int (1 : Int32), .int 0, .int 0, .ref (G.2.1 59), .ref (G.2.1 60), .ref (G.2.1 61), .int 0, .int 0, .null, .int 0, .int 0, .int 0, .null, .null, .int 0, .int 0, .int 0, .null]))) (62) H := hw
  refine lv_aload_n hx hb d_Model_init_362 rfl (lv_at hl 0 rfl) ?_
  refine lv_sipush (v := (200 : Int32)) hx hb d_Model_init_363 (by decide) ?_
  refine x_sz (fun hz => ?_)
  have hsz : _ = G.2.1 62 := xk.sz (n := 61) hC hw hz (by rw [hs]; exact (hC.2.1.add (52) 10).symm)
  refine x_newa (G := G) (atype := .int) hx hb mw_127 hu 0 rfl hC hsz hw hS (a0 := (200, .inl (fun _ => 0))) (fun _ => rfl) (by decide) (by decide) (by decide) (Nat.le_of_ble_eq_true rfl) (Nat.le_of_ble_eq_true rfl) d_Model_init_366 (fun H hw hS => ?_)
  rw [xu_self (show (xu f 51 (.inr (10, [.ref (G.2.1 52), .int 0, .ref (G.2.1 53), .ref (G.2.1 54), .ref (G.2.1 55), .ref (G.2.1 56), .int 0, .int (1 : Int32), .int 0, .int 0, .int 0, .ref (G.2.1 57), .int (121 : Int32), .int 0, .ref (G.2.1 58), .int (1 : Int32), .int 0, .int 0, .ref (G.2.1 59), .ref (G.2.1 60), .ref (G.2.1 61), .int 0, .int 0, .null, .int 0, .int 0, .int 0, .null, .null, .int 0, .int 0, .int 0, .null]))) 62 = .inl (G.2.2.1 0, 200, .inl (fun _ => 0)) from (xu_ne (by decide)).trans (hf 62 (by decide) (by decide)))] at hw
  have hw : xk G (xu f 51 (.inr (10, [.ref (G.2.1 52), .int 0, .ref (G.2.1 53), .ref (G.2.1 54), .ref (G.2.1 55), .ref (G.2.1 56), .int 0, .int (1 : Int32), .int 0, .int 0, .int 0, .ref (G.2.1 57), .int (121 : Int32), .int 0, .ref (G.2.1 58), .int (1 : Int32), .int 0, .int 0, .ref (G.2.1 59), .ref (G.2.1 60), .ref (G.2.1 61), .int 0, .int 0, .null, .int 0, .int 0, .int 0, .null, .null, .int 0, .int 0, .int 0, .null]))) (63) H := hw
  refine va_putF (D := G.1) (cl := xCl) (ci := 10) (v := .ref (G.2.1 62)) (ty := ty_Model 23) (C := R_Model) (T := T_Model) (N := 33) hx hb hu fi_Model ty_Model tyok_Model nm_Model hown hC.1 hw.P (wk_D hI (by decide)) hS 51 (wk_at (by decide) (xu_eq _ _ _)) rfl 23 (by decide) (hu _ mw_1091) (fun _ h9 => h9) rfl hin rfl (tyok_Model 23 (by decide)) rfl rfl (Nat.le_of_ble_eq_true rfl) d_Model_init_368 (fun H locs hw _ hS => ?_)
  replace hw := xk.ofset (by decide) hw
  rw [xu_same] at hw
  have hw : xk G (xu f 51 (.inr (10, [.ref (G.2.1 52), .int 0, .ref (G.2.1 53), .ref (G.2.1 54), .ref (G.2.1 55), .ref (G.2.1 56), .int 0, .int (1 : Int32), .int 0, .int 0, .int 0, .ref (G.2.1 57), .int (121 : Int32), .int 0, .ref (G.2.1 58), .int (1 : Int32), .int 0, .int 0, .ref (G.2.1 59), .ref (G.2.1 60), .ref (G.2.1 61), .int 0, .int 0, .ref (G.2.1 62), .int 0, .int 0, .int 0, .null, .null, .int 0, .int 0, .int 0, .null]))) (63) H := hw
  refine lv_aload_n hx hb d_Model_init_371 rfl (lv_at hl 0 rfl) ?_
  refine lv_sipush (v := (512 : Int32)) hx hb d_Model_init_372 (by decide) ?_
  refine x_sz (fun hz => ?_)
  have hsz : _ = G.2.1 63 := xk.sz (n := 62) hC hw hz (by rw [hs]; exact (hC.2.1.add (52) 11).symm)
  refine x_newa (G := G) (atype := .int) hx hb mw_127 hu 0 rfl hC hsz hw hS (a0 := (512, .inl (fun _ => 0))) (fun _ => rfl) (by decide) (by decide) (by decide) (Nat.le_of_ble_eq_true rfl) (Nat.le_of_ble_eq_true rfl) d_Model_init_375 (fun H hw hS => ?_)
  rw [xu_self (show (xu f 51 (.inr (10, [.ref (G.2.1 52), .int 0, .ref (G.2.1 53), .ref (G.2.1 54), .ref (G.2.1 55), .ref (G.2.1 56), .int 0, .int (1 : Int32), .int 0, .int 0, .int 0, .ref (G.2.1 57), .int (121 : Int32), .int 0, .ref (G.2.1 58), .int (1 : Int32), .int 0, .int 0, .ref (G.2.1 59), .ref (G.2.1 60), .ref (G.2.1 61), .int 0, .int 0, .ref (G.2.1 62), .int 0, .int 0, .int 0, .null, .null, .int 0, .int 0, .int 0, .null]))) 63 = .inl (G.2.2.1 0, 512, .inl (fun _ => 0)) from (xu_ne (by decide)).trans (hf 63 (by decide) (by decide)))] at hw
  have hw : xk G (xu f 51 (.inr (10, [.ref (G.2.1 52), .int 0, .ref (G.2.1 53), .ref (G.2.1 54), .ref (G.2.1 55), .ref (G.2.1 56), .int 0, .int (1 : Int32), .int 0, .int 0, .int 0, .ref (G.2.1 57), .int (121 : Int32), .int 0, .ref (G.2.1 58), .int (1 : Int32), .int 0, .int 0, .ref (G.2.1 59), .ref (G.2.1 60), .ref (G.2.1 61), .int 0, .int 0, .ref (G.2.1 62), .int 0, .int 0, .int 0, .null, .null, .int 0, .int 0, .int 0, .null]))) (64) H := hw
  refine va_putF (D := G.1) (cl := xCl) (ci := 10) (v := .ref (G.2.1 63)) (ty := ty_Model 27) (C := R_Model) (T := T_Model) (N := 33) hx hb hu fi_Model ty_Model tyok_Model nm_Model hown hC.1 hw.P (wk_D hI (by decide)) hS 51 (wk_at (by decide) (xu_eq _ _ _)) rfl 27 (by decide) (hu _ mw_1095) (fun _ h9 => h9) rfl hin rfl (tyok_Model 27 (by decide)) rfl rfl (Nat.le_of_ble_eq_true rfl) d_Model_init_377 (fun H locs hw _ hS => ?_)
  replace hw := xk.ofset (by decide) hw
  rw [xu_same] at hw
  have hw : xk G (xu f 51 (.inr (10, [.ref (G.2.1 52), .int 0, .ref (G.2.1 53), .ref (G.2.1 54), .ref (G.2.1 55), .ref (G.2.1 56), .int 0, .int (1 : Int32), .int 0, .int 0, .int 0, .ref (G.2.1 57), .int (121 : Int32), .int 0, .ref (G.2.1 58), .int (1 : Int32), .int 0, .int 0, .ref (G.2.1 59), .ref (G.2.1 60), .ref (G.2.1 61), .int 0, .int 0, .ref (G.2.1 62), .int 0, .int 0, .int 0, .ref (G.2.1 63), .null, .int 0, .int 0, .int 0, .null]))) (64) H := hw
  refine lv_aload_n hx hb d_Model_init_380 rfl (lv_at hl 0 rfl) ?_
  refine lv_sipush (v := (512 : Int32)) hx hb d_Model_init_381 (by decide) ?_
  refine x_sz (fun hz => ?_)
  have hsz : _ = G.2.1 64 := xk.sz (n := 63) hC hw hz (by rw [hs]; exact (hC.2.1.add (52) 12).symm)
  refine x_newa (G := G) (atype := .int) hx hb mw_127 hu 0 rfl hC hsz hw hS (a0 := (512, .inl (fun _ => 0))) (fun _ => rfl) (by decide) (by decide) (by decide) (Nat.le_of_ble_eq_true rfl) (Nat.le_of_ble_eq_true rfl) d_Model_init_384 (fun H hw hS => ?_)
  rw [xu_self (show (xu f 51 (.inr (10, [.ref (G.2.1 52), .int 0, .ref (G.2.1 53), .ref (G.2.1 54), .ref (G.2.1 55), .ref (G.2.1 56), .int 0, .int (1 : Int32), .int 0, .int 0, .int 0, .ref (G.2.1 57), .int (121 : Int32), .int 0, .ref (G.2.1 58), .int (1 : Int32), .int 0, .int 0, .ref (G.2.1 59), .ref (G.2.1 60), .ref (G.2.1 61), .int 0, .int 0, .ref (G.2.1 62), .int 0, .int 0, .int 0, .ref (G.2.1 63), .null, .int 0, .int 0, .int 0, .null]))) 64 = .inl (G.2.2.1 0, 512, .inl (fun _ => 0)) from (xu_ne (by decide)).trans (hf 64 (by decide) (by decide)))] at hw
  have hw : xk G (xu f 51 (.inr (10, [.ref (G.2.1 52), .int 0, .ref (G.2.1 53), .ref (G.2.1 54), .ref (G.2.1 55), .ref (G.2.1 56), .int 0, .int (1 : Int32), .int 0, .int 0, .int 0, .ref (G.2.1 57), .int (121 : Int32), .int 0, .ref (G.2.1 58), .int (1 : Int32), .int 0, .int 0, .ref (G.2.1 59), .ref (G.2.1 60), .ref (G.2.1 61), .int 0, .int 0, .ref (G.2.1 62), .int 0, .int 0, .int 0, .ref (G.2.1 63), .null, .int 0, .int 0, .int 0, .null]))) (65) H := hw
  refine va_putF (D := G.1) (cl := xCl) (ci := 10) (v := .ref (G.2.1 64)) (ty := ty_Model 28) (C := R_Model) (T := T_Model) (N := 33) hx hb hu fi_Model ty_Model tyok_Model nm_Model hown hC.1 hw.P (wk_D hI (by decide)) hS 51 (wk_at (by decide) (xu_eq _ _ _)) rfl 28 (by decide) (hu _ mw_1096) (fun _ h9 => h9) rfl hin rfl (tyok_Model 28 (by decide)) rfl rfl (Nat.le_of_ble_eq_true rfl) d_Model_init_386 (fun H locs hw _ hS => ?_)
  replace hw := xk.ofset (by decide) hw
  rw [xu_same] at hw
  have hw : xk G (xu f 51 (.inr (10, [.ref (G.2.1 52), .int 0, .ref (G.2.1 53), .ref (G.2.1 54), .ref (G.2.1 55), .ref (G.2.1 56), .int 0, .int (1 : Int32), .int 0, .int 0, .int 0, .ref (G.2.1 57), .int (121 : Int32), .int 0, .ref (G.2.1 58), .int (1 : Int32), .int 0, .int 0, .ref (G.2.1 59), .ref (G.2.1 60), .ref (G.2.1 61), .int 0, .int 0, .ref (G.2.1 62), .int 0, .int 0, .int 0, .ref (G.2.1 63), .ref (G.2.1 64), .int 0, .int 0, .int 0, .null]))) (65) H := hw
  refine lv_aload_n hx hb d_Model_init_389 rfl (lv_at hl 0 rfl) ?_
  refine lv_iconst (v := ((-1) : Int32)) hx hb d_Model_init_390 (by decide) ?_
  refine va_put (D := G.1) (cl := xCl) (ci := 10) (v := .int ((-1) : Int32)) (ty := ty_Model 29) (C := R_Model) (T := T_Model) (N := 33) hx hb hu fi_Model ty_Model tyok_Model nm_Model hown hC.1 hw.P (wk_D hI (by decide)) hS 51 (wk_at (by decide) (xu_eq _ _ _)) rfl 29 (by decide) (hu _ mw_1097) (fun _ h9 => h9) rfl (tyok_Model 29 (by decide)) rfl rfl (Nat.le_of_ble_eq_true rfl) d_Model_init_391 (fun H locs hw _ hS => ?_)
  replace hw := xk.ofset (by decide) hw
  rw [xu_same] at hw
  have hw : xk G (xu f 51 (.inr (10, [.ref (G.2.1 52), .int 0, .ref (G.2.1 53), .ref (G.2.1 54), .ref (G.2.1 55), .ref (G.2.1 56), .int 0, .int (1 : Int32), .int 0, .int 0, .int 0, .ref (G.2.1 57), .int (121 : Int32), .int 0, .ref (G.2.1 58), .int (1 : Int32), .int 0, .int 0, .ref (G.2.1 59), .ref (G.2.1 60), .ref (G.2.1 61), .int 0, .int 0, .ref (G.2.1 62), .int 0, .int 0, .int 0, .ref (G.2.1 63), .ref (G.2.1 64), .int ((-1) : Int32), .int 0, .int 0, .null]))) (65) H := hw
  refine lv_aload_n hx hb d_Model_init_394 rfl (lv_at hl 0 rfl) ?_
  refine lv_sipush (v := (2000 : Int32)) hx hb d_Model_init_395 (by decide) ?_
  refine x_sz (fun hz => ?_)
  have hsz : _ = G.2.1 65 := xk.sz (n := 64) hC hw hz (by rw [hs]; exact (hC.2.1.add (52) 13).symm)
  refine x_newa (G := G) (atype := .int) hx hb mw_127 hu 0 rfl hC hsz hw hS (a0 := (2000, .inl (fun _ => 0))) (fun _ => rfl) (by decide) (by decide) (by decide) (Nat.le_of_ble_eq_true rfl) (Nat.le_of_ble_eq_true rfl) d_Model_init_398 (fun H hw hS => ?_)
  rw [xu_self (show (xu f 51 (.inr (10, [.ref (G.2.1 52), .int 0, .ref (G.2.1 53), .ref (G.2.1 54), .ref (G.2.1 55), .ref (G.2.1 56), .int 0, .int (1 : Int32), .int 0, .int 0, .int 0, .ref (G.2.1 57), .int (121 : Int32), .int 0, .ref (G.2.1 58), .int (1 : Int32), .int 0, .int 0, .ref (G.2.1 59), .ref (G.2.1 60), .ref (G.2.1 61), .int 0, .int 0, .ref (G.2.1 62), .int 0, .int 0, .int 0, .ref (G.2.1 63), .ref (G.2.1 64), .int ((-1) : Int32), .int 0, .int 0, .null]))) 65 = .inl (G.2.2.1 0, 2000, .inl (fun _ => 0)) from (xu_ne (by decide)).trans (hf 65 (by decide) (by decide)))] at hw
  have hw : xk G (xu f 51 (.inr (10, [.ref (G.2.1 52), .int 0, .ref (G.2.1 53), .ref (G.2.1 54), .ref (G.2.1 55), .ref (G.2.1 56), .int 0, .int (1 : Int32), .int 0, .int 0, .int 0, .ref (G.2.1 57), .int (121 : Int32), .int 0, .ref (G.2.1 58), .int (1 : Int32), .int 0, .int 0, .ref (G.2.1 59), .ref (G.2.1 60), .ref (G.2.1 61), .int 0, .int 0, .ref (G.2.1 62), .int 0, .int 0, .int 0, .ref (G.2.1 63), .ref (G.2.1 64), .int ((-1) : Int32), .int 0, .int 0, .null]))) (66) H := hw
  refine va_putF (D := G.1) (cl := xCl) (ci := 10) (v := .ref (G.2.1 65)) (ty := ty_Model 32) (C := R_Model) (T := T_Model) (N := 33) hx hb hu fi_Model ty_Model tyok_Model nm_Model hown hC.1 hw.P (wk_D hI (by decide)) hS 51 (wk_at (by decide) (xu_eq _ _ _)) rfl 32 (by decide) (hu _ mw_1100) (fun _ h9 => h9) rfl hin rfl (tyok_Model 32 (by decide)) rfl rfl (Nat.le_of_ble_eq_true rfl) d_Model_init_400 (fun H locs hw _ hS => ?_)
  replace hw := xk.ofset (by decide) hw
  rw [xu_same] at hw
  have hw : xk G (xu f 51 (.inr (10, [.ref (G.2.1 52), .int 0, .ref (G.2.1 53), .ref (G.2.1 54), .ref (G.2.1 55), .ref (G.2.1 56), .int 0, .int (1 : Int32), .int 0, .int 0, .int 0, .ref (G.2.1 57), .int (121 : Int32), .int 0, .ref (G.2.1 58), .int (1 : Int32), .int 0, .int 0, .ref (G.2.1 59), .ref (G.2.1 60), .ref (G.2.1 61), .int 0, .int 0, .ref (G.2.1 62), .int 0, .int 0, .int 0, .ref (G.2.1 63), .ref (G.2.1 64), .int ((-1) : Int32), .int 0, .int 0, .ref (G.2.1 65)]))) (66) H := hw
  rw [xu_self (show f 51 = .inr (10, [.ref (G.2.1 52), .int 0, .ref (G.2.1 53), .ref (G.2.1 54), .ref (G.2.1 55), .ref (G.2.1 56), .int 0, .int (1 : Int32), .int 0, .int 0, .int 0, .ref (G.2.1 57), .int (121 : Int32), .int 0, .ref (G.2.1 58), .int (1 : Int32), .int 0, .int 0, .ref (G.2.1 59), .ref (G.2.1 60), .ref (G.2.1 61), .int 0, .int 0, .ref (G.2.1 62), .int 0, .int 0, .int 0, .ref (G.2.1 63), .ref (G.2.1 64), .int ((-1) : Int32), .int 0, .int 0, .ref (G.2.1 65)]) from (hf 51 (by decide) (by decide)))] at hw
  exact W.vret hx hb hr (fun t ht hW => ⟨rfl, by rw [ht]; exact hw, hS.F ht⟩) hS.2.2 d_Model_init_403
