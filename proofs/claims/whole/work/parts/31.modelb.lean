def y_Model_takeRequestLine : MethodName := ⟨"PlainOriginModel", "takeRequestLine", "()V"⟩
def ws_Model_takeRequestLine : List Cond := Cond.code y_Model_takeRequestLine prog_14_method_20_code 8 none :: UW
theorem hd_Model_takeRequestLine : y_Model_takeRequestLine.cls = R_Model ∧ y_Model_takeRequestLine.cls ≠ "java/lang/invoke/MethodHandle" ∧ y_Model_takeRequestLine.cls ≠ "java/lang/invoke/VarHandle" ∧ (parseMethodDescriptor y_Model_takeRequestLine.desc).map (fun d => d.parameters.length) = some 0 := by decide +kernel
theorem d_Model_takeRequestLine_0 : decode prog_14_method_20_code 0 = .ok (.aload_n 0, 1) := by decide +kernel
theorem d_Model_takeRequestLine_1 : decode prog_14_method_20_code 1 = .ok (.iconst 0, 1) := by decide +kernel
theorem d_Model_takeRequestLine_2 : decode prog_14_method_20_code 2 = .ok (.putfield 228, 3) := by decide +kernel
theorem d_Model_takeRequestLine_5 : decode prog_14_method_20_code 5 = .ok (.aload_n 0, 1) := by decide +kernel
theorem d_Model_takeRequestLine_6 : decode prog_14_method_20_code 6 = .ok (.iconst 0, 1) := by decide +kernel
theorem d_Model_takeRequestLine_7 : decode prog_14_method_20_code 7 = .ok (.putfield 172, 3) := by decide +kernel
theorem d_Model_takeRequestLine_10 : decode prog_14_method_20_code 10 = .ok (.aload_n 0, 1) := by decide +kernel
theorem d_Model_takeRequestLine_11 : decode prog_14_method_20_code 11 = .ok (.iconst 0, 1) := by decide +kernel
theorem d_Model_takeRequestLine_12 : decode prog_14_method_20_code 12 = .ok (.putfield 182, 3) := by decide +kernel
theorem d_Model_takeRequestLine_15 : decode prog_14_method_20_code 15 = .ok (.aload_n 0, 1) := by decide +kernel
theorem d_Model_takeRequestLine_16 : decode prog_14_method_20_code 16 = .ok (.iconst 0, 1) := by decide +kernel
theorem d_Model_takeRequestLine_17 : decode prog_14_method_20_code 17 = .ok (.putfield 185, 3) := by decide +kernel
theorem d_Model_takeRequestLine_20 : decode prog_14_method_20_code 20 = .ok (.aload_n 0, 1) := by decide +kernel
theorem d_Model_takeRequestLine_21 : decode prog_14_method_20_code 21 = .ok (.iconst 1, 1) := by decide +kernel
theorem d_Model_takeRequestLine_22 : decode prog_14_method_20_code 22 = .ok (.putfield 115, 3) := by decide +kernel
theorem d_Model_takeRequestLine_25 : decode prog_14_method_20_code 25 = .ok (.aload_n 0, 1) := by decide +kernel
theorem d_Model_takeRequestLine_26 : decode prog_14_method_20_code 26 = .ok (.bipush (32), 2) := by decide +kernel
theorem d_Model_takeRequestLine_28 : decode prog_14_method_20_code 28 = .ok (.iconst 0, 1) := by decide +kernel
theorem d_Model_takeRequestLine_29 : decode prog_14_method_20_code 29 = .ok (.invokevirtual 231, 3) := by decide +kernel
theorem d_Model_takeRequestLine_32 : decode prog_14_method_20_code 32 = .ok (.istore_n 1, 1) := by decide +kernel
theorem d_Model_takeRequestLine_33 : decode prog_14_method_20_code 33 = .ok (.iload_n 1, 1) := by decide +kernel
theorem d_Model_takeRequestLine_34 : decode prog_14_method_20_code 34 = .ok (.aload_n 0, 1) := by decide +kernel
theorem d_Model_takeRequestLine_35 : decode prog_14_method_20_code 35 = .ok (.getfield 201, 3) := by decide +kernel
theorem d_Model_takeRequestLine_38 : decode prog_14_method_20_code 38 = .ok (.if_icmp .ge (15), 3) := by decide +kernel
theorem d_Model_takeRequestLine_41 : decode prog_14_method_20_code 41 = .ok (.aload_n 0, 1) := by decide +kernel
theorem d_Model_takeRequestLine_42 : decode prog_14_method_20_code 42 = .ok (.bipush (32), 2) := by decide +kernel
theorem d_Model_takeRequestLine_44 : decode prog_14_method_20_code 44 = .ok (.iload_n 1, 1) := by decide +kernel
theorem d_Model_takeRequestLine_45 : decode prog_14_method_20_code 45 = .ok (.iconst 1, 1) := by decide +kernel
theorem d_Model_takeRequestLine_46 : decode prog_14_method_20_code 46 = .ok (.iadd, 1) := by decide +kernel
theorem d_Model_takeRequestLine_47 : decode prog_14_method_20_code 47 = .ok (.invokevirtual 231, 3) := by decide +kernel
theorem d_Model_takeRequestLine_50 : decode prog_14_method_20_code 50 = .ok (.goto (7), 3) := by decide +kernel
theorem d_Model_takeRequestLine_53 : decode prog_14_method_20_code 53 = .ok (.aload_n 0, 1) := by decide +kernel
theorem d_Model_takeRequestLine_54 : decode prog_14_method_20_code 54 = .ok (.getfield 201, 3) := by decide +kernel
theorem d_Model_takeRequestLine_57 : decode prog_14_method_20_code 57 = .ok (.istore_n 2, 1) := by decide +kernel
theorem d_Model_takeRequestLine_58 : decode prog_14_method_20_code 58 = .ok (.iload_n 2, 1) := by decide +kernel
theorem d_Model_takeRequestLine_59 : decode prog_14_method_20_code 59 = .ok (.aload_n 0, 1) := by decide +kernel
theorem d_Model_takeRequestLine_60 : decode prog_14_method_20_code 60 = .ok (.getfield 201, 3) := by decide +kernel
theorem d_Model_takeRequestLine_63 : decode prog_14_method_20_code 63 = .ok (.if_icmp .ge (15), 3) := by decide +kernel
theorem d_Model_takeRequestLine_66 : decode prog_14_method_20_code 66 = .ok (.aload_n 0, 1) := by decide +kernel
theorem d_Model_takeRequestLine_67 : decode prog_14_method_20_code 67 = .ok (.bipush (32), 2) := by decide +kernel
theorem d_Model_takeRequestLine_69 : decode prog_14_method_20_code 69 = .ok (.iload_n 2, 1) := by decide +kernel
theorem d_Model_takeRequestLine_70 : decode prog_14_method_20_code 70 = .ok (.iconst 1, 1) := by decide +kernel
theorem d_Model_takeRequestLine_71 : decode prog_14_method_20_code 71 = .ok (.iadd, 1) := by decide +kernel
theorem d_Model_takeRequestLine_72 : decode prog_14_method_20_code 72 = .ok (.invokevirtual 231, 3) := by decide +kernel
theorem d_Model_takeRequestLine_75 : decode prog_14_method_20_code 75 = .ok (.goto (4), 3) := by decide +kernel
theorem d_Model_takeRequestLine_78 : decode prog_14_method_20_code 78 = .ok (.iconst 0, 1) := by decide +kernel
theorem d_Model_takeRequestLine_79 : decode prog_14_method_20_code 79 = .ok (.istore_n 3, 1) := by decide +kernel
theorem d_Model_takeRequestLine_80 : decode prog_14_method_20_code 80 = .ok (.aload_n 0, 1) := by decide +kernel
theorem d_Model_takeRequestLine_81 : decode prog_14_method_20_code 81 = .ok (.iload_n 2, 1) := by decide +kernel
theorem d_Model_takeRequestLine_82 : decode prog_14_method_20_code 82 = .ok (.aload_n 0, 1) := by decide +kernel
theorem d_Model_takeRequestLine_83 : decode prog_14_method_20_code 83 = .ok (.getfield 201, 3) := by decide +kernel
theorem d_Model_takeRequestLine_86 : decode prog_14_method_20_code 86 = .ok (.if_icmp .ge (15), 3) := by decide +kernel
theorem d_Model_takeRequestLine_89 : decode prog_14_method_20_code 89 = .ok (.iload_n 3, 1) := by decide +kernel
theorem d_Model_takeRequestLine_90 : decode prog_14_method_20_code 90 = .ok (.aload_n 0, 1) := by decide +kernel
theorem d_Model_takeRequestLine_91 : decode prog_14_method_20_code 91 = .ok (.getfield 201, 3) := by decide +kernel
theorem d_Model_takeRequestLine_94 : decode prog_14_method_20_code 94 = .ok (.if_icmp .ne (7), 3) := by decide +kernel
theorem d_Model_takeRequestLine_97 : decode prog_14_method_20_code 97 = .ok (.iconst 1, 1) := by decide +kernel
theorem d_Model_takeRequestLine_98 : decode prog_14_method_20_code 98 = .ok (.goto (4), 3) := by decide +kernel
theorem d_Model_takeRequestLine_101 : decode prog_14_method_20_code 101 = .ok (.iconst 0, 1) := by decide +kernel
theorem d_Model_takeRequestLine_102 : decode prog_14_method_20_code 102 = .ok (.sipush (400), 3) := by decide +kernel
theorem d_Model_takeRequestLine_105 : decode prog_14_method_20_code 105 = .ok (.invokevirtual 194, 3) := by decide +kernel
theorem d_Model_takeRequestLine_108 : decode prog_14_method_20_code 108 = .ok (.aload_n 0, 1) := by decide +kernel
theorem d_Model_takeRequestLine_109 : decode prog_14_method_20_code 109 = .ok (.getfield 162, 3) := by decide +kernel
theorem d_Model_takeRequestLine_112 : decode prog_14_method_20_code 112 = .ok (.ifCond .le (4), 3) := by decide +kernel
theorem d_Model_takeRequestLine_115 : decode prog_14_method_20_code 115 = .ok (.return_, 1) := by decide +kernel
theorem d_Model_takeRequestLine_116 : decode prog_14_method_20_code 116 = .ok (.aload_n 0, 1) := by decide +kernel
theorem d_Model_takeRequestLine_117 : decode prog_14_method_20_code 117 = .ok (.getfield 201, 3) := by decide +kernel
theorem d_Model_takeRequestLine_120 : decode prog_14_method_20_code 120 = .ok (.iload_n 2, 1) := by decide +kernel
theorem d_Model_takeRequestLine_121 : decode prog_14_method_20_code 121 = .ok (.isub, 1) := by decide +kernel
theorem d_Model_takeRequestLine_122 : decode prog_14_method_20_code 122 = .ok (.bipush (9), 2) := by decide +kernel
theorem d_Model_takeRequestLine_124 : decode prog_14_method_20_code 124 = .ok (.if_icmp .ne (51), 3) := by decide +kernel
theorem d_Model_takeRequestLine_127 : decode prog_14_method_20_code 127 = .ok (.aload_n 0, 1) := by decide +kernel
theorem d_Model_takeRequestLine_128 : decode prog_14_method_20_code 128 = .ok (.getfield 105, 3) := by decide +kernel
theorem d_Model_takeRequestLine_131 : decode prog_14_method_20_code 131 = .ok (.iload_n 2, 1) := by decide +kernel
theorem d_Model_takeRequestLine_132 : decode prog_14_method_20_code 132 = .ok (.bipush (6), 2) := by decide +kernel
theorem d_Model_takeRequestLine_134 : decode prog_14_method_20_code 134 = .ok (.iadd, 1) := by decide +kernel
theorem d_Model_takeRequestLine_135 : decode prog_14_method_20_code 135 = .ok (.iaload, 1) := by decide +kernel
theorem d_Model_takeRequestLine_136 : decode prog_14_method_20_code 136 = .ok (.invokestatic 151, 3) := by decide +kernel
theorem d_Model_takeRequestLine_139 : decode prog_14_method_20_code 139 = .ok (.ifCond .eq (36), 3) := by decide +kernel
theorem d_Model_takeRequestLine_142 : decode prog_14_method_20_code 142 = .ok (.aload_n 0, 1) := by decide +kernel
theorem d_Model_takeRequestLine_143 : decode prog_14_method_20_code 143 = .ok (.getfield 105, 3) := by decide +kernel
theorem d_Model_takeRequestLine_146 : decode prog_14_method_20_code 146 = .ok (.iload_n 2, 1) := by decide +kernel
theorem d_Model_takeRequestLine_147 : decode prog_14_method_20_code 147 = .ok (.bipush (7), 2) := by decide +kernel
theorem d_Model_takeRequestLine_149 : decode prog_14_method_20_code 149 = .ok (.iadd, 1) := by decide +kernel
theorem d_Model_takeRequestLine_150 : decode prog_14_method_20_code 150 = .ok (.iaload, 1) := by decide +kernel
theorem d_Model_takeRequestLine_151 : decode prog_14_method_20_code 151 = .ok (.bipush (46), 2) := by decide +kernel
theorem d_Model_takeRequestLine_153 : decode prog_14_method_20_code 153 = .ok (.if_icmp .ne (22), 3) := by decide +kernel
theorem d_Model_takeRequestLine_156 : decode prog_14_method_20_code 156 = .ok (.aload_n 0, 1) := by decide +kernel
theorem d_Model_takeRequestLine_157 : decode prog_14_method_20_code 157 = .ok (.getfield 105, 3) := by decide +kernel
theorem d_Model_takeRequestLine_160 : decode prog_14_method_20_code 160 = .ok (.iload_n 2, 1) := by decide +kernel
theorem d_Model_takeRequestLine_161 : decode prog_14_method_20_code 161 = .ok (.bipush (8), 2) := by decide +kernel
theorem d_Model_takeRequestLine_163 : decode prog_14_method_20_code 163 = .ok (.iadd, 1) := by decide +kernel
theorem d_Model_takeRequestLine_164 : decode prog_14_method_20_code 164 = .ok (.iaload, 1) := by decide +kernel
theorem d_Model_takeRequestLine_165 : decode prog_14_method_20_code 165 = .ok (.invokestatic 151, 3) := by decide +kernel
theorem d_Model_takeRequestLine_168 : decode prog_14_method_20_code 168 = .ok (.ifCond .eq (7), 3) := by decide +kernel
theorem d_Model_takeRequestLine_171 : decode prog_14_method_20_code 171 = .ok (.iconst 1, 1) := by decide +kernel
theorem d_Model_takeRequestLine_172 : decode prog_14_method_20_code 172 = .ok (.goto (4), 3) := by decide +kernel
theorem d_Model_takeRequestLine_175 : decode prog_14_method_20_code 175 = .ok (.iconst 0, 1) := by decide +kernel
theorem d_Model_takeRequestLine_176 : decode prog_14_method_20_code 176 = .ok (.istore 4, 2) := by decide +kernel
theorem d_Model_takeRequestLine_178 : decode prog_14_method_20_code 178 = .ok (.iconst 0, 1) := by decide +kernel
theorem d_Model_takeRequestLine_179 : decode prog_14_method_20_code 179 = .ok (.istore 5, 2) := by decide +kernel
theorem d_Model_takeRequestLine_181 : decode prog_14_method_20_code 181 = .ok (.iload 5, 2) := by decide +kernel
theorem d_Model_takeRequestLine_183 : decode prog_14_method_20_code 183 = .ok (.iconst 5, 1) := by decide +kernel
theorem d_Model_takeRequestLine_184 : decode prog_14_method_20_code 184 = .ok (.if_icmp .ge (45), 3) := by decide +kernel
theorem d_Model_takeRequestLine_187 : decode prog_14_method_20_code 187 = .ok (.iload 4, 2) := by decide +kernel
theorem d_Model_takeRequestLine_189 : decode prog_14_method_20_code 189 = .ok (.ifCond .eq (40), 3) := by decide +kernel
theorem d_Model_takeRequestLine_192 : decode prog_14_method_20_code 192 = .ok (.aload_n 0, 1) := by decide +kernel
theorem d_Model_takeRequestLine_193 : decode prog_14_method_20_code 193 = .ok (.getfield 105, 3) := by decide +kernel
theorem d_Model_takeRequestLine_196 : decode prog_14_method_20_code 196 = .ok (.iload_n 2, 1) := by decide +kernel
theorem d_Model_takeRequestLine_197 : decode prog_14_method_20_code 197 = .ok (.iconst 1, 1) := by decide +kernel
theorem d_Model_takeRequestLine_198 : decode prog_14_method_20_code 198 = .ok (.iadd, 1) := by decide +kernel
theorem d_Model_takeRequestLine_199 : decode prog_14_method_20_code 199 = .ok (.iload 5, 2) := by decide +kernel
theorem d_Model_takeRequestLine_201 : decode prog_14_method_20_code 201 = .ok (.iadd, 1) := by decide +kernel
theorem d_Model_takeRequestLine_202 : decode prog_14_method_20_code 202 = .ok (.iaload, 1) := by decide +kernel
theorem d_Model_takeRequestLine_203 : decode prog_14_method_20_code 203 = .ok (.aload_n 0, 1) := by decide +kernel
theorem d_Model_takeRequestLine_204 : decode prog_14_method_20_code 204 = .ok (.sipush (160), 3) := by decide +kernel
theorem d_Model_takeRequestLine_207 : decode prog_14_method_20_code 207 = .ok (.iload 5, 2) := by decide +kernel
theorem d_Model_takeRequestLine_209 : decode prog_14_method_20_code 209 = .ok (.iadd, 1) := by decide +kernel
theorem d_Model_takeRequestLine_210 : decode prog_14_method_20_code 210 = .ok (.invokevirtual 225, 3) := by decide +kernel
theorem d_Model_takeRequestLine_213 : decode prog_14_method_20_code 213 = .ok (.if_icmp .ne (7), 3) := by decide +kernel
theorem d_Model_takeRequestLine_216 : decode prog_14_method_20_code 216 = .ok (.iconst 1, 1) := by decide +kernel
theorem d_Model_takeRequestLine_217 : decode prog_14_method_20_code 217 = .ok (.goto (4), 3) := by decide +kernel
theorem d_Model_takeRequestLine_220 : decode prog_14_method_20_code 220 = .ok (.iconst 0, 1) := by decide +kernel
theorem d_Model_takeRequestLine_221 : decode prog_14_method_20_code 221 = .ok (.istore 4, 2) := by decide +kernel
theorem d_Model_takeRequestLine_223 : decode prog_14_method_20_code 223 = .ok (.iinc 5 (1), 3) := by decide +kernel
theorem d_Model_takeRequestLine_226 : decode prog_14_method_20_code 226 = .ok (.goto (-45), 3) := by decide +kernel
theorem d_Model_takeRequestLine_229 : decode prog_14_method_20_code 229 = .ok (.aload_n 0, 1) := by decide +kernel
theorem d_Model_takeRequestLine_230 : decode prog_14_method_20_code 230 = .ok (.aload_n 0, 1) := by decide +kernel
theorem d_Model_takeRequestLine_231 : decode prog_14_method_20_code 231 = .ok (.iload_n 1, 1) := by decide +kernel
theorem d_Model_takeRequestLine_232 : decode prog_14_method_20_code 232 = .ok (.invokevirtual 235, 3) := by decide +kernel
theorem d_Model_takeRequestLine_235 : decode prog_14_method_20_code 235 = .ok (.ifCond .eq (29), 3) := by decide +kernel
theorem d_Model_takeRequestLine_238 : decode prog_14_method_20_code 238 = .ok (.iload_n 1, 1) := by decide +kernel
theorem d_Model_takeRequestLine_239 : decode prog_14_method_20_code 239 = .ok (.bipush (8), 2) := by decide +kernel
theorem d_Model_takeRequestLine_241 : decode prog_14_method_20_code 241 = .ok (.if_icmp .ge (23), 3) := by decide +kernel
theorem d_Model_takeRequestLine_244 : decode prog_14_method_20_code 244 = .ok (.iload 4, 2) := by decide +kernel
theorem d_Model_takeRequestLine_246 : decode prog_14_method_20_code 246 = .ok (.ifCond .eq (18), 3) := by decide +kernel
theorem d_Model_takeRequestLine_249 : decode prog_14_method_20_code 249 = .ok (.aload_n 0, 1) := by decide +kernel
theorem d_Model_takeRequestLine_250 : decode prog_14_method_20_code 250 = .ok (.iload_n 1, 1) := by decide +kernel
theorem d_Model_takeRequestLine_251 : decode prog_14_method_20_code 251 = .ok (.iconst 1, 1) := by decide +kernel
theorem d_Model_takeRequestLine_252 : decode prog_14_method_20_code 252 = .ok (.iadd, 1) := by decide +kernel
theorem d_Model_takeRequestLine_253 : decode prog_14_method_20_code 253 = .ok (.iload_n 2, 1) := by decide +kernel
theorem d_Model_takeRequestLine_254 : decode prog_14_method_20_code 254 = .ok (.invokevirtual 238, 3) := by decide +kernel
theorem d_Model_takeRequestLine_257 : decode prog_14_method_20_code 257 = .ok (.ifCond .eq (7), 3) := by decide +kernel
theorem d_Model_takeRequestLine_260 : decode prog_14_method_20_code 260 = .ok (.iconst 1, 1) := by decide +kernel
theorem d_Model_takeRequestLine_261 : decode prog_14_method_20_code 261 = .ok (.goto (4), 3) := by decide +kernel
theorem d_Model_takeRequestLine_264 : decode prog_14_method_20_code 264 = .ok (.iconst 0, 1) := by decide +kernel
theorem d_Model_takeRequestLine_265 : decode prog_14_method_20_code 265 = .ok (.sipush (400), 3) := by decide +kernel
theorem d_Model_takeRequestLine_268 : decode prog_14_method_20_code 268 = .ok (.invokevirtual 194, 3) := by decide +kernel
theorem d_Model_takeRequestLine_271 : decode prog_14_method_20_code 271 = .ok (.aload_n 0, 1) := by decide +kernel
theorem d_Model_takeRequestLine_272 : decode prog_14_method_20_code 272 = .ok (.getfield 162, 3) := by decide +kernel
theorem d_Model_takeRequestLine_275 : decode prog_14_method_20_code 275 = .ok (.ifCond .le (4), 3) := by decide +kernel
theorem d_Model_takeRequestLine_278 : decode prog_14_method_20_code 278 = .ok (.return_, 1) := by decide +kernel
theorem d_Model_takeRequestLine_279 : decode prog_14_method_20_code 279 = .ok (.aload_n 0, 1) := by decide +kernel
theorem d_Model_takeRequestLine_280 : decode prog_14_method_20_code 280 = .ok (.aload_n 0, 1) := by decide +kernel
theorem d_Model_takeRequestLine_281 : decode prog_14_method_20_code 281 = .ok (.getfield 105, 3) := by decide +kernel
theorem d_Model_takeRequestLine_284 : decode prog_14_method_20_code 284 = .ok (.iload_n 2, 1) := by decide +kernel
theorem d_Model_takeRequestLine_285 : decode prog_14_method_20_code 285 = .ok (.bipush (6), 2) := by decide +kernel
theorem d_Model_takeRequestLine_287 : decode prog_14_method_20_code 287 = .ok (.iadd, 1) := by decide +kernel
theorem d_Model_takeRequestLine_288 : decode prog_14_method_20_code 288 = .ok (.iaload, 1) := by decide +kernel
theorem d_Model_takeRequestLine_289 : decode prog_14_method_20_code 289 = .ok (.bipush (49), 2) := by decide +kernel
theorem d_Model_takeRequestLine_291 : decode prog_14_method_20_code 291 = .ok (.if_icmp .ne (7), 3) := by decide +kernel
theorem d_Model_takeRequestLine_294 : decode prog_14_method_20_code 294 = .ok (.iconst 1, 1) := by decide +kernel
theorem d_Model_takeRequestLine_295 : decode prog_14_method_20_code 295 = .ok (.goto (4), 3) := by decide +kernel
theorem d_Model_takeRequestLine_298 : decode prog_14_method_20_code 298 = .ok (.iconst 0, 1) := by decide +kernel
theorem d_Model_takeRequestLine_299 : decode prog_14_method_20_code 299 = .ok (.sipush (505), 3) := by decide +kernel
theorem d_Model_takeRequestLine_302 : decode prog_14_method_20_code 302 = .ok (.invokevirtual 194, 3) := by decide +kernel
theorem d_Model_takeRequestLine_305 : decode prog_14_method_20_code 305 = .ok (.aload_n 0, 1) := by decide +kernel
theorem d_Model_takeRequestLine_306 : decode prog_14_method_20_code 306 = .ok (.iconst 0, 1) := by decide +kernel
theorem d_Model_takeRequestLine_307 : decode prog_14_method_20_code 307 = .ok (.iload_n 1, 1) := by decide +kernel
theorem d_Model_takeRequestLine_308 : decode prog_14_method_20_code 308 = .ok (.bipush (121), 2) := by decide +kernel
theorem d_Model_takeRequestLine_310 : decode prog_14_method_20_code 310 = .ok (.invokevirtual 242, 3) := by decide +kernel
theorem d_Model_takeRequestLine_313 : decode prog_14_method_20_code 313 = .ok (.ifCond .eq (8), 3) := by decide +kernel
theorem d_Model_takeRequestLine_316 : decode prog_14_method_20_code 316 = .ok (.bipush (121), 2) := by decide +kernel
theorem d_Model_takeRequestLine_318 : decode prog_14_method_20_code 318 = .ok (.goto (56), 3) := by decide +kernel
theorem d_Model_takeRequestLine_321 : decode prog_14_method_20_code 321 = .ok (.aload_n 0, 1) := by decide +kernel
theorem d_Model_takeRequestLine_322 : decode prog_14_method_20_code 322 = .ok (.iconst 0, 1) := by decide +kernel
theorem d_Model_takeRequestLine_323 : decode prog_14_method_20_code 323 = .ok (.iload_n 1, 1) := by decide +kernel
theorem d_Model_takeRequestLine_324 : decode prog_14_method_20_code 324 = .ok (.bipush (125), 2) := by decide +kernel
theorem d_Model_takeRequestLine_326 : decode prog_14_method_20_code 326 = .ok (.invokevirtual 242, 3) := by decide +kernel
theorem d_Model_takeRequestLine_329 : decode prog_14_method_20_code 329 = .ok (.ifCond .eq (8), 3) := by decide +kernel
theorem d_Model_takeRequestLine_332 : decode prog_14_method_20_code 332 = .ok (.bipush (125), 2) := by decide +kernel
theorem d_Model_takeRequestLine_334 : decode prog_14_method_20_code 334 = .ok (.goto (40), 3) := by decide +kernel
theorem d_Model_takeRequestLine_337 : decode prog_14_method_20_code 337 = .ok (.aload_n 0, 1) := by decide +kernel
theorem d_Model_takeRequestLine_338 : decode prog_14_method_20_code 338 = .ok (.iconst 0, 1) := by decide +kernel
theorem d_Model_takeRequestLine_339 : decode prog_14_method_20_code 339 = .ok (.iload_n 1, 1) := by decide +kernel
theorem d_Model_takeRequestLine_340 : decode prog_14_method_20_code 340 = .ok (.sipush (130), 3) := by decide +kernel
theorem d_Model_takeRequestLine_343 : decode prog_14_method_20_code 343 = .ok (.invokevirtual 242, 3) := by decide +kernel
theorem d_Model_takeRequestLine_346 : decode prog_14_method_20_code 346 = .ok (.ifCond .eq (9), 3) := by decide +kernel
theorem d_Model_takeRequestLine_349 : decode prog_14_method_20_code 349 = .ok (.sipush (130), 3) := by decide +kernel
theorem d_Model_takeRequestLine_352 : decode prog_14_method_20_code 352 = .ok (.goto (22), 3) := by decide +kernel
theorem d_Model_takeRequestLine_355 : decode prog_14_method_20_code 355 = .ok (.aload_n 0, 1) := by decide +kernel
theorem d_Model_takeRequestLine_356 : decode prog_14_method_20_code 356 = .ok (.iconst 0, 1) := by decide +kernel
theorem d_Model_takeRequestLine_357 : decode prog_14_method_20_code 357 = .ok (.iload_n 1, 1) := by decide +kernel
theorem d_Model_takeRequestLine_358 : decode prog_14_method_20_code 358 = .ok (.sipush (134), 3) := by decide +kernel
theorem d_Model_takeRequestLine_361 : decode prog_14_method_20_code 361 = .ok (.invokevirtual 242, 3) := by decide +kernel
theorem d_Model_takeRequestLine_364 : decode prog_14_method_20_code 364 = .ok (.ifCond .eq (9), 3) := by decide +kernel
theorem d_Model_takeRequestLine_367 : decode prog_14_method_20_code 367 = .ok (.sipush (134), 3) := by decide +kernel
theorem d_Model_takeRequestLine_370 : decode prog_14_method_20_code 370 = .ok (.goto (4), 3) := by decide +kernel
theorem d_Model_takeRequestLine_373 : decode prog_14_method_20_code 373 = .ok (.iconst (-1), 1) := by decide +kernel
theorem d_Model_takeRequestLine_374 : decode prog_14_method_20_code 374 = .ok (.istore 5, 2) := by decide +kernel
theorem d_Model_takeRequestLine_376 : decode prog_14_method_20_code 376 = .ok (.aload_n 0, 1) := by decide +kernel
theorem d_Model_takeRequestLine_377 : decode prog_14_method_20_code 377 = .ok (.iconst 0, 1) := by decide +kernel
theorem d_Model_takeRequestLine_378 : decode prog_14_method_20_code 378 = .ok (.iload_n 1, 1) := by decide +kernel
theorem d_Model_takeRequestLine_379 : decode prog_14_method_20_code 379 = .ok (.sipush (139), 3) := by decide +kernel
theorem d_Model_takeRequestLine_382 : decode prog_14_method_20_code 382 = .ok (.invokevirtual 242, 3) := by decide +kernel
theorem d_Model_takeRequestLine_385 : decode prog_14_method_20_code 385 = .ok (.ifCond .eq (9), 3) := by decide +kernel
theorem d_Model_takeRequestLine_388 : decode prog_14_method_20_code 388 = .ok (.sipush (139), 3) := by decide +kernel
theorem d_Model_takeRequestLine_391 : decode prog_14_method_20_code 391 = .ok (.goto (41), 3) := by decide +kernel
theorem d_Model_takeRequestLine_394 : decode prog_14_method_20_code 394 = .ok (.aload_n 0, 1) := by decide +kernel
theorem d_Model_takeRequestLine_395 : decode prog_14_method_20_code 395 = .ok (.iconst 0, 1) := by decide +kernel
theorem d_Model_takeRequestLine_396 : decode prog_14_method_20_code 396 = .ok (.iload_n 1, 1) := by decide +kernel
theorem d_Model_takeRequestLine_397 : decode prog_14_method_20_code 397 = .ok (.sipush (146), 3) := by decide +kernel
theorem d_Model_takeRequestLine_400 : decode prog_14_method_20_code 400 = .ok (.invokevirtual 242, 3) := by decide +kernel
theorem d_Model_takeRequestLine_403 : decode prog_14_method_20_code 403 = .ok (.ifCond .eq (9), 3) := by decide +kernel
theorem d_Model_takeRequestLine_406 : decode prog_14_method_20_code 406 = .ok (.sipush (146), 3) := by decide +kernel
theorem d_Model_takeRequestLine_409 : decode prog_14_method_20_code 409 = .ok (.goto (23), 3) := by decide +kernel
theorem d_Model_takeRequestLine_412 : decode prog_14_method_20_code 412 = .ok (.aload_n 0, 1) := by decide +kernel
theorem d_Model_takeRequestLine_413 : decode prog_14_method_20_code 413 = .ok (.iconst 0, 1) := by decide +kernel
theorem d_Model_takeRequestLine_414 : decode prog_14_method_20_code 414 = .ok (.iload_n 1, 1) := by decide +kernel
theorem d_Model_takeRequestLine_415 : decode prog_14_method_20_code 415 = .ok (.sipush (154), 3) := by decide +kernel
theorem d_Model_takeRequestLine_418 : decode prog_14_method_20_code 418 = .ok (.invokevirtual 242, 3) := by decide +kernel
theorem d_Model_takeRequestLine_421 : decode prog_14_method_20_code 421 = .ok (.ifCond .eq (9), 3) := by decide +kernel
theorem d_Model_takeRequestLine_424 : decode prog_14_method_20_code 424 = .ok (.sipush (154), 3) := by decide +kernel
theorem d_Model_takeRequestLine_427 : decode prog_14_method_20_code 427 = .ok (.goto (5), 3) := by decide +kernel
theorem d_Model_takeRequestLine_430 : decode prog_14_method_20_code 430 = .ok (.iload 5, 2) := by decide +kernel
theorem d_Model_takeRequestLine_432 : decode prog_14_method_20_code 432 = .ok (.istore 5, 2) := by decide +kernel
theorem d_Model_takeRequestLine_434 : decode prog_14_method_20_code 434 = .ok (.aload_n 0, 1) := by decide +kernel
theorem d_Model_takeRequestLine_435 : decode prog_14_method_20_code 435 = .ok (.iload 5, 2) := by decide +kernel
theorem d_Model_takeRequestLine_437 : decode prog_14_method_20_code 437 = .ok (.ifCond .lt (7), 3) := by decide +kernel
theorem d_Model_takeRequestLine_440 : decode prog_14_method_20_code 440 = .ok (.iconst 1, 1) := by decide +kernel
theorem d_Model_takeRequestLine_441 : decode prog_14_method_20_code 441 = .ok (.goto (4), 3) := by decide +kernel
theorem d_Model_takeRequestLine_444 : decode prog_14_method_20_code 444 = .ok (.iconst 0, 1) := by decide +kernel
theorem d_Model_takeRequestLine_445 : decode prog_14_method_20_code 445 = .ok (.sipush (501), 3) := by decide +kernel
theorem d_Model_takeRequestLine_448 : decode prog_14_method_20_code 448 = .ok (.invokevirtual 194, 3) := by decide +kernel
theorem d_Model_takeRequestLine_451 : decode prog_14_method_20_code 451 = .ok (.iload_n 2, 1) := by decide +kernel
theorem d_Model_takeRequestLine_452 : decode prog_14_method_20_code 452 = .ok (.iload_n 1, 1) := by decide +kernel
theorem d_Model_takeRequestLine_453 : decode prog_14_method_20_code 453 = .ok (.isub, 1) := by decide +kernel
theorem d_Model_takeRequestLine_454 : decode prog_14_method_20_code 454 = .ok (.iconst 2, 1) := by decide +kernel
theorem d_Model_takeRequestLine_455 : decode prog_14_method_20_code 455 = .ok (.if_icmp .ne (28), 3) := by decide +kernel
theorem d_Model_takeRequestLine_458 : decode prog_14_method_20_code 458 = .ok (.aload_n 0, 1) := by decide +kernel
theorem d_Model_takeRequestLine_459 : decode prog_14_method_20_code 459 = .ok (.getfield 105, 3) := by decide +kernel
theorem d_Model_takeRequestLine_462 : decode prog_14_method_20_code 462 = .ok (.iload_n 1, 1) := by decide +kernel
theorem d_Model_takeRequestLine_463 : decode prog_14_method_20_code 463 = .ok (.iconst 1, 1) := by decide +kernel
theorem d_Model_takeRequestLine_464 : decode prog_14_method_20_code 464 = .ok (.iadd, 1) := by decide +kernel
theorem d_Model_takeRequestLine_465 : decode prog_14_method_20_code 465 = .ok (.iaload, 1) := by decide +kernel
theorem d_Model_takeRequestLine_466 : decode prog_14_method_20_code 466 = .ok (.bipush (42), 2) := by decide +kernel
theorem d_Model_takeRequestLine_468 : decode prog_14_method_20_code 468 = .ok (.if_icmp .ne (15), 3) := by decide +kernel
theorem d_Model_takeRequestLine_471 : decode prog_14_method_20_code 471 = .ok (.iload 5, 2) := by decide +kernel
theorem d_Model_takeRequestLine_473 : decode prog_14_method_20_code 473 = .ok (.sipush (146), 3) := by decide +kernel
theorem d_Model_takeRequestLine_476 : decode prog_14_method_20_code 476 = .ok (.if_icmp .ne (7), 3) := by decide +kernel
theorem d_Model_takeRequestLine_479 : decode prog_14_method_20_code 479 = .ok (.iconst 1, 1) := by decide +kernel
theorem d_Model_takeRequestLine_480 : decode prog_14_method_20_code 480 = .ok (.goto (4), 3) := by decide +kernel
theorem d_Model_takeRequestLine_483 : decode prog_14_method_20_code 483 = .ok (.iconst 0, 1) := by decide +kernel
theorem d_Model_takeRequestLine_484 : decode prog_14_method_20_code 484 = .ok (.istore 6, 2) := by decide +kernel
theorem d_Model_takeRequestLine_486 : decode prog_14_method_20_code 486 = .ok (.aload_n 0, 1) := by decide +kernel
theorem d_Model_takeRequestLine_487 : decode prog_14_method_20_code 487 = .ok (.iload 6, 2) := by decide +kernel
theorem d_Model_takeRequestLine_489 : decode prog_14_method_20_code 489 = .ok (.ifCond .ne (16), 3) := by decide +kernel
theorem d_Model_takeRequestLine_492 : decode prog_14_method_20_code 492 = .ok (.aload_n 0, 1) := by decide +kernel
theorem d_Model_takeRequestLine_493 : decode prog_14_method_20_code 493 = .ok (.getfield 105, 3) := by decide +kernel
theorem d_Model_takeRequestLine_496 : decode prog_14_method_20_code 496 = .ok (.iload_n 1, 1) := by decide +kernel
theorem d_Model_takeRequestLine_497 : decode prog_14_method_20_code 497 = .ok (.iconst 1, 1) := by decide +kernel
theorem d_Model_takeRequestLine_498 : decode prog_14_method_20_code 498 = .ok (.iadd, 1) := by decide +kernel
theorem d_Model_takeRequestLine_499 : decode prog_14_method_20_code 499 = .ok (.iaload, 1) := by decide +kernel
theorem d_Model_takeRequestLine_500 : decode prog_14_method_20_code 500 = .ok (.bipush (47), 2) := by decide +kernel
theorem d_Model_takeRequestLine_502 : decode prog_14_method_20_code 502 = .ok (.if_icmp .ne (7), 3) := by decide +kernel
theorem d_Model_takeRequestLine_505 : decode prog_14_method_20_code 505 = .ok (.iconst 1, 1) := by decide +kernel
theorem d_Model_takeRequestLine_506 : decode prog_14_method_20_code 506 = .ok (.goto (4), 3) := by decide +kernel
theorem d_Model_takeRequestLine_509 : decode prog_14_method_20_code 509 = .ok (.iconst 0, 1) := by decide +kernel
theorem d_Model_takeRequestLine_510 : decode prog_14_method_20_code 510 = .ok (.sipush (400), 3) := by decide +kernel
theorem d_Model_takeRequestLine_513 : decode prog_14_method_20_code 513 = .ok (.invokevirtual 194, 3) := by decide +kernel
theorem d_Model_takeRequestLine_516 : decode prog_14_method_20_code 516 = .ok (.aload_n 0, 1) := by decide +kernel
theorem d_Model_takeRequestLine_517 : decode prog_14_method_20_code 517 = .ok (.getfield 162, 3) := by decide +kernel
theorem d_Model_takeRequestLine_520 : decode prog_14_method_20_code 520 = .ok (.ifCond .le (4), 3) := by decide +kernel
theorem d_Model_takeRequestLine_523 : decode prog_14_method_20_code 523 = .ok (.return_, 1) := by decide +kernel
theorem d_Model_takeRequestLine_524 : decode prog_14_method_20_code 524 = .ok (.aload_n 0, 1) := by decide +kernel
theorem d_Model_takeRequestLine_525 : decode prog_14_method_20_code 525 = .ok (.iload 5, 2) := by decide +kernel
theorem d_Model_takeRequestLine_527 : decode prog_14_method_20_code 527 = .ok (.putfield 108, 3) := by decide +kernel
theorem d_Model_takeRequestLine_530 : decode prog_14_method_20_code 530 = .ok (.aload_n 0, 1) := by decide +kernel
theorem d_Model_takeRequestLine_531 : decode prog_14_method_20_code 531 = .ok (.aload_n 0, 1) := by decide +kernel
theorem d_Model_takeRequestLine_532 : decode prog_14_method_20_code 532 = .ok (.getfield 105, 3) := by decide +kernel
theorem d_Model_takeRequestLine_535 : decode prog_14_method_20_code 535 = .ok (.iload_n 2, 1) := by decide +kernel
theorem d_Model_takeRequestLine_536 : decode prog_14_method_20_code 536 = .ok (.bipush (8), 2) := by decide +kernel
theorem d_Model_takeRequestLine_538 : decode prog_14_method_20_code 538 = .ok (.iadd, 1) := by decide +kernel
theorem d_Model_takeRequestLine_539 : decode prog_14_method_20_code 539 = .ok (.iaload, 1) := by decide +kernel
theorem d_Model_takeRequestLine_540 : decode prog_14_method_20_code 540 = .ok (.bipush (48), 2) := by decide +kernel
theorem d_Model_takeRequestLine_542 : decode prog_14_method_20_code 542 = .ok (.isub, 1) := by decide +kernel
theorem d_Model_takeRequestLine_543 : decode prog_14_method_20_code 543 = .ok (.putfield 115, 3) := by decide +kernel
theorem d_Model_takeRequestLine_546 : decode prog_14_method_20_code 546 = .ok (.aload_n 0, 1) := by decide +kernel
theorem d_Model_takeRequestLine_547 : decode prog_14_method_20_code 547 = .ok (.iload_n 2, 1) := by decide +kernel
theorem d_Model_takeRequestLine_548 : decode prog_14_method_20_code 548 = .ok (.iload_n 1, 1) := by decide +kernel
theorem d_Model_takeRequestLine_549 : decode prog_14_method_20_code 549 = .ok (.isub, 1) := by decide +kernel
theorem d_Model_takeRequestLine_550 : decode prog_14_method_20_code 550 = .ok (.iconst 1, 1) := by decide +kernel
theorem d_Model_takeRequestLine_551 : decode prog_14_method_20_code 551 = .ok (.isub, 1) := by decide +kernel
theorem d_Model_takeRequestLine_552 : decode prog_14_method_20_code 552 = .ok (.putfield 245, 3) := by decide +kernel
theorem d_Model_takeRequestLine_555 : decode prog_14_method_20_code 555 = .ok (.iconst 0, 1) := by decide +kernel
theorem d_Model_takeRequestLine_556 : decode prog_14_method_20_code 556 = .ok (.istore 7, 2) := by decide +kernel
theorem d_Model_takeRequestLine_558 : decode prog_14_method_20_code 558 = .ok (.iload 7, 2) := by decide +kernel
theorem d_Model_takeRequestLine_560 : decode prog_14_method_20_code 560 = .ok (.aload_n 0, 1) := by decide +kernel
theorem d_Model_takeRequestLine_561 : decode prog_14_method_20_code 561 = .ok (.getfield 245, 3) := by decide +kernel
theorem d_Model_takeRequestLine_564 : decode prog_14_method_20_code 564 = .ok (.if_icmp .ge (27), 3) := by decide +kernel
theorem d_Model_takeRequestLine_567 : decode prog_14_method_20_code 567 = .ok (.aload_n 0, 1) := by decide +kernel
theorem d_Model_takeRequestLine_568 : decode prog_14_method_20_code 568 = .ok (.getfield 112, 3) := by decide +kernel
theorem d_Model_takeRequestLine_571 : decode prog_14_method_20_code 571 = .ok (.iload 7, 2) := by decide +kernel
theorem d_Model_takeRequestLine_573 : decode prog_14_method_20_code 573 = .ok (.aload_n 0, 1) := by decide +kernel
theorem d_Model_takeRequestLine_574 : decode prog_14_method_20_code 574 = .ok (.getfield 105, 3) := by decide +kernel
theorem d_Model_takeRequestLine_577 : decode prog_14_method_20_code 577 = .ok (.iload_n 1, 1) := by decide +kernel
theorem d_Model_takeRequestLine_578 : decode prog_14_method_20_code 578 = .ok (.iconst 1, 1) := by decide +kernel
theorem d_Model_takeRequestLine_579 : decode prog_14_method_20_code 579 = .ok (.iadd, 1) := by decide +kernel
theorem d_Model_takeRequestLine_580 : decode prog_14_method_20_code 580 = .ok (.iload 7, 2) := by decide +kernel
theorem d_Model_takeRequestLine_582 : decode prog_14_method_20_code 582 = .ok (.iadd, 1) := by decide +kernel
theorem d_Model_takeRequestLine_583 : decode prog_14_method_20_code 583 = .ok (.iaload, 1) := by decide +kernel
theorem d_Model_takeRequestLine_584 : decode prog_14_method_20_code 584 = .ok (.iastore, 1) := by decide +kernel
theorem d_Model_takeRequestLine_585 : decode prog_14_method_20_code 585 = .ok (.iinc 7 (1), 3) := by decide +kernel
theorem d_Model_takeRequestLine_588 : decode prog_14_method_20_code 588 = .ok (.goto (-30), 3) := by decide +kernel
theorem d_Model_takeRequestLine_591 : decode prog_14_method_20_code 591 = .ok (.aload_n 0, 1) := by decide +kernel
theorem d_Model_takeRequestLine_592 : decode prog_14_method_20_code 592 = .ok (.iconst 1, 1) := by decide +kernel
theorem d_Model_takeRequestLine_593 : decode prog_14_method_20_code 593 = .ok (.putfield 179, 3) := by decide +kernel
theorem d_Model_takeRequestLine_596 : decode prog_14_method_20_code 596 = .ok (.return_, 1) := by decide +kernel
def x_Model_takeRequestLine_558 : Nat → Int32 → Int32 → St → Option St
  | 0, _, _, _ => none
  | n + 1, l1, l7, σ => (if (σ.1 51 13) ≤ l7 then (x_let (x_updR σ 51 8 (1 : Int32)) (fun (s593 : St) => some s593)) else (if x_in ((l1 + (1 : Int32)) + l7) 80 then (if x_in l7 80 then (x_let (x_updM σ 58 l7.toNatClampNeg (σ.2.1 57 ((l1 + (1 : Int32)) + l7).toNatClampNeg)) (fun (s584 : St) => (x_let (l7 + (1 : Int32)) (fun (v585 : Int32) => x_Model_takeRequestLine_558 n l1 v585 s584)))) else none) else none))
def x_Model_takeRequestLine_510 (l1 : Int32) (l2 : Int32) (l5 : Int32) (k0 : Int32) (σ : St) : Option St := (Option.bind (x_Model_blame k0 (400 : Int32) σ) (fun s513 => (if (s513.1 51 25) ≤ 0 then (x_let (x_updR s513 51 12 l5) (fun (s527 : St) => (if x_in (l2 + (8 : Int32)) 80 then (x_let (x_updR s527 51 15 ((s527.2.1 57 (l2 + (8 : Int32)).toNatClampNeg) - (48 : Int32))) (fun (s543 : St) => (x_let (x_updR s543 51 13 ((l2 - l1) - (1 : Int32))) (fun (s552 : St) => x_Model_takeRequestLine_558 x_fuel l1 (0 : Int32) s552)))) else none))) else some s513)))
def x_Model_takeRequestLine_505 (l1 : Int32) (l2 : Int32) (l5 : Int32) (σ : St) : Option St := x_Model_takeRequestLine_510 l1 l2 l5 (1 : Int32) σ
def x_Model_takeRequestLine_484 (l1 : Int32) (l2 : Int32) (l5 : Int32) (k0 : Int32) (σ : St) : Option St := (if k0 = 0 then (if x_in (l1 + (1 : Int32)) 80 then (if (σ.2.1 57 (l1 + (1 : Int32)).toNatClampNeg) = (47 : Int32) then x_Model_takeRequestLine_505 l1 l2 l5 σ else x_Model_takeRequestLine_510 l1 l2 l5 (0 : Int32) σ) else none) else x_Model_takeRequestLine_505 l1 l2 l5 σ)
def x_Model_takeRequestLine_483 (l1 : Int32) (l2 : Int32) (l5 : Int32) (σ : St) : Option St := x_Model_takeRequestLine_484 l1 l2 l5 (0 : Int32) σ
def x_Model_takeRequestLine_445 (l1 : Int32) (l2 : Int32) (l5 : Int32) (k0 : Int32) (σ : St) : Option St := (Option.bind (x_Model_blame k0 (501 : Int32) σ) (fun s448 => (if (l2 - l1) = (2 : Int32) then (if x_in (l1 + (1 : Int32)) 80 then (if (s448.2.1 57 (l1 + (1 : Int32)).toNatClampNeg) = (42 : Int32) then (if l5 = (146 : Int32) then x_Model_takeRequestLine_484 l1 l2 l5 (1 : Int32) s448 else x_Model_takeRequestLine_483 l1 l2 l5 s448) else x_Model_takeRequestLine_483 l1 l2 l5 s448) else none) else x_Model_takeRequestLine_483 l1 l2 l5 s448)))
def x_Model_takeRequestLine_432 (l1 : Int32) (l2 : Int32) (k0 : Int32) (σ : St) : Option St := (if k0 < 0 then x_Model_takeRequestLine_445 l1 l2 k0 (0 : Int32) σ else x_Model_takeRequestLine_445 l1 l2 k0 (1 : Int32) σ)
def x_Model_takeRequestLine_374 (l1 : Int32) (l2 : Int32) (k0 : Int32) (σ : St) : Option St := (Option.bind (x_Model_isExactly (0 : Int32) l1 (139 : Int32) σ) (fun r382 => (if r382 = 0 then (Option.bind (x_Model_isExactly (0 : Int32) l1 (146 : Int32) σ) (fun r400 => (if r400 = 0 then (Option.bind (x_Model_isExactly (0 : Int32) l1 (154 : Int32) σ) (fun r418 => (if r418 = 0 then x_Model_takeRequestLine_432 l1 l2 k0 σ else x_Model_takeRequestLine_432 l1 l2 (154 : Int32) σ))) else x_Model_takeRequestLine_432 l1 l2 (146 : Int32) σ))) else x_Model_takeRequestLine_432 l1 l2 (139 : Int32) σ)))
def x_Model_takeRequestLine_299 (l1 : Int32) (l2 : Int32) (k0 : Int32) (σ : St) : Option St := (Option.bind (x_Model_blame k0 (505 : Int32) σ) (fun s302 => (Option.bind (x_Model_isExactly (0 : Int32) l1 (121 : Int32) s302) (fun r310 => (if r310 = 0 then (Option.bind (x_Model_isExactly (0 : Int32) l1 (125 : Int32) s302) (fun r326 => (if r326 = 0 then (Option.bind (x_Model_isExactly (0 : Int32) l1 (130 : Int32) s302) (fun r343 => (if r343 = 0 then (Option.bind (x_Model_isExactly (0 : Int32) l1 (134 : Int32) s302) (fun r361 => (if r361 = 0 then x_Model_takeRequestLine_374 l1 l2 ((-1) : Int32) s302 else x_Model_takeRequestLine_374 l1 l2 (134 : Int32) s302))) else x_Model_takeRequestLine_374 l1 l2 (130 : Int32) s302))) else x_Model_takeRequestLine_374 l1 l2 (125 : Int32) s302))) else x_Model_takeRequestLine_374 l1 l2 (121 : Int32) s302)))))
def x_Model_takeRequestLine_265 (l1 : Int32) (l2 : Int32) (k0 : Int32) (σ : St) : Option St := (Option.bind (x_Model_blame k0 (400 : Int32) σ) (fun s268 => (if (s268.1 51 25) ≤ 0 then (if x_in (l2 + (6 : Int32)) 80 then (if (s268.2.1 57 (l2 + (6 : Int32)).toNatClampNeg) = (49 : Int32) then x_Model_takeRequestLine_299 l1 l2 (1 : Int32) s268 else x_Model_takeRequestLine_299 l1 l2 (0 : Int32) s268) else none) else some s268)))
def x_Model_takeRequestLine_264 (l1 : Int32) (l2 : Int32) (σ : St) : Option St := x_Model_takeRequestLine_265 l1 l2 (0 : Int32) σ
def x_Model_takeRequestLine_229 (l1 : Int32) (l2 : Int32) (l4 : Int32) (σ : St) : Option St := (Option.bind (x_Model_isToken l1 σ) (fun r232 => (if r232 = 0 then x_Model_takeRequestLine_264 l1 l2 σ else (if (8 : Int32) ≤ l1 then x_Model_takeRequestLine_264 l1 l2 σ else (if l4 = 0 then x_Model_takeRequestLine_264 l1 l2 σ else (Option.bind (x_Model_isTarget (l1 + (1 : Int32)) l2 σ) (fun r254 => (if r254 = 0 then x_Model_takeRequestLine_264 l1 l2 σ else x_Model_takeRequestLine_265 l1 l2 (1 : Int32) σ))))))))
def x_Model_takeRequestLine_221 (bk181 : Int32 → Int32 → Int32 → Int32 → St → Option St) (l1 : Int32) (l2 : Int32) (l5 : Int32) (k0 : Int32) (σ : St) : Option St := (x_let (l5 + (1 : Int32)) (fun (v223 : Int32) => bk181 l1 l2 k0 v223 σ))
def x_Model_takeRequestLine_181 : Nat → Int32 → Int32 → Int32 → Int32 → St → Option St
  | 0, _, _, _, _, _ => none
  | n + 1, l1, l2, l4, l5, σ => (if (5 : Int32) ≤ l5 then x_Model_takeRequestLine_229 l1 l2 l4 σ else (if l4 = 0 then x_Model_takeRequestLine_229 l1 l2 l4 σ else (if x_in ((l2 + (1 : Int32)) + l5) 80 then (Option.bind (x_Model_letter ((160 : Int32) + l5) σ) (fun r210 => (if (σ.2.1 57 ((l2 + (1 : Int32)) + l5).toNatClampNeg) = r210 then x_Model_takeRequestLine_221 (x_Model_takeRequestLine_181 n) l1 l2 l5 (1 : Int32) σ else x_Model_takeRequestLine_221 (x_Model_takeRequestLine_181 n) l1 l2 l5 (0 : Int32) σ))) else none)))
def x_Model_takeRequestLine_176 (l1 : Int32) (l2 : Int32) (k0 : Int32) (σ : St) : Option St := x_Model_takeRequestLine_181 x_fuel l1 l2 k0 (0 : Int32) σ
def x_Model_takeRequestLine_175 (l1 : Int32) (l2 : Int32) (σ : St) : Option St := x_Model_takeRequestLine_176 l1 l2 (0 : Int32) σ
def x_Model_takeRequestLine_102 (l1 : Int32) (l2 : Int32) (k0 : Int32) (σ : St) : Option St := (Option.bind (x_Model_blame k0 (400 : Int32) σ) (fun s105 => (if (s105.1 51 25) ≤ 0 then (if ((s105.1 51 10) - l2) = (9 : Int32) then (if x_in (l2 + (6 : Int32)) 80 then (Option.bind (x_Model_isDigit (s105.2.1 57 (l2 + (6 : Int32)).toNatClampNeg)) (fun r136 => (if r136 = 0 then x_Model_takeRequestLine_175 l1 l2 s105 else (if x_in (l2 + (7 : Int32)) 80 then (if (s105.2.1 57 (l2 + (7 : Int32)).toNatClampNeg) = (46 : Int32) then (if x_in (l2 + (8 : Int32)) 80 then (Option.bind (x_Model_isDigit (s105.2.1 57 (l2 + (8 : Int32)).toNatClampNeg)) (fun r165 => (if r165 = 0 then x_Model_takeRequestLine_175 l1 l2 s105 else x_Model_takeRequestLine_176 l1 l2 (1 : Int32) s105))) else none) else x_Model_takeRequestLine_175 l1 l2 s105) else none)))) else none) else x_Model_takeRequestLine_175 l1 l2 s105) else some s105)))
def x_Model_takeRequestLine_101 (l1 : Int32) (l2 : Int32) (σ : St) : Option St := x_Model_takeRequestLine_102 l1 l2 (0 : Int32) σ
def x_Model_takeRequestLine_79 (l1 : Int32) (l2 : Int32) (k0 : Int32) (σ : St) : Option St := (if (σ.1 51 10) ≤ l2 then x_Model_takeRequestLine_101 l1 l2 σ else (if k0 = (σ.1 51 10) then x_Model_takeRequestLine_102 l1 l2 (1 : Int32) σ else x_Model_takeRequestLine_101 l1 l2 σ))
def x_Model_takeRequestLine_57 (l1 : Int32) (k0 : Int32) (σ : St) : Option St := (if (σ.1 51 10) ≤ k0 then x_Model_takeRequestLine_79 l1 k0 (0 : Int32) σ else (Option.bind (x_Model_find (32 : Int32) (k0 + (1 : Int32)) σ) (fun r72 => x_Model_takeRequestLine_79 l1 k0 r72 σ)))
def x_Model_takeRequestLine (σ : St) : Option St := (x_let (x_updR σ 51 17 (0 : Int32)) (fun (s2 : St) => (x_let (x_updR s2 51 16 (0 : Int32)) (fun (s7 : St) => (x_let (x_updR s7 51 21 (0 : Int32)) (fun (s12 : St) => (x_let (x_updR s12 51 22 (0 : Int32)) (fun (s17 : St) => (x_let (x_updR s17 51 15 (1 : Int32)) (fun (s22 : St) => (Option.bind (x_Model_find (32 : Int32) (0 : Int32) s22) (fun r29 => (if (s22.1 51 10) ≤ r29 then x_Model_takeRequestLine_57 r29 (s22.1 51 10) s22 else (Option.bind (x_Model_find (32 : Int32) (r29 + (1 : Int32)) s22) (fun r47 => x_Model_takeRequestLine_57 r29 r47 s22)))))))))))))))
abbrev rm_Model_takeRequestLine : Room := { frames := 4, cells := 0, slots := 0, locals := 88 }
set_option maxHeartbeats 4000000 in
set_option maxRecDepth 100000 in
theorem t_Model_takeRequestLine (l : Launch) (G : xG) (σ : St) (σ' : St) (hE : x_Model_takeRequestLine σ = some σ') : Met l y_Model_takeRequestLine (ws_Model_takeRequestLine) rm_Model_takeRequestLine (xP G σ [.ref (G.2.1 51)]) (xQ G none σ') 0 0 (xA G) := by
  refine Met.ofW (cc := prog_14_method_20_code) (maxL := 8) (ret := none) (by decide) rfl ?_
  intro p e s m args below meth c s₁ B hml hv
  obtain ⟨rfl, hw, hC⟩ := hv
  have hx := B.exec
  have hb := B.bytes
  have hr := B.returns
  have hu : ∀ w ∈ UW, w.before _ s = true := fun w h => atoms_spec B.pre w (List.mem_cons_of_mem _ h)
  have hown : s.vm.findClass R_Model = some m.cls := findClass_of_methodNamed B.named
  have hlocks := B.notSynchronized
  have hK := hC.1
  have hI := hC.2.1
  have hG := hC.2.2.1
  have hN := hC.2.2.2
  have hS : va_S (xA G) s.heap s.heap [] := va_S.rf
  have jn558 : ∀ (n : Nat) (ls : Array Slot) (H : Heap) (locs : List Loc) (σ : St) (l1 : Int32) (l7 : Int32), x_Model_takeRequestLine_558 n l1 l7 σ = some σ' → lv_has ls 8 [(0, .ref (G.2.1 51)), (1, .int l1), (7, .int l7)] → xw G σ H → va_S (xA G) s.heap H locs → W p l e (headSpec (ws_Model_takeRequestLine) rm_Model_takeRequestLine).room s m ([.ref (G.2.1 51)] : List Value).toArray below meth c H locs 0 0 (MQ below (xQ G none σ') ([.ref (G.2.1 51)] : List Value).toArray s 0 0 (xA G)) (F0 m 558 ls []) := by
    intro n
    induction n with
    | zero => intro ls H locs σ l1 l7 hE; rw [x_Model_takeRequestLine_558] at hE; cases hE
    | succ n ih =>
      intro ls H locs σ l1 l7 hE hl hw hS
      rw [x_Model_takeRequestLine_558] at hE
      refine lv_iload hx hb d_Model_takeRequestLine_558 (lv_at hl 2 rfl) ?_
      refine lv_aload_n hx hb d_Model_takeRequestLine_560 rfl (lv_at hl 0 rfl) ?_
      refine va_get (D := G.1) (cl := xCl) (ci := 10) (v := .int (σ.1 51 13)) (C := R_Model) (T := T_Model) (N := 33) hx hb hu fi_Model hown hK hw 51 (x_at (by decide) (xcl_51 G σ)) rfl 13 (by decide) (hu _ mw_1081) (fun _ h9 => h9) rfl d_Model_takeRequestLine_561 ?_
      refine lv_icmp_ge (tgt := 591) hx hb d_Model_takeRequestLine_564 (by decide) (fun hc564 => ?_) (fun hc564 => ?_)
      · rw [if_pos hc564] at hE
        refine lv_aload_n hx hb d_Model_takeRequestLine_591 rfl (lv_at hl 0 rfl) ?_
        refine lv_iconst (v := (1 : Int32)) hx hb d_Model_takeRequestLine_592 (by decide) ?_
        refine va_put (D := G.1) (cl := xCl) (ci := 10) (v := .int (1 : Int32)) (ty := .int) (C := R_Model) (T := T_Model) (N := 33) hx hb hu fi_Model ty_Model tyok_Model nm_Model hown hK hw (x_D hI _) hS 51 (x_at (by decide) (xcl_51 G σ)) rfl 8 (by decide) (hu _ mw_1076) (fun _ h9 => h9) rfl (tyok_Model 8 (by decide)) rfl rfl (Nat.le_of_ble_eq_true rfl) d_Model_takeRequestLine_593 (fun H locs hw _ hS => ?_)
        replace hw := x_setR hw (by decide) rfl
        obtain ⟨s593, e593, hE⟩ := x_letE hE
        rw [← e593] at hw
        have e1 := Option.some.inj hE
        exact W.vret hx hb hr (fun t ht hW => ⟨rfl, by rw [ht, ← e1]; exact hw, hS.F ht⟩) hS.2.2 d_Model_takeRequestLine_596
      · rw [if_neg hc564] at hE
        refine lv_aload_n hx hb d_Model_takeRequestLine_567 rfl (lv_at hl 0 rfl) ?_
        refine va_get (D := G.1) (cl := xCl) (ci := 10) (v := .ref (G.2.1 58)) (C := R_Model) (T := T_Model) (N := 33) hx hb hu fi_Model hown hK hw 51 (x_at (by decide) (xcl_51 G σ)) rfl 14 (by decide) (hu _ mw_1082) (fun _ h9 => h9) rfl d_Model_takeRequestLine_568 ?_
        refine lv_iload hx hb d_Model_takeRequestLine_571 (lv_at hl 2 rfl) ?_
        refine lv_aload_n hx hb d_Model_takeRequestLine_573 rfl (lv_at hl 0 rfl) ?_
        refine va_get (D := G.1) (cl := xCl) (ci := 10) (v := .ref (G.2.1 57)) (C := R_Model) (T := T_Model) (N := 33) hx hb hu fi_Model hown hK hw 51 (x_at (by decide) (xcl_51 G σ)) rfl 11 (by decide) (hu _ mw_1079) (fun _ h9 => h9) rfl d_Model_takeRequestLine_574 ?_
        refine lv_iload_n hx hb d_Model_takeRequestLine_577 rfl (lv_at hl 1 rfl) ?_
        refine lv_iconst (v := (1 : Int32)) hx hb d_Model_takeRequestLine_578 (by decide) ?_
        refine lv_iadd hx hb d_Model_takeRequestLine_579 ?_
        refine lv_iload hx hb d_Model_takeRequestLine_580 (lv_at hl 2 rfl) ?_
        refine lv_iadd hx hb d_Model_takeRequestLine_582 ?_
        obtain ⟨g583, hE⟩ := x_guard hE
        refine va_iald hx hb hK hw 57 0 (x_at (by decide) (xcl_57 G σ)) rfl g583 d_Model_takeRequestLine_583 ?_
        obtain ⟨g584, hE⟩ := x_guard hE
        refine va_iast hx hb hK hw (x_D hI _) hS 58 0 (x_at (by decide) (xcl_58 G σ)) rfl g584 d_Model_takeRequestLine_584 (fun H locs hw _ hS => ?_)
        replace hw := x_setM hw (by decide) (by decide)
        obtain ⟨s584, e584, hE⟩ := x_letE hE
        rw [← e584] at hw
        obtain ⟨v585, e585, hE⟩ := x_letE hE
        refine lv_iinc hx hb d_Model_takeRequestLine_585 hl (k := 2) rfl (x_inc v585 e585 (by decide)) (by decide) rfl (fun ls hl => ?_)
        have hl : lv_has ls 8 [(7, .int v585), (0, .ref (G.2.1 51)), (1, .int l1)] := hl
        refine lv_goto (tgt := 558) hx hb d_Model_takeRequestLine_588 (by decide) ?_
        exact ih _ _ _ _ _ _ hE (lv_sub hl [1, 2, 0] rfl) hw hS
  have jn510 : ∀ (ls : Array Slot) (H : Heap) (locs : List Loc) (σ : St) (l1 : Int32) (l2 : Int32) (l5 : Int32) (k0 : Int32), x_Model_takeRequestLine_510 l1 l2 l5 k0 σ = some σ' → lv_has ls 8 [(0, .ref (G.2.1 51)), (1, .int l1), (2, .int l2), (5, .int l5)] → xw G σ H → va_S (xA G) s.heap H locs → W p l e (headSpec (ws_Model_takeRequestLine) rm_Model_takeRequestLine).room s m ([.ref (G.2.1 51)] : List Value).toArray below meth c H locs 0 0 (MQ below (xQ G none σ') ([.ref (G.2.1 51)] : List Value).toArray s 0 0 (xA G)) (F0 m 510 ls [.int k0, .ref (G.2.1 51)]) := by
    intro ls H locs σ l1 l2 l5 k0 hE hl hw hS
    unfold x_Model_takeRequestLine_510 at hE
    refine lv_sipush (v := (400 : Int32)) hx hb d_Model_takeRequestLine_510 (by decide) ?_
    obtain ⟨s513, hC513, hE⟩ := x_bind hE
    refine x_callV hS (W.runV (As := [.int k0, .int (400 : Int32)]) (rest := []) ⟨hx, hb, hml, hown, hu⟩ (t_Model_blame l G σ k0 (400 : Int32) s513 hC513) (cwV 2 hu (uw_V mw_1279 mw_1281 mw_45 mw_70 mw_1282) rfl rfl rfl hd_Model_blame ⟨Nat.le_of_ble_eq_true rfl, Nat.le_of_ble_eq_true rfl⟩) (x_preV hC hS hw (va_recv hK hw (q := (R_Model, T_Model, 33)) (ci := 10) rfl (x_at (by decide) (xcl_51 G σ)))) rfl rfl hl.1 rfl (lv_room (Nat.le_of_ble_eq_true rfl)) d_Model_takeRequestLine_513 ⟨Nat.le_of_ble_eq_true rfl, Nat.le_of_ble_eq_true rfl⟩) (fun H locs hw hS => ?_)
    refine lv_aload_n hx hb d_Model_takeRequestLine_516 rfl (lv_at hl 0 rfl) ?_
    refine va_get (D := G.1) (cl := xCl) (ci := 10) (v := .int (s513.1 51 25)) (C := R_Model) (T := T_Model) (N := 33) hx hb hu fi_Model hown hK hw 51 (x_at (by decide) (xcl_51 G s513)) rfl 25 (by decide) (hu _ mw_1093) (fun _ h9 => h9) rfl d_Model_takeRequestLine_517 ?_
    refine lv_if_le (tgt := 524) hx hb d_Model_takeRequestLine_520 (by decide) (fun hc520 => ?_) (fun hc520 => ?_)
    · rw [if_pos hc520] at hE
      refine lv_aload_n hx hb d_Model_takeRequestLine_524 rfl (lv_at hl 0 rfl) ?_
      refine lv_iload hx hb d_Model_takeRequestLine_525 (lv_at hl 3 rfl) ?_
      refine va_put (D := G.1) (cl := xCl) (ci := 10) (v := .int l5) (ty := .int) (C := R_Model) (T := T_Model) (N := 33) hx hb hu fi_Model ty_Model tyok_Model nm_Model hown hK hw (x_D hI _) hS 51 (x_at (by decide) (xcl_51 G s513)) rfl 12 (by decide) (hu _ mw_1080) (fun _ h9 => h9) rfl (tyok_Model 12 (by decide)) rfl rfl (Nat.le_of_ble_eq_true rfl) d_Model_takeRequestLine_527 (fun H locs hw _ hS => ?_)
      replace hw := x_setR hw (by decide) rfl
      obtain ⟨s527, e527, hE⟩ := x_letE hE
      rw [← e527] at hw
      refine lv_aload_n hx hb d_Model_takeRequestLine_530 rfl (lv_at hl 0 rfl) ?_
      refine lv_aload_n hx hb d_Model_takeRequestLine_531 rfl (lv_at hl 0 rfl) ?_
      refine va_get (D := G.1) (cl := xCl) (ci := 10) (v := .ref (G.2.1 57)) (C := R_Model) (T := T_Model) (N := 33) hx hb hu fi_Model hown hK hw 51 (x_at (by decide) (xcl_51 G s527)) rfl 11 (by decide) (hu _ mw_1079) (fun _ h9 => h9) rfl d_Model_takeRequestLine_532 ?_
      refine lv_iload_n hx hb d_Model_takeRequestLine_535 rfl (lv_at hl 2 rfl) ?_
      refine lv_bipush (v := (8 : Int32)) hx hb d_Model_takeRequestLine_536 (by decide) ?_
      refine lv_iadd hx hb d_Model_takeRequestLine_538 ?_
      obtain ⟨g539, hE⟩ := x_guard hE
      refine va_iald hx hb hK hw 57 0 (x_at (by decide) (xcl_57 G s527)) rfl g539 d_Model_takeRequestLine_539 ?_
      refine lv_bipush (v := (48 : Int32)) hx hb d_Model_takeRequestLine_540 (by decide) ?_
      refine lv_isub hx hb d_Model_takeRequestLine_542 ?_
      refine va_put (D := G.1) (cl := xCl) (ci := 10) (v := .int ((s527.2.1 57 (l2 + (8 : Int32)).toNatClampNeg) - (48 : Int32))) (ty := .int) (C := R_Model) (T := T_Model) (N := 33) hx hb hu fi_Model ty_Model tyok_Model nm_Model hown hK hw (x_D hI _) hS 51 (x_at (by decide) (xcl_51 G s527)) rfl 15 (by decide) (hu _ mw_1083) (fun _ h9 => h9) rfl (tyok_Model 15 (by decide)) rfl rfl (Nat.le_of_ble_eq_true rfl) d_Model_takeRequestLine_543 (fun H locs hw _ hS => ?_)
      replace hw := x_setR hw (by decide) rfl
      obtain ⟨s543, e543, hE⟩ := x_letE hE
      rw [← e543] at hw
      refine lv_aload_n hx hb d_Model_takeRequestLine_546 rfl (lv_at hl 0 rfl) ?_
      refine lv_iload_n hx hb d_Model_takeRequestLine_547 rfl (lv_at hl 2 rfl) ?_
      refine lv_iload_n hx hb d_Model_takeRequestLine_548 rfl (lv_at hl 1 rfl) ?_
      refine lv_isub hx hb d_Model_takeRequestLine_549 ?_
      refine lv_iconst (v := (1 : Int32)) hx hb d_Model_takeRequestLine_550 (by decide) ?_
      refine lv_isub hx hb d_Model_takeRequestLine_551 ?_
      refine va_put (D := G.1) (cl := xCl) (ci := 10) (v := .int ((l2 - l1) - (1 : Int32))) (ty := .int) (C := R_Model) (T := T_Model) (N := 33) hx hb hu fi_Model ty_Model tyok_Model nm_Model hown hK hw (x_D hI _) hS 51 (x_at (by decide) (xcl_51 G s543)) rfl 13 (by decide) (hu _ mw_1081) (fun _ h9 => h9) rfl (tyok_Model 13 (by decide)) rfl rfl (Nat.le_of_ble_eq_true rfl) d_Model_takeRequestLine_552 (fun H locs hw _ hS => ?_)
      replace hw := x_setR hw (by decide) rfl
      obtain ⟨s552, e552, hE⟩ := x_letE hE
      rw [← e552] at hw
      refine lv_iconst (v := (0 : Int32)) hx hb d_Model_takeRequestLine_555 (by decide) ?_
      refine lv_istore hx hb d_Model_takeRequestLine_556 hl (by decide) rfl (fun ls hl => ?_)
      have hl : lv_has ls 8 [(7, .int (0 : Int32)), (0, .ref (G.2.1 51)), (1, .int l1), (2, .int l2), (5, .int l5)] := hl
      exact jn558 x_fuel _ _ _ _ _ _ hE (lv_sub hl [1, 2, 0] rfl) hw hS
    · rw [if_neg hc520] at hE
      have e1 := Option.some.inj hE
      exact W.vret hx hb hr (fun t ht hW => ⟨rfl, by rw [ht, ← e1]; exact hw, hS.F ht⟩) hS.2.2 d_Model_takeRequestLine_523
  have jn505 : ∀ (ls : Array Slot) (H : Heap) (locs : List Loc) (σ : St) (l1 : Int32) (l2 : Int32) (l5 : Int32), x_Model_takeRequestLine_505 l1 l2 l5 σ = some σ' → lv_has ls 8 [(0, .ref (G.2.1 51)), (1, .int l1), (2, .int l2), (5, .int l5)] → xw G σ H → va_S (xA G) s.heap H locs → W p l e (headSpec (ws_Model_takeRequestLine) rm_Model_takeRequestLine).room s m ([.ref (G.2.1 51)] : List Value).toArray below meth c H locs 0 0 (MQ below (xQ G none σ') ([.ref (G.2.1 51)] : List Value).toArray s 0 0 (xA G)) (F0 m 505 ls [.ref (G.2.1 51)]) := by
    intro ls H locs σ l1 l2 l5 hE hl hw hS
    unfold x_Model_takeRequestLine_505 at hE
    refine lv_iconst (v := (1 : Int32)) hx hb d_Model_takeRequestLine_505 (by decide) ?_
    refine lv_goto (tgt := 510) hx hb d_Model_takeRequestLine_506 (by decide) ?_
    exact jn510 _ _ _ _ _ _ _ _ hE (lv_sub hl [0, 1, 2, 3] rfl) hw hS
  have jn484 : ∀ (ls : Array Slot) (H : Heap) (locs : List Loc) (σ : St) (l1 : Int32) (l2 : Int32) (l5 : Int32) (k0 : Int32), x_Model_takeRequestLine_484 l1 l2 l5 k0 σ = some σ' → lv_has ls 8 [(0, .ref (G.2.1 51)), (1, .int l1), (2, .int l2), (5, .int l5)] → xw G σ H → va_S (xA G) s.heap H locs → W p l e (headSpec (ws_Model_takeRequestLine) rm_Model_takeRequestLine).room s m ([.ref (G.2.1 51)] : List Value).toArray below meth c H locs 0 0 (MQ below (xQ G none σ') ([.ref (G.2.1 51)] : List Value).toArray s 0 0 (xA G)) (F0 m 484 ls [.int k0]) := by
    intro ls H locs σ l1 l2 l5 k0 hE hl hw hS
    unfold x_Model_takeRequestLine_484 at hE
    refine lv_istore hx hb d_Model_takeRequestLine_484 hl (by decide) rfl (fun ls hl => ?_)
    have hl : lv_has ls 8 [(6, .int k0), (0, .ref (G.2.1 51)), (1, .int l1), (2, .int l2), (5, .int l5)] := hl
    refine lv_aload_n hx hb d_Model_takeRequestLine_486 rfl (lv_at hl 1 rfl) ?_
    refine lv_iload hx hb d_Model_takeRequestLine_487 (lv_at hl 0 rfl) ?_
    refine lv_if_ne (tgt := 505) hx hb d_Model_takeRequestLine_489 (by decide) (fun hc489 => ?_) (fun hc489 => ?_)
    · rw [if_neg hc489] at hE
      exact jn505 _ _ _ _ _ _ _ hE (lv_sub hl [1, 2, 3, 4] rfl) hw hS
    · rw [if_pos hc489] at hE
      refine lv_aload_n hx hb d_Model_takeRequestLine_492 rfl (lv_at hl 1 rfl) ?_
      refine va_get (D := G.1) (cl := xCl) (ci := 10) (v := .ref (G.2.1 57)) (C := R_Model) (T := T_Model) (N := 33) hx hb hu fi_Model hown hK hw 51 (x_at (by decide) (xcl_51 G σ)) rfl 11 (by decide) (hu _ mw_1079) (fun _ h9 => h9) rfl d_Model_takeRequestLine_493 ?_
      refine lv_iload_n hx hb d_Model_takeRequestLine_496 rfl (lv_at hl 2 rfl) ?_
      refine lv_iconst (v := (1 : Int32)) hx hb d_Model_takeRequestLine_497 (by decide) ?_
      refine lv_iadd hx hb d_Model_takeRequestLine_498 ?_
      obtain ⟨g499, hE⟩ := x_guard hE
      refine va_iald hx hb hK hw 57 0 (x_at (by decide) (xcl_57 G σ)) rfl g499 d_Model_takeRequestLine_499 ?_
      refine lv_bipush (v := (47 : Int32)) hx hb d_Model_takeRequestLine_500 (by decide) ?_
      refine lv_icmp_ne (tgt := 509) hx hb d_Model_takeRequestLine_502 (by decide) (fun hc502 => ?_) (fun hc502 => ?_)
      · rw [if_neg hc502] at hE
        refine lv_iconst (v := (0 : Int32)) hx hb d_Model_takeRequestLine_509 (by decide) ?_
        exact jn510 _ _ _ _ _ _ _ _ hE (lv_sub hl [1, 2, 3, 4] rfl) hw hS
      · rw [if_pos hc502] at hE
        exact jn505 _ _ _ _ _ _ _ hE (lv_sub hl [1, 2, 3, 4] rfl) hw hS
  have jn483 : ∀ (ls : Array Slot) (H : Heap) (locs : List Loc) (σ : St) (l1 : Int32) (l2 : Int32) (l5 : Int32), x_Model_takeRequestLine_483 l1 l2 l5 σ = some σ' → lv_has ls 8 [(0, .ref (G.2.1 51)), (1, .int l1), (2, .int l2), (5, .int l5)] → xw G σ H → va_S (xA G) s.heap H locs → W p l e (headSpec (ws_Model_takeRequestLine) rm_Model_takeRequestLine).room s m ([.ref (G.2.1 51)] : List Value).toArray below meth c H locs 0 0 (MQ below (xQ G none σ') ([.ref (G.2.1 51)] : List Value).toArray s 0 0 (xA G)) (F0 m 483 ls []) := by
    intro ls H locs σ l1 l2 l5 hE hl hw hS
    unfold x_Model_takeRequestLine_483 at hE
    refine lv_iconst (v := (0 : Int32)) hx hb d_Model_takeRequestLine_483 (by decide) ?_
    exact jn484 _ _ _ _ _ _ _ _ hE (lv_sub hl [0, 1, 2, 3] rfl) hw hS
  have jn445 : ∀ (ls : Array Slot) (H : Heap) (locs : List Loc) (σ : St) (l1 : Int32) (l2 : Int32) (l5 : Int32) (k0 : Int32), x_Model_takeRequestLine_445 l1 l2 l5 k0 σ = some σ' → lv_has ls 8 [(0, .ref (G.2.1 51)), (1, .int l1), (2, .int l2), (5, .int l5)] → xw G σ H → va_S (xA G) s.heap H locs → W p l e (headSpec (ws_Model_takeRequestLine) rm_Model_takeRequestLine).room s m ([.ref (G.2.1 51)] : List Value).toArray below meth c H locs 0 0 (MQ below (xQ G none σ') ([.ref (G.2.1 51)] : List Value).toArray s 0 0 (xA G)) (F0 m 445 ls [.int k0, .ref (G.2.1 51)]) := by
    intro ls H locs σ l1 l2 l5 k0 hE hl hw hS
    unfold x_Model_takeRequestLine_445 at hE
    refine lv_sipush (v := (501 : Int32)) hx hb d_Model_takeRequestLine_445 (by decide) ?_
    obtain ⟨s448, hC448, hE⟩ := x_bind hE
    refine x_callV hS (W.runV (As := [.int k0, .int (501 : Int32)]) (rest := []) ⟨hx, hb, hml, hown, hu⟩ (t_Model_blame l G σ k0 (501 : Int32) s448 hC448) (cwV 2 hu (uw_V mw_1279 mw_1281 mw_45 mw_70 mw_1282) rfl rfl rfl hd_Model_blame ⟨Nat.le_of_ble_eq_true rfl, Nat.le_of_ble_eq_true rfl⟩) (x_preV hC hS hw (va_recv hK hw (q := (R_Model, T_Model, 33)) (ci := 10) rfl (x_at (by decide) (xcl_51 G σ)))) rfl rfl hl.1 rfl (lv_room (Nat.le_of_ble_eq_true rfl)) d_Model_takeRequestLine_448 ⟨Nat.le_of_ble_eq_true rfl, Nat.le_of_ble_eq_true rfl⟩) (fun H locs hw hS => ?_)
    refine lv_iload_n hx hb d_Model_takeRequestLine_451 rfl (lv_at hl 2 rfl) ?_
    refine lv_iload_n hx hb d_Model_takeRequestLine_452 rfl (lv_at hl 1 rfl) ?_
    refine lv_isub hx hb d_Model_takeRequestLine_453 ?_
    refine lv_iconst (v := (2 : Int32)) hx hb d_Model_takeRequestLine_454 (by decide) ?_
    refine lv_icmp_ne (tgt := 483) hx hb d_Model_takeRequestLine_455 (by decide) (fun hc455 => ?_) (fun hc455 => ?_)
    · rw [if_neg hc455] at hE
      exact jn483 _ _ _ _ _ _ _ hE (lv_sub hl [0, 1, 2, 3] rfl) hw hS
    · rw [if_pos hc455] at hE
      refine lv_aload_n hx hb d_Model_takeRequestLine_458 rfl (lv_at hl 0 rfl) ?_
      refine va_get (D := G.1) (cl := xCl) (ci := 10) (v := .ref (G.2.1 57)) (C := R_Model) (T := T_Model) (N := 33) hx hb hu fi_Model hown hK hw 51 (x_at (by decide) (xcl_51 G s448)) rfl 11 (by decide) (hu _ mw_1079) (fun _ h9 => h9) rfl d_Model_takeRequestLine_459 ?_
      refine lv_iload_n hx hb d_Model_takeRequestLine_462 rfl (lv_at hl 1 rfl) ?_
      refine lv_iconst (v := (1 : Int32)) hx hb d_Model_takeRequestLine_463 (by decide) ?_
      refine lv_iadd hx hb d_Model_takeRequestLine_464 ?_
      obtain ⟨g465, hE⟩ := x_guard hE
      refine va_iald hx hb hK hw 57 0 (x_at (by decide) (xcl_57 G s448)) rfl g465 d_Model_takeRequestLine_465 ?_
      refine lv_bipush (v := (42 : Int32)) hx hb d_Model_takeRequestLine_466 (by decide) ?_
      refine lv_icmp_ne (tgt := 483) hx hb d_Model_takeRequestLine_468 (by decide) (fun hc468 => ?_) (fun hc468 => ?_)
      · rw [if_neg hc468] at hE
        exact jn483 _ _ _ _ _ _ _ hE (lv_sub hl [0, 1, 2, 3] rfl) hw hS
      · rw [if_pos hc468] at hE
        refine lv_iload hx hb d_Model_takeRequestLine_471 (lv_at hl 3 rfl) ?_
        refine lv_sipush (v := (146 : Int32)) hx hb d_Model_takeRequestLine_473 (by decide) ?_
        refine lv_icmp_ne (tgt := 483) hx hb d_Model_takeRequestLine_476 (by decide) (fun hc476 => ?_) (fun hc476 => ?_)
        · rw [if_neg hc476] at hE
          exact jn483 _ _ _ _ _ _ _ hE (lv_sub hl [0, 1, 2, 3] rfl) hw hS
        · rw [if_pos hc476] at hE
          refine lv_iconst (v := (1 : Int32)) hx hb d_Model_takeRequestLine_479 (by decide) ?_
          refine lv_goto (tgt := 484) hx hb d_Model_takeRequestLine_480 (by decide) ?_
          exact jn484 _ _ _ _ _ _ _ _ hE (lv_sub hl [0, 1, 2, 3] rfl) hw hS
  have jn432 : ∀ (ls : Array Slot) (H : Heap) (locs : List Loc) (σ : St) (l1 : Int32) (l2 : Int32) (k0 : Int32), x_Model_takeRequestLine_432 l1 l2 k0 σ = some σ' → lv_has ls 8 [(0, .ref (G.2.1 51)), (1, .int l1), (2, .int l2)] → xw G σ H → va_S (xA G) s.heap H locs → W p l e (headSpec (ws_Model_takeRequestLine) rm_Model_takeRequestLine).room s m ([.ref (G.2.1 51)] : List Value).toArray below meth c H locs 0 0 (MQ below (xQ G none σ') ([.ref (G.2.1 51)] : List Value).toArray s 0 0 (xA G)) (F0 m 432 ls [.int k0]) := by
    intro ls H locs σ l1 l2 k0 hE hl hw hS
    unfold x_Model_takeRequestLine_432 at hE
    refine lv_istore hx hb d_Model_takeRequestLine_432 hl (by decide) rfl (fun ls hl => ?_)
    have hl : lv_has ls 8 [(5, .int k0), (0, .ref (G.2.1 51)), (1, .int l1), (2, .int l2)] := hl
    refine lv_aload_n hx hb d_Model_takeRequestLine_434 rfl (lv_at hl 1 rfl) ?_
    refine lv_iload hx hb d_Model_takeRequestLine_435 (lv_at hl 0 rfl) ?_
    refine lv_if_lt (tgt := 444) hx hb d_Model_takeRequestLine_437 (by decide) (fun hc437 => ?_) (fun hc437 => ?_)
    · rw [if_pos hc437] at hE
      refine lv_iconst (v := (0 : Int32)) hx hb d_Model_takeRequestLine_444 (by decide) ?_
      exact jn445 _ _ _ _ _ _ _ _ hE (lv_sub hl [1, 2, 3, 0] rfl) hw hS
    · rw [if_neg hc437] at hE
      refine lv_iconst (v := (1 : Int32)) hx hb d_Model_takeRequestLine_440 (by decide) ?_
      refine lv_goto (tgt := 445) hx hb d_Model_takeRequestLine_441 (by decide) ?_
      exact jn445 _ _ _ _ _ _ _ _ hE (lv_sub hl [1, 2, 3, 0] rfl) hw hS
  have jn374 : ∀ (ls : Array Slot) (H : Heap) (locs : List Loc) (σ : St) (l1 : Int32) (l2 : Int32) (k0 : Int32), x_Model_takeRequestLine_374 l1 l2 k0 σ = some σ' → lv_has ls 8 [(0, .ref (G.2.1 51)), (1, .int l1), (2, .int l2)] → xw G σ H → va_S (xA G) s.heap H locs → W p l e (headSpec (ws_Model_takeRequestLine) rm_Model_takeRequestLine).room s m ([.ref (G.2.1 51)] : List Value).toArray below meth c H locs 0 0 (MQ below (xQ G none σ') ([.ref (G.2.1 51)] : List Value).toArray s 0 0 (xA G)) (F0 m 374 ls [.int k0]) := by
    intro ls H locs σ l1 l2 k0 hE hl hw hS
    unfold x_Model_takeRequestLine_374 at hE
    refine lv_istore hx hb d_Model_takeRequestLine_374 hl (by decide) rfl (fun ls hl => ?_)
    have hl : lv_has ls 8 [(5, .int k0), (0, .ref (G.2.1 51)), (1, .int l1), (2, .int l2)] := hl
    refine lv_aload_n hx hb d_Model_takeRequestLine_376 rfl (lv_at hl 1 rfl) ?_
    refine lv_iconst (v := (0 : Int32)) hx hb d_Model_takeRequestLine_377 (by decide) ?_
    refine lv_iload_n hx hb d_Model_takeRequestLine_378 rfl (lv_at hl 2 rfl) ?_
    refine lv_sipush (v := (139 : Int32)) hx hb d_Model_takeRequestLine_379 (by decide) ?_
    obtain ⟨r382, hC382, hE⟩ := x_bind hE
    refine x_callR (W.runV (As := [.int (0 : Int32), .int l1, .int (139 : Int32)]) (rest := []) ⟨hx, hb, hml, hown, hu⟩ (t_Model_isExactly l G σ (0 : Int32) l1 (139 : Int32) r382 hC382) (cwV 3 hu (uw_V mw_1312 mw_1314 mw_51 mw_70 mw_1315) rfl rfl rfl hd_Model_isExactly ⟨Nat.le_of_ble_eq_true rfl, Nat.le_of_ble_eq_true rfl⟩) (x_preV hC hS hw (va_recv hK hw (q := (R_Model, T_Model, 33)) (ci := 10) rfl (x_at (by decide) (xcl_51 G σ)))) rfl rfl hl.1 rfl (lv_room (Nat.le_of_ble_eq_true rfl)) d_Model_takeRequestLine_382 ⟨Nat.le_of_ble_eq_true rfl, Nat.le_of_ble_eq_true rfl⟩) ?_
    refine lv_if_eq (tgt := 394) hx hb d_Model_takeRequestLine_385 (by decide) (fun hc385 => ?_) (fun hc385 => ?_)
    · rw [if_pos hc385] at hE
      refine lv_aload_n hx hb d_Model_takeRequestLine_394 rfl (lv_at hl 1 rfl) ?_
      refine lv_iconst (v := (0 : Int32)) hx hb d_Model_takeRequestLine_395 (by decide) ?_
      refine lv_iload_n hx hb d_Model_takeRequestLine_396 rfl (lv_at hl 2 rfl) ?_
      refine lv_sipush (v := (146 : Int32)) hx hb d_Model_takeRequestLine_397 (by decide) ?_
      obtain ⟨r400, hC400, hE⟩ := x_bind hE
      refine x_callR (W.runV (As := [.int (0 : Int32), .int l1, .int (146 : Int32)]) (rest := []) ⟨hx, hb, hml, hown, hu⟩ (t_Model_isExactly l G σ (0 : Int32) l1 (146 : Int32) r400 hC400) (cwV 3 hu (uw_V mw_1312 mw_1314 mw_51 mw_70 mw_1315) rfl rfl rfl hd_Model_isExactly ⟨Nat.le_of_ble_eq_true rfl, Nat.le_of_ble_eq_true rfl⟩) (x_preV hC hS hw (va_recv hK hw (q := (R_Model, T_Model, 33)) (ci := 10) rfl (x_at (by decide) (xcl_51 G σ)))) rfl rfl hl.1 rfl (lv_room (Nat.le_of_ble_eq_true rfl)) d_Model_takeRequestLine_400 ⟨Nat.le_of_ble_eq_true rfl, Nat.le_of_ble_eq_true rfl⟩) ?_
      refine lv_if_eq (tgt := 412) hx hb d_Model_takeRequestLine_403 (by decide) (fun hc403 => ?_) (fun hc403 => ?_)
      · rw [if_pos hc403] at hE
        refine lv_aload_n hx hb d_Model_takeRequestLine_412 rfl (lv_at hl 1 rfl) ?_
        refine lv_iconst (v := (0 : Int32)) hx hb d_Model_takeRequestLine_413 (by decide) ?_
        refine lv_iload_n hx hb d_Model_takeRequestLine_414 rfl (lv_at hl 2 rfl) ?_
        refine lv_sipush (v := (154 : Int32)) hx hb d_Model_takeRequestLine_415 (by decide) ?_
        obtain ⟨r418, hC418, hE⟩ := x_bind hE
        refine x_callR (W.runV (As := [.int (0 : Int32), .int l1, .int (154 : Int32)]) (rest := []) ⟨hx, hb, hml, hown, hu⟩ (t_Model_isExactly l G σ (0 : Int32) l1 (154 : Int32) r418 hC418) (cwV 3 hu (uw_V mw_1312 mw_1314 mw_51 mw_70 mw_1315) rfl rfl rfl hd_Model_isExactly ⟨Nat.le_of_ble_eq_true rfl, Nat.le_of_ble_eq_true rfl⟩) (x_preV hC hS hw (va_recv hK hw (q := (R_Model, T_Model, 33)) (ci := 10) rfl (x_at (by decide) (xcl_51 G σ)))) rfl rfl hl.1 rfl (lv_room (Nat.le_of_ble_eq_true rfl)) d_Model_takeRequestLine_418 ⟨Nat.le_of_ble_eq_true rfl, Nat.le_of_ble_eq_true rfl⟩) ?_
        refine lv_if_eq (tgt := 430) hx hb d_Model_takeRequestLine_421 (by decide) (fun hc421 => ?_) (fun hc421 => ?_)
        · rw [if_pos hc421] at hE
          refine lv_iload hx hb d_Model_takeRequestLine_430 (lv_at hl 0 rfl) ?_
          exact jn432 _ _ _ _ _ _ _ hE (lv_sub hl [1, 2, 3] rfl) hw hS
        · rw [if_neg hc421] at hE
          refine lv_sipush (v := (154 : Int32)) hx hb d_Model_takeRequestLine_424 (by decide) ?_
          refine lv_goto (tgt := 432) hx hb d_Model_takeRequestLine_427 (by decide) ?_
          exact jn432 _ _ _ _ _ _ _ hE (lv_sub hl [1, 2, 3] rfl) hw hS
      · rw [if_neg hc403] at hE
        refine lv_sipush (v := (146 : Int32)) hx hb d_Model_takeRequestLine_406 (by decide) ?_
        refine lv_goto (tgt := 432) hx hb d_Model_takeRequestLine_409 (by decide) ?_
        exact jn432 _ _ _ _ _ _ _ hE (lv_sub hl [1, 2, 3] rfl) hw hS
    · rw [if_neg hc385] at hE
      refine lv_sipush (v := (139 : Int32)) hx hb d_Model_takeRequestLine_388 (by decide) ?_
      refine lv_goto (tgt := 432) hx hb d_Model_takeRequestLine_391 (by decide) ?_
      exact jn432 _ _ _ _ _ _ _ hE (lv_sub hl [1, 2, 3] rfl) hw hS
  have jn299 : ∀ (ls : Array Slot) (H : Heap) (locs : List Loc) (σ : St) (l1 : Int32) (l2 : Int32) (k0 : Int32), x_Model_takeRequestLine_299 l1 l2 k0 σ = some σ' → lv_has ls 8 [(0, .ref (G.2.1 51)), (1, .int l1), (2, .int l2)] → xw G σ H → va_S (xA G) s.heap H locs → W p l e (headSpec (ws_Model_takeRequestLine) rm_Model_takeRequestLine).room s m ([.ref (G.2.1 51)] : List Value).toArray below meth c H locs 0 0 (MQ below (xQ G none σ') ([.ref (G.2.1 51)] : List Value).toArray s 0 0 (xA G)) (F0 m 299 ls [.int k0, .ref (G.2.1 51)]) := by
    intro ls H locs σ l1 l2 k0 hE hl hw hS
    unfold x_Model_takeRequestLine_299 at hE
    refine lv_sipush (v := (505 : Int32)) hx hb d_Model_takeRequestLine_299 (by decide) ?_
    obtain ⟨s302, hC302, hE⟩ := x_bind hE
    refine x_callV hS (W.runV (As := [.int k0, .int (505 : Int32)]) (rest := []) ⟨hx, hb, hml, hown, hu⟩ (t_Model_blame l G σ k0 (505 : Int32) s302 hC302) (cwV 2 hu (uw_V mw_1279 mw_1281 mw_45 mw_70 mw_1282) rfl rfl rfl hd_Model_blame ⟨Nat.le_of_ble_eq_true rfl, Nat.le_of_ble_eq_true rfl⟩) (x_preV hC hS hw (va_recv hK hw (q := (R_Model, T_Model, 33)) (ci := 10) rfl (x_at (by decide) (xcl_51 G σ)))) rfl rfl hl.1 rfl (lv_room (Nat.le_of_ble_eq_true rfl)) d_Model_takeRequestLine_302 ⟨Nat.le_of_ble_eq_true rfl, Nat.le_of_ble_eq_true rfl⟩) (fun H locs hw hS => ?_)
    refine lv_aload_n hx hb d_Model_takeRequestLine_305 rfl (lv_at hl 0 rfl) ?_
    refine lv_iconst (v := (0 : Int32)) hx hb d_Model_takeRequestLine_306 (by decide) ?_
    refine lv_iload_n hx hb d_Model_takeRequestLine_307 rfl (lv_at hl 1 rfl) ?_
    refine lv_bipush (v := (121 : Int32)) hx hb d_Model_takeRequestLine_308 (by decide) ?_
    obtain ⟨r310, hC310, hE⟩ := x_bind hE
    refine x_callR (W.runV (As := [.int (0 : Int32), .int l1, .int (121 : Int32)]) (rest := []) ⟨hx, hb, hml, hown, hu⟩ (t_Model_isExactly l G s302 (0 : Int32) l1 (121 : Int32) r310 hC310) (cwV 3 hu (uw_V mw_1312 mw_1314 mw_51 mw_70 mw_1315) rfl rfl rfl hd_Model_isExactly ⟨Nat.le_of_ble_eq_true rfl, Nat.le_of_ble_eq_true rfl⟩) (x_preV hC hS hw (va_recv hK hw (q := (R_Model, T_Model, 33)) (ci := 10) rfl (x_at (by decide) (xcl_51 G s302)))) rfl rfl hl.1 rfl (lv_room (Nat.le_of_ble_eq_true rfl)) d_Model_takeRequestLine_310 ⟨Nat.le_of_ble_eq_true rfl, Nat.le_of_ble_eq_true rfl⟩) ?_
    refine lv_if_eq (tgt := 321) hx hb d_Model_takeRequestLine_313 (by decide) (fun hc313 => ?_) (fun hc313 => ?_)
    · rw [if_pos hc313] at hE
      refine lv_aload_n hx hb d_Model_takeRequestLine_321 rfl (lv_at hl 0 rfl) ?_
      refine lv_iconst (v := (0 : Int32)) hx hb d_Model_takeRequestLine_322 (by decide) ?_
      refine lv_iload_n hx hb d_Model_takeRequestLine_323 rfl (lv_at hl 1 rfl) ?_
      refine lv_bipush (v := (125 : Int32)) hx hb d_Model_takeRequestLine_324 (by decide) ?_
      obtain ⟨r326, hC326, hE⟩ := x_bind hE
      refine x_callR (W.runV (As := [.int (0 : Int32), .int l1, .int (125 : Int32)]) (rest := []) ⟨hx, hb, hml, hown, hu⟩ (t_Model_isExactly l G s302 (0 : Int32) l1 (125 : Int32) r326 hC326) (cwV 3 hu (uw_V mw_1312 mw_1314 mw_51 mw_70 mw_1315) rfl rfl rfl hd_Model_isExactly ⟨Nat.le_of_ble_eq_true rfl, Nat.le_of_ble_eq_true rfl⟩) (x_preV hC hS hw (va_recv hK hw (q := (R_Model, T_Model, 33)) (ci := 10) rfl (x_at (by decide) (xcl_51 G s302)))) rfl rfl hl.1 rfl (lv_room (Nat.le_of_ble_eq_true rfl)) d_Model_takeRequestLine_326 ⟨Nat.le_of_ble_eq_true rfl, Nat.le_of_ble_eq_true rfl⟩) ?_
      refine lv_if_eq (tgt := 337) hx hb d_Model_takeRequestLine_329 (by decide) (fun hc329 => ?_) (fun hc329 => ?_)
      · rw [if_pos hc329] at hE
        refine lv_aload_n hx hb d_Model_takeRequestLine_337 rfl (lv_at hl 0 rfl) ?_
        refine lv_iconst (v := (0 : Int32)) hx hb d_Model_takeRequestLine_338 (by decide) ?_
        refine lv_iload_n hx hb d_Model_takeRequestLine_339 rfl (lv_at hl 1 rfl) ?_
        refine lv_sipush (v := (130 : Int32)) hx hb d_Model_takeRequestLine_340 (by decide) ?_
        obtain ⟨r343, hC343, hE⟩ := x_bind hE
        refine x_callR (W.runV (As := [.int (0 : Int32), .int l1, .int (130 : Int32)]) (rest := []) ⟨hx, hb, hml, hown, hu⟩ (t_Model_isExactly l G s302 (0 : Int32) l1 (130 : Int32) r343 hC343) (cwV 3 hu (uw_V mw_1312 mw_1314 mw_51 mw_70 mw_1315) rfl rfl rfl hd_Model_isExactly ⟨Nat.le_of_ble_eq_true rfl, Nat.le_of_ble_eq_true rfl⟩) (x_preV hC hS hw (va_recv hK hw (q := (R_Model, T_Model, 33)) (ci := 10) rfl (x_at (by decide) (xcl_51 G s302)))) rfl rfl hl.1 rfl (lv_room (Nat.le_of_ble_eq_true rfl)) d_Model_takeRequestLine_343 ⟨Nat.le_of_ble_eq_true rfl, Nat.le_of_ble_eq_true rfl⟩) ?_
        refine lv_if_eq (tgt := 355) hx hb d_Model_takeRequestLine_346 (by decide) (fun hc346 => ?_) (fun hc346 => ?_)
        · rw [if_pos hc346] at hE
          refine lv_aload_n hx hb d_Model_takeRequestLine_355 rfl (lv_at hl 0 rfl) ?_
          refine lv_iconst (v := (0 : Int32)) hx hb d_Model_takeRequestLine_356 (by decide) ?_
          refine lv_iload_n hx hb d_Model_takeRequestLine_357 rfl (lv_at hl 1 rfl) ?_
          refine lv_sipush (v := (134 : Int32)) hx hb d_Model_takeRequestLine_358 (by decide) ?_
          obtain ⟨r361, hC361, hE⟩ := x_bind hE
          refine x_callR (W.runV (As := [.int (0 : Int32), .int l1, .int (134 : Int32)]) (rest := []) ⟨hx, hb, hml, hown, hu⟩ (t_Model_isExactly l G s302 (0 : Int32) l1 (134 : Int32) r361 hC361) (cwV 3 hu (uw_V mw_1312 mw_1314 mw_51 mw_70 mw_1315) rfl rfl rfl hd_Model_isExactly ⟨Nat.le_of_ble_eq_true rfl, Nat.le_of_ble_eq_true rfl⟩) (x_preV hC hS hw (va_recv hK hw (q := (R_Model, T_Model, 33)) (ci := 10) rfl (x_at (by decide) (xcl_51 G s302)))) rfl rfl hl.1 rfl (lv_room (Nat.le_of_ble_eq_true rfl)) d_Model_takeRequestLine_361 ⟨Nat.le_of_ble_eq_true rfl, Nat.le_of_ble_eq_true rfl⟩) ?_
          refine lv_if_eq (tgt := 373) hx hb d_Model_takeRequestLine_364 (by decide) (fun hc364 => ?_) (fun hc364 => ?_)
          · rw [if_pos hc364] at hE
            refine lv_iconst (v := ((-1) : Int32)) hx hb d_Model_takeRequestLine_373 (by decide) ?_
            exact jn374 _ _ _ _ _ _ _ hE (lv_sub hl [0, 1, 2] rfl) hw hS
          · rw [if_neg hc364] at hE
            refine lv_sipush (v := (134 : Int32)) hx hb d_Model_takeRequestLine_367 (by decide) ?_
            refine lv_goto (tgt := 374) hx hb d_Model_takeRequestLine_370 (by decide) ?_
            exact jn374 _ _ _ _ _ _ _ hE (lv_sub hl [0, 1, 2] rfl) hw hS
        · rw [if_neg hc346] at hE
          refine lv_sipush (v := (130 : Int32)) hx hb d_Model_takeRequestLine_349 (by decide) ?_
          refine lv_goto (tgt := 374) hx hb d_Model_takeRequestLine_352 (by decide) ?_
          exact jn374 _ _ _ _ _ _ _ hE (lv_sub hl [0, 1, 2] rfl) hw hS
      · rw [if_neg hc329] at hE
        refine lv_bipush (v := (125 : Int32)) hx hb d_Model_takeRequestLine_332 (by decide) ?_
        refine lv_goto (tgt := 374) hx hb d_Model_takeRequestLine_334 (by decide) ?_
        exact jn374 _ _ _ _ _ _ _ hE (lv_sub hl [0, 1, 2] rfl) hw hS
    · rw [if_neg hc313] at hE
      refine lv_bipush (v := (121 : Int32)) hx hb d_Model_takeRequestLine_316 (by decide) ?_
      refine lv_goto (tgt := 374) hx hb d_Model_takeRequestLine_318 (by decide) ?_
      exact jn374 _ _ _ _ _ _ _ hE (lv_sub hl [0, 1, 2] rfl) hw hS
  have jn265 : ∀ (ls : Array Slot) (H : Heap) (locs : List Loc) (σ : St) (l1 : Int32) (l2 : Int32) (k0 : Int32), x_Model_takeRequestLine_265 l1 l2 k0 σ = some σ' → lv_has ls 8 [(0, .ref (G.2.1 51)), (1, .int l1), (2, .int l2)] → xw G σ H → va_S (xA G) s.heap H locs → W p l e (headSpec (ws_Model_takeRequestLine) rm_Model_takeRequestLine).room s m ([.ref (G.2.1 51)] : List Value).toArray below meth c H locs 0 0 (MQ below (xQ G none σ') ([.ref (G.2.1 51)] : List Value).toArray s 0 0 (xA G)) (F0 m 265 ls [.int k0, .ref (G.2.1 51)]) := by
    intro ls H locs σ l1 l2 k0 hE hl hw hS
    unfold x_Model_takeRequestLine_265 at hE
    refine lv_sipush (v := (400 : Int32)) hx hb d_Model_takeRequestLine_265 (by decide) ?_
    obtain ⟨s268, hC268, hE⟩ := x_bind hE
    refine x_callV hS (W.runV (As := [.int k0, .int (400 : Int32)]) (rest := []) ⟨hx, hb, hml, hown, hu⟩ (t_Model_blame l G σ k0 (400 : Int32) s268 hC268) (cwV 2 hu (uw_V mw_1279 mw_1281 mw_45 mw_70 mw_1282) rfl rfl rfl hd_Model_blame ⟨Nat.le_of_ble_eq_true rfl, Nat.le_of_ble_eq_true rfl⟩) (x_preV hC hS hw (va_recv hK hw (q := (R_Model, T_Model, 33)) (ci := 10) rfl (x_at (by decide) (xcl_51 G σ)))) rfl rfl hl.1 rfl (lv_room (Nat.le_of_ble_eq_true rfl)) d_Model_takeRequestLine_268 ⟨Nat.le_of_ble_eq_true rfl, Nat.le_of_ble_eq_true rfl⟩) (fun H locs hw hS => ?_)
    refine lv_aload_n hx hb d_Model_takeRequestLine_271 rfl (lv_at hl 0 rfl) ?_
    refine va_get (D := G.1) (cl := xCl) (ci := 10) (v := .int (s268.1 51 25)) (C := R_Model) (T := T_Model) (N := 33) hx hb hu fi_Model hown hK hw 51 (x_at (by decide) (xcl_51 G s268)) rfl 25 (by decide) (hu _ mw_1093) (fun _ h9 => h9) rfl d_Model_takeRequestLine_272 ?_
    refine lv_if_le (tgt := 279) hx hb d_Model_takeRequestLine_275 (by decide) (fun hc275 => ?_) (fun hc275 => ?_)
    · rw [if_pos hc275] at hE
      refine lv_aload_n hx hb d_Model_takeRequestLine_279 rfl (lv_at hl 0 rfl) ?_
      refine lv_aload_n hx hb d_Model_takeRequestLine_280 rfl (lv_at hl 0 rfl) ?_
      refine va_get (D := G.1) (cl := xCl) (ci := 10) (v := .ref (G.2.1 57)) (C := R_Model) (T := T_Model) (N := 33) hx hb hu fi_Model hown hK hw 51 (x_at (by decide) (xcl_51 G s268)) rfl 11 (by decide) (hu _ mw_1079) (fun _ h9 => h9) rfl d_Model_takeRequestLine_281 ?_
      refine lv_iload_n hx hb d_Model_takeRequestLine_284 rfl (lv_at hl 2 rfl) ?_
      refine lv_bipush (v := (6 : Int32)) hx hb d_Model_takeRequestLine_285 (by decide) ?_
      refine lv_iadd hx hb d_Model_takeRequestLine_287 ?_
      obtain ⟨g288, hE⟩ := x_guard hE
      refine va_iald hx hb hK hw 57 0 (x_at (by decide) (xcl_57 G s268)) rfl g288 d_Model_takeRequestLine_288 ?_
      refine lv_bipush (v := (49 : Int32)) hx hb d_Model_takeRequestLine_289 (by decide) ?_
      refine lv_icmp_ne (tgt := 298) hx hb d_Model_takeRequestLine_291 (by decide) (fun hc291 => ?_) (fun hc291 => ?_)
      · rw [if_neg hc291] at hE
        refine lv_iconst (v := (0 : Int32)) hx hb d_Model_takeRequestLine_298 (by decide) ?_
        exact jn299 _ _ _ _ _ _ _ hE (lv_sub hl [0, 1, 2] rfl) hw hS
      · rw [if_pos hc291] at hE
        refine lv_iconst (v := (1 : Int32)) hx hb d_Model_takeRequestLine_294 (by decide) ?_
        refine lv_goto (tgt := 299) hx hb d_Model_takeRequestLine_295 (by decide) ?_
        exact jn299 _ _ _ _ _ _ _ hE (lv_sub hl [0, 1, 2] rfl) hw hS
    · rw [if_neg hc275] at hE
      have e1 := Option.some.inj hE
      exact W.vret hx hb hr (fun t ht hW => ⟨rfl, by rw [ht, ← e1]; exact hw, hS.F ht⟩) hS.2.2 d_Model_takeRequestLine_278
  have jn264 : ∀ (ls : Array Slot) (H : Heap) (locs : List Loc) (σ : St) (l1 : Int32) (l2 : Int32), x_Model_takeRequestLine_264 l1 l2 σ = some σ' → lv_has ls 8 [(0, .ref (G.2.1 51)), (1, .int l1), (2, .int l2)] → xw G σ H → va_S (xA G) s.heap H locs → W p l e (headSpec (ws_Model_takeRequestLine) rm_Model_takeRequestLine).room s m ([.ref (G.2.1 51)] : List Value).toArray below meth c H locs 0 0 (MQ below (xQ G none σ') ([.ref (G.2.1 51)] : List Value).toArray s 0 0 (xA G)) (F0 m 264 ls [.ref (G.2.1 51)]) := by
    intro ls H locs σ l1 l2 hE hl hw hS
    unfold x_Model_takeRequestLine_264 at hE
    refine lv_iconst (v := (0 : Int32)) hx hb d_Model_takeRequestLine_264 (by decide) ?_
    exact jn265 _ _ _ _ _ _ _ hE (lv_sub hl [0, 1, 2] rfl) hw hS
  have jn229 : ∀ (ls : Array Slot) (H : Heap) (locs : List Loc) (σ : St) (l1 : Int32) (l2 : Int32) (l4 : Int32), x_Model_takeRequestLine_229 l1 l2 l4 σ = some σ' → lv_has ls 8 [(0, .ref (G.2.1 51)), (1, .int l1), (2, .int l2), (4, .int l4)] → xw G σ H → va_S (xA G) s.heap H locs → W p l e (headSpec (ws_Model_takeRequestLine) rm_Model_takeRequestLine).room s m ([.ref (G.2.1 51)] : List Value).toArray below meth c H locs 0 0 (MQ below (xQ G none σ') ([.ref (G.2.1 51)] : List Value).toArray s 0 0 (xA G)) (F0 m 229 ls []) := by
    intro ls H locs σ l1 l2 l4 hE hl hw hS
    unfold x_Model_takeRequestLine_229 at hE
    refine lv_aload_n hx hb d_Model_takeRequestLine_229 rfl (lv_at hl 0 rfl) ?_
    refine lv_aload_n hx hb d_Model_takeRequestLine_230 rfl (lv_at hl 0 rfl) ?_
    refine lv_iload_n hx hb d_Model_takeRequestLine_231 rfl (lv_at hl 1 rfl) ?_
    obtain ⟨r232, hC232, hE⟩ := x_bind hE
    refine x_callR (W.runV (As := [.int l1]) (rest := [.ref (G.2.1 51)]) ⟨hx, hb, hml, hown, hu⟩ (t_Model_isToken l G σ l1 r232 hC232) (cwV 1 hu (uw_V mw_1295 mw_1297 mw_49 mw_70 mw_1298) rfl rfl rfl hd_Model_isToken ⟨Nat.le_of_ble_eq_true rfl, Nat.le_of_ble_eq_true rfl⟩) (x_preV hC hS hw (va_recv hK hw (q := (R_Model, T_Model, 33)) (ci := 10) rfl (x_at (by decide) (xcl_51 G σ)))) rfl rfl hl.1 rfl (lv_room (Nat.le_of_ble_eq_true rfl)) d_Model_takeRequestLine_232 ⟨Nat.le_of_ble_eq_true rfl, Nat.le_of_ble_eq_true rfl⟩) ?_
    refine lv_if_eq (tgt := 264) hx hb d_Model_takeRequestLine_235 (by decide) (fun hc235 => ?_) (fun hc235 => ?_)
    · rw [if_pos hc235] at hE
      exact jn264 _ _ _ _ _ _ hE (lv_sub hl [0, 1, 2] rfl) hw hS
    · rw [if_neg hc235] at hE
      refine lv_iload_n hx hb d_Model_takeRequestLine_238 rfl (lv_at hl 1 rfl) ?_
      refine lv_bipush (v := (8 : Int32)) hx hb d_Model_takeRequestLine_239 (by decide) ?_
      refine lv_icmp_ge (tgt := 264) hx hb d_Model_takeRequestLine_241 (by decide) (fun hc241 => ?_) (fun hc241 => ?_)
      · rw [if_pos hc241] at hE
        exact jn264 _ _ _ _ _ _ hE (lv_sub hl [0, 1, 2] rfl) hw hS
      · rw [if_neg hc241] at hE
        refine lv_iload hx hb d_Model_takeRequestLine_244 (lv_at hl 3 rfl) ?_
        refine lv_if_eq (tgt := 264) hx hb d_Model_takeRequestLine_246 (by decide) (fun hc246 => ?_) (fun hc246 => ?_)
        · rw [if_pos hc246] at hE
          exact jn264 _ _ _ _ _ _ hE (lv_sub hl [0, 1, 2] rfl) hw hS
        · rw [if_neg hc246] at hE
          refine lv_aload_n hx hb d_Model_takeRequestLine_249 rfl (lv_at hl 0 rfl) ?_
          refine lv_iload_n hx hb d_Model_takeRequestLine_250 rfl (lv_at hl 1 rfl) ?_
          refine lv_iconst (v := (1 : Int32)) hx hb d_Model_takeRequestLine_251 (by decide) ?_
          refine lv_iadd hx hb d_Model_takeRequestLine_252 ?_
          refine lv_iload_n hx hb d_Model_takeRequestLine_253 rfl (lv_at hl 2 rfl) ?_
          obtain ⟨r254, hC254, hE⟩ := x_bind hE
          refine x_callR (W.runV (As := [.int (l1 + (1 : Int32)), .int l2]) (rest := [.ref (G.2.1 51)]) ⟨hx, hb, hml, hown, hu⟩ (t_Model_isTarget l G σ (l1 + (1 : Int32)) l2 r254 hC254) (cwV 2 hu (uw_V mw_1305 mw_1307 mw_50 mw_70 mw_1308) rfl rfl rfl hd_Model_isTarget ⟨Nat.le_of_ble_eq_true rfl, Nat.le_of_ble_eq_true rfl⟩) (x_preV hC hS hw (va_recv hK hw (q := (R_Model, T_Model, 33)) (ci := 10) rfl (x_at (by decide) (xcl_51 G σ)))) rfl rfl hl.1 rfl (lv_room (Nat.le_of_ble_eq_true rfl)) d_Model_takeRequestLine_254 ⟨Nat.le_of_ble_eq_true rfl, Nat.le_of_ble_eq_true rfl⟩) ?_
          refine lv_if_eq (tgt := 264) hx hb d_Model_takeRequestLine_257 (by decide) (fun hc257 => ?_) (fun hc257 => ?_)
          · rw [if_pos hc257] at hE
            exact jn264 _ _ _ _ _ _ hE (lv_sub hl [0, 1, 2] rfl) hw hS
          · rw [if_neg hc257] at hE
            refine lv_iconst (v := (1 : Int32)) hx hb d_Model_takeRequestLine_260 (by decide) ?_
            refine lv_goto (tgt := 265) hx hb d_Model_takeRequestLine_261 (by decide) ?_
            exact jn265 _ _ _ _ _ _ _ hE (lv_sub hl [0, 1, 2] rfl) hw hS
  have jn221 : ∀ (bk181 : Int32 → Int32 → Int32 → Int32 → St → Option St) (hbk181 : ∀ (ls : Array Slot) (H : Heap) (locs : List Loc) (σ : St) (l1 : Int32) (l2 : Int32) (l4 : Int32) (l5 : Int32), bk181 l1 l2 l4 l5 σ = some σ' → lv_has ls 8 [(0, .ref (G.2.1 51)), (1, .int l1), (2, .int l2), (4, .int l4), (5, .int l5)] → xw G σ H → va_S (xA G) s.heap H locs → W p l e (headSpec (ws_Model_takeRequestLine) rm_Model_takeRequestLine).room s m ([.ref (G.2.1 51)] : List Value).toArray below meth c H locs 0 0 (MQ below (xQ G none σ') ([.ref (G.2.1 51)] : List Value).toArray s 0 0 (xA G)) (F0 m 181 ls [])) (ls : Array Slot) (H : Heap) (locs : List Loc) (σ : St) (l1 : Int32) (l2 : Int32) (l5 : Int32) (k0 : Int32), x_Model_takeRequestLine_221 bk181 l1 l2 l5 k0 σ = some σ' → lv_has ls 8 [(0, .ref (G.2.1 51)), (1, .int l1), (2, .int l2), (5, .int l5)] → xw G σ H → va_S (xA G) s.heap H locs → W p l e (headSpec (ws_Model_takeRequestLine) rm_Model_takeRequestLine).room s m ([.ref (G.2.1 51)] : List Value).toArray below meth c H locs 0 0 (MQ below (xQ G none σ') ([.ref (G.2.1 51)] : List Value).toArray s 0 0 (xA G)) (F0 m 221 ls [.int k0]) := by
    intro bk181 hbk181 ls H locs σ l1 l2 l5 k0 hE hl hw hS
    unfold x_Model_takeRequestLine_221 at hE
    refine lv_istore hx hb d_Model_takeRequestLine_221 hl (by decide) rfl (fun ls hl => ?_)
    have hl : lv_has ls 8 [(4, .int k0), (0, .ref (G.2.1 51)), (1, .int l1), (2, .int l2), (5, .int l5)] := hl
    obtain ⟨v223, e223, hE⟩ := x_letE hE
    refine lv_iinc hx hb d_Model_takeRequestLine_223 hl (k := 4) rfl (x_inc v223 e223 (by decide)) (by decide) rfl (fun ls hl => ?_)
    have hl : lv_has ls 8 [(5, .int v223), (4, .int k0), (0, .ref (G.2.1 51)), (1, .int l1), (2, .int l2)] := hl
    refine lv_goto (tgt := 181) hx hb d_Model_takeRequestLine_226 (by decide) ?_
    exact hbk181 _ _ _ _ _ _ _ _ hE (lv_sub hl [2, 3, 4, 1, 0] rfl) hw hS
  have jn181 : ∀ (n : Nat) (ls : Array Slot) (H : Heap) (locs : List Loc) (σ : St) (l1 : Int32) (l2 : Int32) (l4 : Int32) (l5 : Int32), x_Model_takeRequestLine_181 n l1 l2 l4 l5 σ = some σ' → lv_has ls 8 [(0, .ref (G.2.1 51)), (1, .int l1), (2, .int l2), (4, .int l4), (5, .int l5)] → xw G σ H → va_S (xA G) s.heap H locs → W p l e (headSpec (ws_Model_takeRequestLine) rm_Model_takeRequestLine).room s m ([.ref (G.2.1 51)] : List Value).toArray below meth c H locs 0 0 (MQ below (xQ G none σ') ([.ref (G.2.1 51)] : List Value).toArray s 0 0 (xA G)) (F0 m 181 ls []) := by
    intro n
    induction n with
    | zero => intro ls H locs σ l1 l2 l4 l5 hE; rw [x_Model_takeRequestLine_181] at hE; cases hE
    | succ n ih =>
      intro ls H locs σ l1 l2 l4 l5 hE hl hw hS
      rw [x_Model_takeRequestLine_181] at hE
      refine lv_iload hx hb d_Model_takeRequestLine_181 (lv_at hl 4 rfl) ?_
      refine lv_iconst (v := (5 : Int32)) hx hb d_Model_takeRequestLine_183 (by decide) ?_
      refine lv_icmp_ge (tgt := 229) hx hb d_Model_takeRequestLine_184 (by decide) (fun hc184 => ?_) (fun hc184 => ?_)
      · rw [if_pos hc184] at hE
        exact jn229 _ _ _ _ _ _ _ hE (lv_sub hl [0, 1, 2, 3] rfl) hw hS
      · rw [if_neg hc184] at hE
        refine lv_iload hx hb d_Model_takeRequestLine_187 (lv_at hl 3 rfl) ?_
        refine lv_if_eq (tgt := 229) hx hb d_Model_takeRequestLine_189 (by decide) (fun hc189 => ?_) (fun hc189 => ?_)
        · rw [if_pos hc189] at hE
          exact jn229 _ _ _ _ _ _ _ hE (lv_sub hl [0, 1, 2, 3] rfl) hw hS
        · rw [if_neg hc189] at hE
          refine lv_aload_n hx hb d_Model_takeRequestLine_192 rfl (lv_at hl 0 rfl) ?_
          refine va_get (D := G.1) (cl := xCl) (ci := 10) (v := .ref (G.2.1 57)) (C := R_Model) (T := T_Model) (N := 33) hx hb hu fi_Model hown hK hw 51 (x_at (by decide) (xcl_51 G σ)) rfl 11 (by decide) (hu _ mw_1079) (fun _ h9 => h9) rfl d_Model_takeRequestLine_193 ?_
          refine lv_iload_n hx hb d_Model_takeRequestLine_196 rfl (lv_at hl 2 rfl) ?_
          refine lv_iconst (v := (1 : Int32)) hx hb d_Model_takeRequestLine_197 (by decide) ?_
          refine lv_iadd hx hb d_Model_takeRequestLine_198 ?_
          refine lv_iload hx hb d_Model_takeRequestLine_199 (lv_at hl 4 rfl) ?_
          refine lv_iadd hx hb d_Model_takeRequestLine_201 ?_
          obtain ⟨g202, hE⟩ := x_guard hE
          refine va_iald hx hb hK hw 57 0 (x_at (by decide) (xcl_57 G σ)) rfl g202 d_Model_takeRequestLine_202 ?_
          refine lv_aload_n hx hb d_Model_takeRequestLine_203 rfl (lv_at hl 0 rfl) ?_
          refine lv_sipush (v := (160 : Int32)) hx hb d_Model_takeRequestLine_204 (by decide) ?_
          refine lv_iload hx hb d_Model_takeRequestLine_207 (lv_at hl 4 rfl) ?_
          refine lv_iadd hx hb d_Model_takeRequestLine_209 ?_
          obtain ⟨r210, hC210, hE⟩ := x_bind hE
          refine x_callR (W.runV (As := [.int ((160 : Int32) + l5)]) (rest := [.int (σ.2.1 57 ((l2 + (1 : Int32)) + l5).toNatClampNeg)]) ⟨hx, hb, hml, hown, hu⟩ (t_Model_letter l G σ ((160 : Int32) + l5) r210 hC210) (cwV 1 hu (uw_V mw_1215 mw_1217 mw_29 mw_70 mw_1218) rfl rfl rfl hd_Model_letter ⟨Nat.le_of_ble_eq_true rfl, Nat.le_of_ble_eq_true rfl⟩) (x_preV hC hS hw (va_recv hK hw (q := (R_Model, T_Model, 33)) (ci := 10) rfl (x_at (by decide) (xcl_51 G σ)))) rfl rfl hl.1 rfl (lv_room (Nat.le_of_ble_eq_true rfl)) d_Model_takeRequestLine_210 ⟨Nat.le_of_ble_eq_true rfl, Nat.le_of_ble_eq_true rfl⟩) ?_
          refine lv_icmp_ne (tgt := 220) hx hb d_Model_takeRequestLine_213 (by decide) (fun hc213 => ?_) (fun hc213 => ?_)
          · rw [if_neg hc213] at hE
            refine lv_iconst (v := (0 : Int32)) hx hb d_Model_takeRequestLine_220 (by decide) ?_
            exact jn221 _ ih _ _ _ _ _ _ _ _ hE (lv_sub hl [0, 1, 2, 4] rfl) hw hS
          · rw [if_pos hc213] at hE
            refine lv_iconst (v := (1 : Int32)) hx hb d_Model_takeRequestLine_216 (by decide) ?_
            refine lv_goto (tgt := 221) hx hb d_Model_takeRequestLine_217 (by decide) ?_
            exact jn221 _ ih _ _ _ _ _ _ _ _ hE (lv_sub hl [0, 1, 2, 4] rfl) hw hS
  have jn176 : ∀ (ls : Array Slot) (H : Heap) (locs : List Loc) (σ : St) (l1 : Int32) (l2 : Int32) (k0 : Int32), x_Model_takeRequestLine_176 l1 l2 k0 σ = some σ' → lv_has ls 8 [(0, .ref (G.2.1 51)), (1, .int l1), (2, .int l2)] → xw G σ H → va_S (xA G) s.heap H locs → W p l e (headSpec (ws_Model_takeRequestLine) rm_Model_takeRequestLine).room s m ([.ref (G.2.1 51)] : List Value).toArray below meth c H locs 0 0 (MQ below (xQ G none σ') ([.ref (G.2.1 51)] : List Value).toArray s 0 0 (xA G)) (F0 m 176 ls [.int k0]) := by
    intro ls H locs σ l1 l2 k0 hE hl hw hS
    unfold x_Model_takeRequestLine_176 at hE
    refine lv_istore hx hb d_Model_takeRequestLine_176 hl (by decide) rfl (fun ls hl => ?_)
    have hl : lv_has ls 8 [(4, .int k0), (0, .ref (G.2.1 51)), (1, .int l1), (2, .int l2)] := hl
    refine lv_iconst (v := (0 : Int32)) hx hb d_Model_takeRequestLine_178 (by decide) ?_
    refine lv_istore hx hb d_Model_takeRequestLine_179 hl (by decide) rfl (fun ls hl => ?_)
    have hl : lv_has ls 8 [(5, .int (0 : Int32)), (4, .int k0), (0, .ref (G.2.1 51)), (1, .int l1), (2, .int l2)] := hl
    exact jn181 x_fuel _ _ _ _ _ _ _ _ hE (lv_sub hl [2, 3, 4, 1, 0] rfl) hw hS
  have jn175 : ∀ (ls : Array Slot) (H : Heap) (locs : List Loc) (σ : St) (l1 : Int32) (l2 : Int32), x_Model_takeRequestLine_175 l1 l2 σ = some σ' → lv_has ls 8 [(0, .ref (G.2.1 51)), (1, .int l1), (2, .int l2)] → xw G σ H → va_S (xA G) s.heap H locs → W p l e (headSpec (ws_Model_takeRequestLine) rm_Model_takeRequestLine).room s m ([.ref (G.2.1 51)] : List Value).toArray below meth c H locs 0 0 (MQ below (xQ G none σ') ([.ref (G.2.1 51)] : List Value).toArray s 0 0 (xA G)) (F0 m 175 ls []) := by
    intro ls H locs σ l1 l2 hE hl hw hS
    unfold x_Model_takeRequestLine_175 at hE
    refine lv_iconst (v := (0 : Int32)) hx hb d_Model_takeRequestLine_175 (by decide) ?_
    exact jn176 _ _ _ _ _ _ _ hE (lv_sub hl [0, 1, 2] rfl) hw hS
  have jn102 : ∀ (ls : Array Slot) (H : Heap) (locs : List Loc) (σ : St) (l1 : Int32) (l2 : Int32) (k0 : Int32), x_Model_takeRequestLine_102 l1 l2 k0 σ = some σ' → lv_has ls 8 [(0, .ref (G.2.1 51)), (1, .int l1), (2, .int l2)] → xw G σ H → va_S (xA G) s.heap H locs → W p l e (headSpec (ws_Model_takeRequestLine) rm_Model_takeRequestLine).room s m ([.ref (G.2.1 51)] : List Value).toArray below meth c H locs 0 0 (MQ below (xQ G none σ') ([.ref (G.2.1 51)] : List Value).toArray s 0 0 (xA G)) (F0 m 102 ls [.int k0, .ref (G.2.1 51)]) := by
    intro ls H locs σ l1 l2 k0 hE hl hw hS
    unfold x_Model_takeRequestLine_102 at hE
    refine lv_sipush (v := (400 : Int32)) hx hb d_Model_takeRequestLine_102 (by decide) ?_
    obtain ⟨s105, hC105, hE⟩ := x_bind hE
    refine x_callV hS (W.runV (As := [.int k0, .int (400 : Int32)]) (rest := []) ⟨hx, hb, hml, hown, hu⟩ (t_Model_blame l G σ k0 (400 : Int32) s105 hC105) (cwV 2 hu (uw_V mw_1279 mw_1281 mw_45 mw_70 mw_1282) rfl rfl rfl hd_Model_blame ⟨Nat.le_of_ble_eq_true rfl, Nat.le_of_ble_eq_true rfl⟩) (x_preV hC hS hw (va_recv hK hw (q := (R_Model, T_Model, 33)) (ci := 10) rfl (x_at (by decide) (xcl_51 G σ)))) rfl rfl hl.1 rfl (lv_room (Nat.le_of_ble_eq_true rfl)) d_Model_takeRequestLine_105 ⟨Nat.le_of_ble_eq_true rfl, Nat.le_of_ble_eq_true rfl⟩) (fun H locs hw hS => ?_)
    refine lv_aload_n hx hb d_Model_takeRequestLine_108 rfl (lv_at hl 0 rfl) ?_
    refine va_get (D := G.1) (cl := xCl) (ci := 10) (v := .int (s105.1 51 25)) (C := R_Model) (T := T_Model) (N := 33) hx hb hu fi_Model hown hK hw 51 (x_at (by decide) (xcl_51 G s105)) rfl 25 (by decide) (hu _ mw_1093) (fun _ h9 => h9) rfl d_Model_takeRequestLine_109 ?_
    refine lv_if_le (tgt := 116) hx hb d_Model_takeRequestLine_112 (by decide) (fun hc112 => ?_) (fun hc112 => ?_)
    · rw [if_pos hc112] at hE
      refine lv_aload_n hx hb d_Model_takeRequestLine_116 rfl (lv_at hl 0 rfl) ?_
      refine va_get (D := G.1) (cl := xCl) (ci := 10) (v := .int (s105.1 51 10)) (C := R_Model) (T := T_Model) (N := 33) hx hb hu fi_Model hown hK hw 51 (x_at (by decide) (xcl_51 G s105)) rfl 10 (by decide) (hu _ mw_1078) (fun _ h9 => h9) rfl d_Model_takeRequestLine_117 ?_
      refine lv_iload_n hx hb d_Model_takeRequestLine_120 rfl (lv_at hl 2 rfl) ?_
      refine lv_isub hx hb d_Model_takeRequestLine_121 ?_
      refine lv_bipush (v := (9 : Int32)) hx hb d_Model_takeRequestLine_122 (by decide) ?_
      refine lv_icmp_ne (tgt := 175) hx hb d_Model_takeRequestLine_124 (by decide) (fun hc124 => ?_) (fun hc124 => ?_)
      · rw [if_neg hc124] at hE
        exact jn175 _ _ _ _ _ _ hE (lv_sub hl [0, 1, 2] rfl) hw hS
      · rw [if_pos hc124] at hE
        refine lv_aload_n hx hb d_Model_takeRequestLine_127 rfl (lv_at hl 0 rfl) ?_
        refine va_get (D := G.1) (cl := xCl) (ci := 10) (v := .ref (G.2.1 57)) (C := R_Model) (T := T_Model) (N := 33) hx hb hu fi_Model hown hK hw 51 (x_at (by decide) (xcl_51 G s105)) rfl 11 (by decide) (hu _ mw_1079) (fun _ h9 => h9) rfl d_Model_takeRequestLine_128 ?_
        refine lv_iload_n hx hb d_Model_takeRequestLine_131 rfl (lv_at hl 2 rfl) ?_
        refine lv_bipush (v := (6 : Int32)) hx hb d_Model_takeRequestLine_132 (by decide) ?_
        refine lv_iadd hx hb d_Model_takeRequestLine_134 ?_
        obtain ⟨g135, hE⟩ := x_guard hE
        refine va_iald hx hb hK hw 57 0 (x_at (by decide) (xcl_57 G s105)) rfl g135 d_Model_takeRequestLine_135 ?_
        obtain ⟨r136, hC136, hE⟩ := x_bind hE
        refine x_callR (W.runS (As := [.int (s105.2.1 57 (l2 + (6 : Int32)).toNatClampNeg)]) (rest := []) ⟨hx, hb, hml, hown, hu⟩ (t_Model_isDigit l G s105 (s105.2.1 57 (l2 + (6 : Int32)).toNatClampNeg) r136 hC136) (va_cwS 1 hu (uw_S mw_1197 mw_1198 mw_70 mw_1199) rfl rfl rfl hd_Model_isDigit ⟨Nat.le_of_ble_eq_true rfl, Nat.le_of_ble_eq_true rfl⟩) (x_preS hC hS hw) rfl rfl hl.1 rfl (lv_room (Nat.le_of_ble_eq_true rfl)) d_Model_takeRequestLine_136 ⟨Nat.le_of_ble_eq_true rfl, Nat.le_of_ble_eq_true rfl⟩) ?_
        refine lv_if_eq (tgt := 175) hx hb d_Model_takeRequestLine_139 (by decide) (fun hc139 => ?_) (fun hc139 => ?_)
        · rw [if_pos hc139] at hE
          exact jn175 _ _ _ _ _ _ hE (lv_sub hl [0, 1, 2] rfl) hw hS
        · rw [if_neg hc139] at hE
          refine lv_aload_n hx hb d_Model_takeRequestLine_142 rfl (lv_at hl 0 rfl) ?_
          refine va_get (D := G.1) (cl := xCl) (ci := 10) (v := .ref (G.2.1 57)) (C := R_Model) (T := T_Model) (N := 33) hx hb hu fi_Model hown hK hw 51 (x_at (by decide) (xcl_51 G s105)) rfl 11 (by decide) (hu _ mw_1079) (fun _ h9 => h9) rfl d_Model_takeRequestLine_143 ?_
          refine lv_iload_n hx hb d_Model_takeRequestLine_146 rfl (lv_at hl 2 rfl) ?_
          refine lv_bipush (v := (7 : Int32)) hx hb d_Model_takeRequestLine_147 (by decide) ?_
          refine lv_iadd hx hb d_Model_takeRequestLine_149 ?_
          obtain ⟨g150, hE⟩ := x_guard hE
          refine va_iald hx hb hK hw 57 0 (x_at (by decide) (xcl_57 G s105)) rfl g150 d_Model_takeRequestLine_150 ?_
          refine lv_bipush (v := (46 : Int32)) hx hb d_Model_takeRequestLine_151 (by decide) ?_
          refine lv_icmp_ne (tgt := 175) hx hb d_Model_takeRequestLine_153 (by decide) (fun hc153 => ?_) (fun hc153 => ?_)
          · rw [if_neg hc153] at hE
            exact jn175 _ _ _ _ _ _ hE (lv_sub hl [0, 1, 2] rfl) hw hS
          · rw [if_pos hc153] at hE
            refine lv_aload_n hx hb d_Model_takeRequestLine_156 rfl (lv_at hl 0 rfl) ?_
            refine va_get (D := G.1) (cl := xCl) (ci := 10) (v := .ref (G.2.1 57)) (C := R_Model) (T := T_Model) (N := 33) hx hb hu fi_Model hown hK hw 51 (x_at (by decide) (xcl_51 G s105)) rfl 11 (by decide) (hu _ mw_1079) (fun _ h9 => h9) rfl d_Model_takeRequestLine_157 ?_
            refine lv_iload_n hx hb d_Model_takeRequestLine_160 rfl (lv_at hl 2 rfl) ?_
            refine lv_bipush (v := (8 : Int32)) hx hb d_Model_takeRequestLine_161 (by decide) ?_
            refine lv_iadd hx hb d_Model_takeRequestLine_163 ?_
            obtain ⟨g164, hE⟩ := x_guard hE
            refine va_iald hx hb hK hw 57 0 (x_at (by decide) (xcl_57 G s105)) rfl g164 d_Model_takeRequestLine_164 ?_
            obtain ⟨r165, hC165, hE⟩ := x_bind hE
            refine x_callR (W.runS (As := [.int (s105.2.1 57 (l2 + (8 : Int32)).toNatClampNeg)]) (rest := []) ⟨hx, hb, hml, hown, hu⟩ (t_Model_isDigit l G s105 (s105.2.1 57 (l2 + (8 : Int32)).toNatClampNeg) r165 hC165) (va_cwS 1 hu (uw_S mw_1197 mw_1198 mw_70 mw_1199) rfl rfl rfl hd_Model_isDigit ⟨Nat.le_of_ble_eq_true rfl, Nat.le_of_ble_eq_true rfl⟩) (x_preS hC hS hw) rfl rfl hl.1 rfl (lv_room (Nat.le_of_ble_eq_true rfl)) d_Model_takeRequestLine_165 ⟨Nat.le_of_ble_eq_true rfl, Nat.le_of_ble_eq_true rfl⟩) ?_
            refine lv_if_eq (tgt := 175) hx hb d_Model_takeRequestLine_168 (by decide) (fun hc168 => ?_) (fun hc168 => ?_)
            · rw [if_pos hc168] at hE
              exact jn175 _ _ _ _ _ _ hE (lv_sub hl [0, 1, 2] rfl) hw hS
            · rw [if_neg hc168] at hE
              refine lv_iconst (v := (1 : Int32)) hx hb d_Model_takeRequestLine_171 (by decide) ?_
              refine lv_goto (tgt := 176) hx hb d_Model_takeRequestLine_172 (by decide) ?_
              exact jn176 _ _ _ _ _ _ _ hE (lv_sub hl [0, 1, 2] rfl) hw hS
    · rw [if_neg hc112] at hE
      have e1 := Option.some.inj hE
      exact W.vret hx hb hr (fun t ht hW => ⟨rfl, by rw [ht, ← e1]; exact hw, hS.F ht⟩) hS.2.2 d_Model_takeRequestLine_115
  have jn101 : ∀ (ls : Array Slot) (H : Heap) (locs : List Loc) (σ : St) (l1 : Int32) (l2 : Int32), x_Model_takeRequestLine_101 l1 l2 σ = some σ' → lv_has ls 8 [(0, .ref (G.2.1 51)), (1, .int l1), (2, .int l2)] → xw G σ H → va_S (xA G) s.heap H locs → W p l e (headSpec (ws_Model_takeRequestLine) rm_Model_takeRequestLine).room s m ([.ref (G.2.1 51)] : List Value).toArray below meth c H locs 0 0 (MQ below (xQ G none σ') ([.ref (G.2.1 51)] : List Value).toArray s 0 0 (xA G)) (F0 m 101 ls [.ref (G.2.1 51)]) := by
    intro ls H locs σ l1 l2 hE hl hw hS
    unfold x_Model_takeRequestLine_101 at hE
    refine lv_iconst (v := (0 : Int32)) hx hb d_Model_takeRequestLine_101 (by decide) ?_
    exact jn102 _ _ _ _ _ _ _ hE (lv_sub hl [0, 1, 2] rfl) hw hS
  have jn79 : ∀ (ls : Array Slot) (H : Heap) (locs : List Loc) (σ : St) (l1 : Int32) (l2 : Int32) (k0 : Int32), x_Model_takeRequestLine_79 l1 l2 k0 σ = some σ' → lv_has ls 8 [(0, .ref (G.2.1 51)), (1, .int l1), (2, .int l2)] → xw G σ H → va_S (xA G) s.heap H locs → W p l e (headSpec (ws_Model_takeRequestLine) rm_Model_takeRequestLine).room s m ([.ref (G.2.1 51)] : List Value).toArray below meth c H locs 0 0 (MQ below (xQ G none σ') ([.ref (G.2.1 51)] : List Value).toArray s 0 0 (xA G)) (F0 m 79 ls [.int k0]) := by
    intro ls H locs σ l1 l2 k0 hE hl hw hS
    unfold x_Model_takeRequestLine_79 at hE
    refine lv_istore_n hx hb d_Model_takeRequestLine_79 rfl hl (by decide) rfl (fun ls hl => ?_)
    have hl : lv_has ls 8 [(3, .int k0), (0, .ref (G.2.1 51)), (1, .int l1), (2, .int l2)] := hl
    refine lv_aload_n hx hb d_Model_takeRequestLine_80 rfl (lv_at hl 1 rfl) ?_
    refine lv_iload_n hx hb d_Model_takeRequestLine_81 rfl (lv_at hl 3 rfl) ?_
    refine lv_aload_n hx hb d_Model_takeRequestLine_82 rfl (lv_at hl 1 rfl) ?_
    refine va_get (D := G.1) (cl := xCl) (ci := 10) (v := .int (σ.1 51 10)) (C := R_Model) (T := T_Model) (N := 33) hx hb hu fi_Model hown hK hw 51 (x_at (by decide) (xcl_51 G σ)) rfl 10 (by decide) (hu _ mw_1078) (fun _ h9 => h9) rfl d_Model_takeRequestLine_83 ?_
    refine lv_icmp_ge (tgt := 101) hx hb d_Model_takeRequestLine_86 (by decide) (fun hc86 => ?_) (fun hc86 => ?_)
    · rw [if_pos hc86] at hE
      exact jn101 _ _ _ _ _ _ hE (lv_sub hl [1, 2, 3] rfl) hw hS
    · rw [if_neg hc86] at hE
      refine lv_iload_n hx hb d_Model_takeRequestLine_89 rfl (lv_at hl 0 rfl) ?_
      refine lv_aload_n hx hb d_Model_takeRequestLine_90 rfl (lv_at hl 1 rfl) ?_
      refine va_get (D := G.1) (cl := xCl) (ci := 10) (v := .int (σ.1 51 10)) (C := R_Model) (T := T_Model) (N := 33) hx hb hu fi_Model hown hK hw 51 (x_at (by decide) (xcl_51 G σ)) rfl 10 (by decide) (hu _ mw_1078) (fun _ h9 => h9) rfl d_Model_takeRequestLine_91 ?_
      refine lv_icmp_ne (tgt := 101) hx hb d_Model_takeRequestLine_94 (by decide) (fun hc94 => ?_) (fun hc94 => ?_)
      · rw [if_neg hc94] at hE
        exact jn101 _ _ _ _ _ _ hE (lv_sub hl [1, 2, 3] rfl) hw hS
      · rw [if_pos hc94] at hE
        refine lv_iconst (v := (1 : Int32)) hx hb d_Model_takeRequestLine_97 (by decide) ?_
        refine lv_goto (tgt := 102) hx hb d_Model_takeRequestLine_98 (by decide) ?_
        exact jn102 _ _ _ _ _ _ _ hE (lv_sub hl [1, 2, 3] rfl) hw hS
  have jn57 : ∀ (ls : Array Slot) (H : Heap) (locs : List Loc) (σ : St) (l1 : Int32) (k0 : Int32), x_Model_takeRequestLine_57 l1 k0 σ = some σ' → lv_has ls 8 [(0, .ref (G.2.1 51)), (1, .int l1)] → xw G σ H → va_S (xA G) s.heap H locs → W p l e (headSpec (ws_Model_takeRequestLine) rm_Model_takeRequestLine).room s m ([.ref (G.2.1 51)] : List Value).toArray below meth c H locs 0 0 (MQ below (xQ G none σ') ([.ref (G.2.1 51)] : List Value).toArray s 0 0 (xA G)) (F0 m 57 ls [.int k0]) := by
    intro ls H locs σ l1 k0 hE hl hw hS
    unfold x_Model_takeRequestLine_57 at hE
    refine lv_istore_n hx hb d_Model_takeRequestLine_57 rfl hl (by decide) rfl (fun ls hl => ?_)
    have hl : lv_has ls 8 [(2, .int k0), (0, .ref (G.2.1 51)), (1, .int l1)] := hl
    refine lv_iload_n hx hb d_Model_takeRequestLine_58 rfl (lv_at hl 0 rfl) ?_
    refine lv_aload_n hx hb d_Model_takeRequestLine_59 rfl (lv_at hl 1 rfl) ?_
    refine va_get (D := G.1) (cl := xCl) (ci := 10) (v := .int (σ.1 51 10)) (C := R_Model) (T := T_Model) (N := 33) hx hb hu fi_Model hown hK hw 51 (x_at (by decide) (xcl_51 G σ)) rfl 10 (by decide) (hu _ mw_1078) (fun _ h9 => h9) rfl d_Model_takeRequestLine_60 ?_
    refine lv_icmp_ge (tgt := 78) hx hb d_Model_takeRequestLine_63 (by decide) (fun hc63 => ?_) (fun hc63 => ?_)
    · rw [if_pos hc63] at hE
      refine lv_iconst (v := (0 : Int32)) hx hb d_Model_takeRequestLine_78 (by decide) ?_
      exact jn79 _ _ _ _ _ _ _ hE (lv_sub hl [1, 2, 0] rfl) hw hS
    · rw [if_neg hc63] at hE
      refine lv_aload_n hx hb d_Model_takeRequestLine_66 rfl (lv_at hl 1 rfl) ?_
      refine lv_bipush (v := (32 : Int32)) hx hb d_Model_takeRequestLine_67 (by decide) ?_
      refine lv_iload_n hx hb d_Model_takeRequestLine_69 rfl (lv_at hl 0 rfl) ?_
      refine lv_iconst (v := (1 : Int32)) hx hb d_Model_takeRequestLine_70 (by decide) ?_
      refine lv_iadd hx hb d_Model_takeRequestLine_71 ?_
      obtain ⟨r72, hC72, hE⟩ := x_bind hE
      refine x_callR (W.runV (As := [.int (32 : Int32), .int (k0 + (1 : Int32))]) (rest := []) ⟨hx, hb, hml, hown, hu⟩ (t_Model_find l G σ (32 : Int32) (k0 + (1 : Int32)) r72 hC72) (cwV 2 hu (uw_V mw_1291 mw_1293 mw_48 mw_70 mw_1294) rfl rfl rfl hd_Model_find ⟨Nat.le_of_ble_eq_true rfl, Nat.le_of_ble_eq_true rfl⟩) (x_preV hC hS hw (va_recv hK hw (q := (R_Model, T_Model, 33)) (ci := 10) rfl (x_at (by decide) (xcl_51 G σ)))) rfl rfl hl.1 rfl (lv_room (Nat.le_of_ble_eq_true rfl)) d_Model_takeRequestLine_72 ⟨Nat.le_of_ble_eq_true rfl, Nat.le_of_ble_eq_true rfl⟩) ?_
      refine lv_goto (tgt := 79) hx hb d_Model_takeRequestLine_75 (by decide) ?_
      exact jn79 _ _ _ _ _ _ _ hE (lv_sub hl [1, 2, 0] rfl) hw hS
  have hl := lv_entry ([.ref (G.2.1 51)]) (n := 8) (Nat.le_of_ble_eq_true rfl)
  rw [lg_entry_eq]
  generalize (lg_sl ([.ref (G.2.1 51)]) ++ List.replicate (8 - (lg_sl ([.ref (G.2.1 51)])).length) Slot.unset).toArray = ls at hl ⊢
  have hl : lv_has ls 8 [(0, .ref (G.2.1 51))] := hl
  unfold x_Model_takeRequestLine at hE
  refine lv_aload_n hx hb d_Model_takeRequestLine_0 rfl (lv_at hl 0 rfl) ?_
  refine lv_iconst (v := (0 : Int32)) hx hb d_Model_takeRequestLine_1 (by decide) ?_
  refine va_put (D := G.1) (cl := xCl) (ci := 10) (v := .int (0 : Int32)) (ty := .int) (C := R_Model) (T := T_Model) (N := 33) hx hb hu fi_Model ty_Model tyok_Model nm_Model hown hK hw (x_D hI _) hS 51 (x_at (by decide) (xcl_51 G σ)) rfl 17 (by decide) (hu _ mw_1085) (fun _ h9 => h9) rfl (tyok_Model 17 (by decide)) rfl rfl (Nat.le_of_ble_eq_true rfl) d_Model_takeRequestLine_2 (fun H locs hw _ hS => ?_)
  replace hw := x_setR hw (by decide) rfl
  obtain ⟨s2, e2, hE⟩ := x_letE hE
  rw [← e2] at hw
  refine lv_aload_n hx hb d_Model_takeRequestLine_5 rfl (lv_at hl 0 rfl) ?_
  refine lv_iconst (v := (0 : Int32)) hx hb d_Model_takeRequestLine_6 (by decide) ?_
  refine va_put (D := G.1) (cl := xCl) (ci := 10) (v := .int (0 : Int32)) (ty := .boolean) (C := R_Model) (T := T_Model) (N := 33) hx hb hu fi_Model ty_Model tyok_Model nm_Model hown hK hw (x_D hI _) hS 51 (x_at (by decide) (xcl_51 G s2)) rfl 16 (by decide) (hu _ mw_1084) (fun _ h9 => h9) rfl (tyok_Model 16 (by decide)) rfl rfl (Nat.le_of_ble_eq_true rfl) d_Model_takeRequestLine_7 (fun H locs hw _ hS => ?_)
  replace hw := x_setR hw (by decide) rfl
  obtain ⟨s7, e7, hE⟩ := x_letE hE
  rw [← e7] at hw
  refine lv_aload_n hx hb d_Model_takeRequestLine_10 rfl (lv_at hl 0 rfl) ?_
  refine lv_iconst (v := (0 : Int32)) hx hb d_Model_takeRequestLine_11 (by decide) ?_
  refine va_put (D := G.1) (cl := xCl) (ci := 10) (v := .int (0 : Int32)) (ty := .int) (C := R_Model) (T := T_Model) (N := 33) hx hb hu fi_Model ty_Model tyok_Model nm_Model hown hK hw (x_D hI _) hS 51 (x_at (by decide) (xcl_51 G s7)) rfl 21 (by decide) (hu _ mw_1089) (fun _ h9 => h9) rfl (tyok_Model 21 (by decide)) rfl rfl (Nat.le_of_ble_eq_true rfl) d_Model_takeRequestLine_12 (fun H locs hw _ hS => ?_)
  replace hw := x_setR hw (by decide) rfl
  obtain ⟨s12, e12, hE⟩ := x_letE hE
  rw [← e12] at hw
  refine lv_aload_n hx hb d_Model_takeRequestLine_15 rfl (lv_at hl 0 rfl) ?_
  refine lv_iconst (v := (0 : Int32)) hx hb d_Model_takeRequestLine_16 (by decide) ?_
  refine va_put (D := G.1) (cl := xCl) (ci := 10) (v := .int (0 : Int32)) (ty := .int) (C := R_Model) (T := T_Model) (N := 33) hx hb hu fi_Model ty_Model tyok_Model nm_Model hown hK hw (x_D hI _) hS 51 (x_at (by decide) (xcl_51 G s12)) rfl 22 (by decide) (hu _ mw_1090) (fun _ h9 => h9) rfl (tyok_Model 22 (by decide)) rfl rfl (Nat.le_of_ble_eq_true rfl) d_Model_takeRequestLine_17 (fun H locs hw _ hS => ?_)
  replace hw := x_setR hw (by decide) rfl
  obtain ⟨s17, e17, hE⟩ := x_letE hE
  rw [← e17] at hw
  refine lv_aload_n hx hb d_Model_takeRequestLine_20 rfl (lv_at hl 0 rfl) ?_
  refine lv_iconst (v := (1 : Int32)) hx hb d_Model_takeRequestLine_21 (by decide) ?_
  refine va_put (D := G.1) (cl := xCl) (ci := 10) (v := .int (1 : Int32)) (ty := .int) (C := R_Model) (T := T_Model) (N := 33) hx hb hu fi_Model ty_Model tyok_Model nm_Model hown hK hw (x_D hI _) hS 51 (x_at (by decide) (xcl_51 G s17)) rfl 15 (by decide) (hu _ mw_1083) (fun _ h9 => h9) rfl (tyok_Model 15 (by decide)) rfl rfl (Nat.le_of_ble_eq_true rfl) d_Model_takeRequestLine_22 (fun H locs hw _ hS => ?_)
  replace hw := x_setR hw (by decide) rfl
  obtain ⟨s22, e22, hE⟩ := x_letE hE
  rw [← e22] at hw
  refine lv_aload_n hx hb d_Model_takeRequestLine_25 rfl (lv_at hl 0 rfl) ?_
  refine lv_bipush (v := (32 : Int32)) hx hb d_Model_takeRequestLine_26 (by decide) ?_
  refine lv_iconst (v := (0 : Int32)) hx hb d_Model_takeRequestLine_28 (by decide) ?_
  obtain ⟨r29, hC29, hE⟩ := x_bind hE
  refine x_callR (W.runV (As := [.int (32 : Int32), .int (0 : Int32)]) (rest := []) ⟨hx, hb, hml, hown, hu⟩ (t_Model_find l G s22 (32 : Int32) (0 : Int32) r29 hC29) (cwV 2 hu (uw_V mw_1291 mw_1293 mw_48 mw_70 mw_1294) rfl rfl rfl hd_Model_find ⟨Nat.le_of_ble_eq_true rfl, Nat.le_of_ble_eq_true rfl⟩) (x_preV hC hS hw (va_recv hK hw (q := (R_Model, T_Model, 33)) (ci := 10) rfl (x_at (by decide) (xcl_51 G s22)))) rfl rfl hl.1 rfl (lv_room (Nat.le_of_ble_eq_true rfl)) d_Model_takeRequestLine_29 ⟨Nat.le_of_ble_eq_true rfl, Nat.le_of_ble_eq_true rfl⟩) ?_
  refine lv_istore_n hx hb d_Model_takeRequestLine_32 rfl hl (by decide) rfl (fun ls hl => ?_)
  have hl : lv_has ls 8 [(1, .int r29), (0, .ref (G.2.1 51))] := hl
  refine lv_iload_n hx hb d_Model_takeRequestLine_33 rfl (lv_at hl 0 rfl) ?_
  refine lv_aload_n hx hb d_Model_takeRequestLine_34 rfl (lv_at hl 1 rfl) ?_
  refine va_get (D := G.1) (cl := xCl) (ci := 10) (v := .int (s22.1 51 10)) (C := R_Model) (T := T_Model) (N := 33) hx hb hu fi_Model hown hK hw 51 (x_at (by decide) (xcl_51 G s22)) rfl 10 (by decide) (hu _ mw_1078) (fun _ h9 => h9) rfl d_Model_takeRequestLine_35 ?_
  refine lv_icmp_ge (tgt := 53) hx hb d_Model_takeRequestLine_38 (by decide) (fun hc38 => ?_) (fun hc38 => ?_)
  · rw [if_pos hc38] at hE
    refine lv_aload_n hx hb d_Model_takeRequestLine_53 rfl (lv_at hl 1 rfl) ?_
    refine va_get (D := G.1) (cl := xCl) (ci := 10) (v := .int (s22.1 51 10)) (C := R_Model) (T := T_Model) (N := 33) hx hb hu fi_Model hown hK hw 51 (x_at (by decide) (xcl_51 G s22)) rfl 10 (by decide) (hu _ mw_1078) (fun _ h9 => h9) rfl d_Model_takeRequestLine_54 ?_
    exact jn57 _ _ _ _ _ _ hE (lv_sub hl [1, 0] rfl) hw hS
  · rw [if_neg hc38] at hE
    refine lv_aload_n hx hb d_Model_takeRequestLine_41 rfl (lv_at hl 1 rfl) ?_
    refine lv_bipush (v := (32 : Int32)) hx hb d_Model_takeRequestLine_42 (by decide) ?_
    refine lv_iload_n hx hb d_Model_takeRequestLine_44 rfl (lv_at hl 0 rfl) ?_
    refine lv_iconst (v := (1 : Int32)) hx hb d_Model_takeRequestLine_45 (by decide) ?_
    refine lv_iadd hx hb d_Model_takeRequestLine_46 ?_
    obtain ⟨r47, hC47, hE⟩ := x_bind hE
    refine x_callR (W.runV (As := [.int (32 : Int32), .int (r29 + (1 : Int32))]) (rest := []) ⟨hx, hb, hml, hown, hu⟩ (t_Model_find l G s22 (32 : Int32) (r29 + (1 : Int32)) r47 hC47) (cwV 2 hu (uw_V mw_1291 mw_1293 mw_48 mw_70 mw_1294) rfl rfl rfl hd_Model_find ⟨Nat.le_of_ble_eq_true rfl, Nat.le_of_ble_eq_true rfl⟩) (x_preV hC hS hw (va_recv hK hw (q := (R_Model, T_Model, 33)) (ci := 10) rfl (x_at (by decide) (xcl_51 G s22)))) rfl rfl hl.1 rfl (lv_room (Nat.le_of_ble_eq_true rfl)) d_Model_takeRequestLine_47 ⟨Nat.le_of_ble_eq_true rfl, Nat.le_of_ble_eq_true rfl⟩) ?_
    refine lv_goto (tgt := 57) hx hb d_Model_takeRequestLine_50 (by decide) ?_
    exact jn57 _ _ _ _ _ _ hE (lv_sub hl [1, 0] rfl) hw hS

def y_Model_takeField : MethodName := ⟨"PlainOriginModel", "takeField", "()V"⟩
def ws_Model_takeField : List Cond := Cond.code y_Model_takeField prog_14_method_21_code 3 none :: UW
theorem hd_Model_takeField : y_Model_takeField.cls = R_Model ∧ y_Model_takeField.cls ≠ "java/lang/invoke/MethodHandle" ∧ y_Model_takeField.cls ≠ "java/lang/invoke/VarHandle" ∧ (parseMethodDescriptor y_Model_takeField.desc).map (fun d => d.parameters.length) = some 0 := by decide +kernel
theorem d_Model_takeField_0 : decode prog_14_method_21_code 0 = .ok (.aload_n 0, 1) := by decide +kernel
theorem d_Model_takeField_1 : decode prog_14_method_21_code 1 = .ok (.bipush (58), 2) := by decide +kernel
theorem d_Model_takeField_3 : decode prog_14_method_21_code 3 = .ok (.iconst 0, 1) := by decide +kernel
theorem d_Model_takeField_4 : decode prog_14_method_21_code 4 = .ok (.invokevirtual 231, 3) := by decide +kernel
theorem d_Model_takeField_7 : decode prog_14_method_21_code 7 = .ok (.istore_n 1, 1) := by decide +kernel
theorem d_Model_takeField_8 : decode prog_14_method_21_code 8 = .ok (.aload_n 0, 1) := by decide +kernel
theorem d_Model_takeField_9 : decode prog_14_method_21_code 9 = .ok (.iload_n 1, 1) := by decide +kernel
theorem d_Model_takeField_10 : decode prog_14_method_21_code 10 = .ok (.aload_n 0, 1) := by decide +kernel
theorem d_Model_takeField_11 : decode prog_14_method_21_code 11 = .ok (.getfield 201, 3) := by decide +kernel
theorem d_Model_takeField_14 : decode prog_14_method_21_code 14 = .ok (.if_icmp .ge (15), 3) := by decide +kernel
theorem d_Model_takeField_17 : decode prog_14_method_21_code 17 = .ok (.aload_n 0, 1) := by decide +kernel
theorem d_Model_takeField_18 : decode prog_14_method_21_code 18 = .ok (.iload_n 1, 1) := by decide +kernel
theorem d_Model_takeField_19 : decode prog_14_method_21_code 19 = .ok (.invokevirtual 235, 3) := by decide +kernel
theorem d_Model_takeField_22 : decode prog_14_method_21_code 22 = .ok (.ifCond .eq (7), 3) := by decide +kernel
theorem d_Model_takeField_25 : decode prog_14_method_21_code 25 = .ok (.iconst 1, 1) := by decide +kernel
theorem d_Model_takeField_26 : decode prog_14_method_21_code 26 = .ok (.goto (4), 3) := by decide +kernel
theorem d_Model_takeField_29 : decode prog_14_method_21_code 29 = .ok (.iconst 0, 1) := by decide +kernel
theorem d_Model_takeField_30 : decode prog_14_method_21_code 30 = .ok (.sipush (400), 3) := by decide +kernel
theorem d_Model_takeField_33 : decode prog_14_method_21_code 33 = .ok (.invokevirtual 194, 3) := by decide +kernel
theorem d_Model_takeField_36 : decode prog_14_method_21_code 36 = .ok (.iload_n 1, 1) := by decide +kernel
theorem d_Model_takeField_37 : decode prog_14_method_21_code 37 = .ok (.iconst 1, 1) := by decide +kernel
theorem d_Model_takeField_38 : decode prog_14_method_21_code 38 = .ok (.iadd, 1) := by decide +kernel
theorem d_Model_takeField_39 : decode prog_14_method_21_code 39 = .ok (.istore_n 2, 1) := by decide +kernel
theorem d_Model_takeField_40 : decode prog_14_method_21_code 40 = .ok (.iload_n 2, 1) := by decide +kernel
theorem d_Model_takeField_41 : decode prog_14_method_21_code 41 = .ok (.aload_n 0, 1) := by decide +kernel
theorem d_Model_takeField_42 : decode prog_14_method_21_code 42 = .ok (.getfield 201, 3) := by decide +kernel
theorem d_Model_takeField_45 : decode prog_14_method_21_code 45 = .ok (.if_icmp .ge (25), 3) := by decide +kernel
theorem d_Model_takeField_48 : decode prog_14_method_21_code 48 = .ok (.aload_n 0, 1) := by decide +kernel
theorem d_Model_takeField_49 : decode prog_14_method_21_code 49 = .ok (.aload_n 0, 1) := by decide +kernel
theorem d_Model_takeField_50 : decode prog_14_method_21_code 50 = .ok (.getfield 105, 3) := by decide +kernel
theorem d_Model_takeField_53 : decode prog_14_method_21_code 53 = .ok (.iload_n 2, 1) := by decide +kernel
theorem d_Model_takeField_54 : decode prog_14_method_21_code 54 = .ok (.iaload, 1) := by decide +kernel
theorem d_Model_takeField_55 : decode prog_14_method_21_code 55 = .ok (.invokestatic 248, 3) := by decide +kernel
theorem d_Model_takeField_58 : decode prog_14_method_21_code 58 = .ok (.sipush (400), 3) := by decide +kernel
theorem d_Model_takeField_61 : decode prog_14_method_21_code 61 = .ok (.invokevirtual 194, 3) := by decide +kernel
theorem d_Model_takeField_64 : decode prog_14_method_21_code 64 = .ok (.iinc 2 (1), 3) := by decide +kernel
theorem d_Model_takeField_67 : decode prog_14_method_21_code 67 = .ok (.goto (-27), 3) := by decide +kernel
theorem d_Model_takeField_70 : decode prog_14_method_21_code 70 = .ok (.aload_n 0, 1) := by decide +kernel
theorem d_Model_takeField_71 : decode prog_14_method_21_code 71 = .ok (.aload_n 0, 1) := by decide +kernel
theorem d_Model_takeField_72 : decode prog_14_method_21_code 72 = .ok (.getfield 179, 3) := by decide +kernel
theorem d_Model_takeField_75 : decode prog_14_method_21_code 75 = .ok (.iconst 1, 1) := by decide +kernel
theorem d_Model_takeField_76 : decode prog_14_method_21_code 76 = .ok (.if_icmp .ne (20), 3) := by decide +kernel
theorem d_Model_takeField_79 : decode prog_14_method_21_code 79 = .ok (.aload_n 0, 1) := by decide +kernel
theorem d_Model_takeField_80 : decode prog_14_method_21_code 80 = .ok (.getfield 228, 3) := by decide +kernel
theorem d_Model_takeField_83 : decode prog_14_method_21_code 83 = .ok (.bipush (12), 2) := by decide +kernel
theorem d_Model_takeField_85 : decode prog_14_method_21_code 85 = .ok (.if_icmp .ge (7), 3) := by decide +kernel
theorem d_Model_takeField_88 : decode prog_14_method_21_code 88 = .ok (.iconst 1, 1) := by decide +kernel
theorem d_Model_takeField_89 : decode prog_14_method_21_code 89 = .ok (.goto (20), 3) := by decide +kernel
theorem d_Model_takeField_92 : decode prog_14_method_21_code 92 = .ok (.iconst 0, 1) := by decide +kernel
theorem d_Model_takeField_93 : decode prog_14_method_21_code 93 = .ok (.goto (16), 3) := by decide +kernel
theorem d_Model_takeField_96 : decode prog_14_method_21_code 96 = .ok (.aload_n 0, 1) := by decide +kernel
theorem d_Model_takeField_97 : decode prog_14_method_21_code 97 = .ok (.getfield 251, 3) := by decide +kernel
theorem d_Model_takeField_100 : decode prog_14_method_21_code 100 = .ok (.iconst 4, 1) := by decide +kernel
theorem d_Model_takeField_101 : decode prog_14_method_21_code 101 = .ok (.if_icmp .ge (7), 3) := by decide +kernel
theorem d_Model_takeField_104 : decode prog_14_method_21_code 104 = .ok (.iconst 1, 1) := by decide +kernel
theorem d_Model_takeField_105 : decode prog_14_method_21_code 105 = .ok (.goto (4), 3) := by decide +kernel
theorem d_Model_takeField_108 : decode prog_14_method_21_code 108 = .ok (.iconst 0, 1) := by decide +kernel
theorem d_Model_takeField_109 : decode prog_14_method_21_code 109 = .ok (.sipush (431), 3) := by decide +kernel
theorem d_Model_takeField_112 : decode prog_14_method_21_code 112 = .ok (.invokevirtual 194, 3) := by decide +kernel
theorem d_Model_takeField_115 : decode prog_14_method_21_code 115 = .ok (.aload_n 0, 1) := by decide +kernel
theorem d_Model_takeField_116 : decode prog_14_method_21_code 116 = .ok (.getfield 162, 3) := by decide +kernel
theorem d_Model_takeField_119 : decode prog_14_method_21_code 119 = .ok (.ifCond .le (4), 3) := by decide +kernel
theorem d_Model_takeField_122 : decode prog_14_method_21_code 122 = .ok (.return_, 1) := by decide +kernel
theorem d_Model_takeField_123 : decode prog_14_method_21_code 123 = .ok (.aload_n 0, 1) := by decide +kernel
theorem d_Model_takeField_124 : decode prog_14_method_21_code 124 = .ok (.getfield 179, 3) := by decide +kernel
theorem d_Model_takeField_127 : decode prog_14_method_21_code 127 = .ok (.iconst 5, 1) := by decide +kernel
theorem d_Model_takeField_128 : decode prog_14_method_21_code 128 = .ok (.if_icmp .ne (14), 3) := by decide +kernel
theorem d_Model_takeField_131 : decode prog_14_method_21_code 131 = .ok (.aload_n 0, 1) := by decide +kernel
theorem d_Model_takeField_132 : decode prog_14_method_21_code 132 = .ok (.dup, 1) := by decide +kernel
theorem d_Model_takeField_133 : decode prog_14_method_21_code 133 = .ok (.getfield 251, 3) := by decide +kernel
theorem d_Model_takeField_136 : decode prog_14_method_21_code 136 = .ok (.iconst 1, 1) := by decide +kernel
theorem d_Model_takeField_137 : decode prog_14_method_21_code 137 = .ok (.iadd, 1) := by decide +kernel
theorem d_Model_takeField_138 : decode prog_14_method_21_code 138 = .ok (.putfield 251, 3) := by decide +kernel
theorem d_Model_takeField_141 : decode prog_14_method_21_code 141 = .ok (.return_, 1) := by decide +kernel
theorem d_Model_takeField_142 : decode prog_14_method_21_code 142 = .ok (.aload_n 0, 1) := by decide +kernel
theorem d_Model_takeField_143 : decode prog_14_method_21_code 143 = .ok (.getfield 121, 3) := by decide +kernel
theorem d_Model_takeField_146 : decode prog_14_method_21_code 146 = .ok (.aload_n 0, 1) := by decide +kernel
theorem d_Model_takeField_147 : decode prog_14_method_21_code 147 = .ok (.getfield 228, 3) := by decide +kernel
theorem d_Model_takeField_150 : decode prog_14_method_21_code 150 = .ok (.iload_n 1, 1) := by decide +kernel
theorem d_Model_takeField_151 : decode prog_14_method_21_code 151 = .ok (.iastore, 1) := by decide +kernel
theorem d_Model_takeField_152 : decode prog_14_method_21_code 152 = .ok (.aload_n 0, 1) := by decide +kernel
theorem d_Model_takeField_153 : decode prog_14_method_21_code 153 = .ok (.getfield 124, 3) := by decide +kernel
theorem d_Model_takeField_156 : decode prog_14_method_21_code 156 = .ok (.aload_n 0, 1) := by decide +kernel
theorem d_Model_takeField_157 : decode prog_14_method_21_code 157 = .ok (.getfield 228, 3) := by decide +kernel
theorem d_Model_takeField_160 : decode prog_14_method_21_code 160 = .ok (.aload_n 0, 1) := by decide +kernel
theorem d_Model_takeField_161 : decode prog_14_method_21_code 161 = .ok (.getfield 201, 3) := by decide +kernel
theorem d_Model_takeField_164 : decode prog_14_method_21_code 164 = .ok (.iastore, 1) := by decide +kernel
theorem d_Model_takeField_165 : decode prog_14_method_21_code 165 = .ok (.iconst 0, 1) := by decide +kernel
theorem d_Model_takeField_166 : decode prog_14_method_21_code 166 = .ok (.istore_n 2, 1) := by decide +kernel
theorem d_Model_takeField_167 : decode prog_14_method_21_code 167 = .ok (.iload_n 2, 1) := by decide +kernel
theorem d_Model_takeField_168 : decode prog_14_method_21_code 168 = .ok (.aload_n 0, 1) := by decide +kernel
theorem d_Model_takeField_169 : decode prog_14_method_21_code 169 = .ok (.getfield 201, 3) := by decide +kernel
theorem d_Model_takeField_172 : decode prog_14_method_21_code 172 = .ok (.if_icmp .ge (29), 3) := by decide +kernel
theorem d_Model_takeField_175 : decode prog_14_method_21_code 175 = .ok (.aload_n 0, 1) := by decide +kernel
theorem d_Model_takeField_176 : decode prog_14_method_21_code 176 = .ok (.getfield 118, 3) := by decide +kernel
theorem d_Model_takeField_179 : decode prog_14_method_21_code 179 = .ok (.bipush (80), 2) := by decide +kernel
theorem d_Model_takeField_181 : decode prog_14_method_21_code 181 = .ok (.aload_n 0, 1) := by decide +kernel
theorem d_Model_takeField_182 : decode prog_14_method_21_code 182 = .ok (.getfield 228, 3) := by decide +kernel
theorem d_Model_takeField_185 : decode prog_14_method_21_code 185 = .ok (.imul, 1) := by decide +kernel
theorem d_Model_takeField_186 : decode prog_14_method_21_code 186 = .ok (.iload_n 2, 1) := by decide +kernel
theorem d_Model_takeField_187 : decode prog_14_method_21_code 187 = .ok (.iadd, 1) := by decide +kernel
theorem d_Model_takeField_188 : decode prog_14_method_21_code 188 = .ok (.aload_n 0, 1) := by decide +kernel
theorem d_Model_takeField_189 : decode prog_14_method_21_code 189 = .ok (.getfield 105, 3) := by decide +kernel
theorem d_Model_takeField_192 : decode prog_14_method_21_code 192 = .ok (.iload_n 2, 1) := by decide +kernel
theorem d_Model_takeField_193 : decode prog_14_method_21_code 193 = .ok (.iaload, 1) := by decide +kernel
theorem d_Model_takeField_194 : decode prog_14_method_21_code 194 = .ok (.iastore, 1) := by decide +kernel
theorem d_Model_takeField_195 : decode prog_14_method_21_code 195 = .ok (.iinc 2 (1), 3) := by decide +kernel
theorem d_Model_takeField_198 : decode prog_14_method_21_code 198 = .ok (.goto (-31), 3) := by decide +kernel
theorem d_Model_takeField_201 : decode prog_14_method_21_code 201 = .ok (.aload_n 0, 1) := by decide +kernel
theorem d_Model_takeField_202 : decode prog_14_method_21_code 202 = .ok (.dup, 1) := by decide +kernel
theorem d_Model_takeField_203 : decode prog_14_method_21_code 203 = .ok (.getfield 228, 3) := by decide +kernel
theorem d_Model_takeField_206 : decode prog_14_method_21_code 206 = .ok (.iconst 1, 1) := by decide +kernel
theorem d_Model_takeField_207 : decode prog_14_method_21_code 207 = .ok (.iadd, 1) := by decide +kernel
theorem d_Model_takeField_208 : decode prog_14_method_21_code 208 = .ok (.putfield 228, 3) := by decide +kernel
theorem d_Model_takeField_211 : decode prog_14_method_21_code 211 = .ok (.return_, 1) := by decide +kernel
def x_Model_takeField_167 : Nat → Int32 → St → Option St
  | 0, _, _ => none
  | n + 1, l2, σ => (if (σ.1 51 10) ≤ l2 then (x_let (x_updR σ 51 17 ((σ.1 51 17) + (1 : Int32))) (fun (s208 : St) => some s208)) else (if x_in l2 80 then (if x_in (((80 : Int32) * (σ.1 51 17)) + l2) 960 then (x_let (x_updM σ 59 (((80 : Int32) * (σ.1 51 17)) + l2).toNatClampNeg (σ.2.1 57 l2.toNatClampNeg)) (fun (s194 : St) => (x_let (l2 + (1 : Int32)) (fun (v195 : Int32) => x_Model_takeField_167 n v195 s194)))) else none) else none))
def x_Model_takeField_109 (l1 : Int32) (k0 : Int32) (σ : St) : Option St := (Option.bind (x_Model_blame k0 (431 : Int32) σ) (fun s112 => (if (s112.1 51 25) ≤ 0 then (if (s112.1 51 8) = (5 : Int32) then (x_let (x_updR s112 51 24 ((s112.1 51 24) + (1 : Int32))) (fun (s138 : St) => some s138)) else (if x_in (s112.1 51 17) 12 then (x_let (x_updM s112 60 (s112.1 51 17).toNatClampNeg l1) (fun (s151 : St) => (if x_in (s151.1 51 17) 12 then (x_let (x_updM s151 61 (s151.1 51 17).toNatClampNeg (s151.1 51 10)) (fun (s164 : St) => x_Model_takeField_167 x_fuel (0 : Int32) s164)) else none))) else none)) else some s112)))
def x_Model_takeField_40 : Nat → Int32 → Int32 → St → Option St
  | 0, _, _, _ => none
  | n + 1, l1, l2, σ => (if (σ.1 51 10) ≤ l2 then (if (σ.1 51 8) = (1 : Int32) then (if (12 : Int32) ≤ (σ.1 51 17) then x_Model_takeField_109 l1 (0 : Int32) σ else x_Model_takeField_109 l1 (1 : Int32) σ) else (if (4 : Int32) ≤ (σ.1 51 24) then x_Model_takeField_109 l1 (0 : Int32) σ else x_Model_takeField_109 l1 (1 : Int32) σ)) else (if x_in l2 80 then (Option.bind (x_Model_isShown (σ.2.1 57 l2.toNatClampNeg)) (fun r55 => (Option.bind (x_Model_blame r55 (400 : Int32) σ) (fun s61 => (x_let (l2 + (1 : Int32)) (fun (v64 : Int32) => x_Model_takeField_40 n l1 v64 s61)))))) else none))
def x_Model_takeField_30 (l1 : Int32) (k0 : Int32) (σ : St) : Option St := (Option.bind (x_Model_blame k0 (400 : Int32) σ) (fun s33 => (x_let (l1 + (1 : Int32)) (fun (v39 : Int32) => x_Model_takeField_40 x_fuel l1 v39 s33))))
def x_Model_takeField_29 (l1 : Int32) (σ : St) : Option St := x_Model_takeField_30 l1 (0 : Int32) σ
def x_Model_takeField (σ : St) : Option St := (Option.bind (x_Model_find (58 : Int32) (0 : Int32) σ) (fun r4 => (if (σ.1 51 10) ≤ r4 then x_Model_takeField_29 r4 σ else (Option.bind (x_Model_isToken r4 σ) (fun r19 => (if r19 = 0 then x_Model_takeField_29 r4 σ else x_Model_takeField_30 r4 (1 : Int32) σ))))))
abbrev rm_Model_takeField : Room := { frames := 4, cells := 0, slots := 0, locals := 86 }
set_option maxHeartbeats 4000000 in
set_option maxRecDepth 100000 in
theorem t_Model_takeField (l : Launch) (G : xG) (σ : St) (σ' : St) (hE : x_Model_takeField σ = some σ') : Met l y_Model_takeField (ws_Model_takeField) rm_Model_takeField (xP G σ [.ref (G.2.1 51)]) (xQ G none σ') 0 0 (xA G) := by
  refine Met.ofW (cc := prog_14_method_21_code) (maxL := 3) (ret := none) (by decide) rfl ?_
  intro p e s m args below meth c s₁ B hml hv
  obtain ⟨rfl, hw, hC⟩ := hv
  have hx := B.exec
  have hb := B.bytes
  have hr := B.returns
  have hu : ∀ w ∈ UW, w.before _ s = true := fun w h => atoms_spec B.pre w (List.mem_cons_of_mem _ h)
  have hown : s.vm.findClass R_Model = some m.cls := findClass_of_methodNamed B.named
  have hlocks := B.notSynchronized
  have hK := hC.1
  have hI := hC.2.1
  have hG := hC.2.2.1
  have hN := hC.2.2.2
  have hS : va_S (xA G) s.heap s.heap [] := va_S.rf
  have jn167 : ∀ (n : Nat) (ls : Array Slot) (H : Heap) (locs : List Loc) (σ : St) (l2 : Int32), x_Model_takeField_167 n l2 σ = some σ' → lv_has ls 3 [(0, .ref (G.2.1 51)), (2, .int l2)] → xw G σ H → va_S (xA G) s.heap H locs → W p l e (headSpec (ws_Model_takeField) rm_Model_takeField).room s m ([.ref (G.2.1 51)] : List Value).toArray below meth c H locs 0 0 (MQ below (xQ G none σ') ([.ref (G.2.1 51)] : List Value).toArray s 0 0 (xA G)) (F0 m 167 ls []) := by
    intro n
    induction n with
    | zero => intro ls H locs σ l2 hE; rw [x_Model_takeField_167] at hE; cases hE
    | succ n ih =>
      intro ls H locs σ l2 hE hl hw hS
      rw [x_Model_takeField_167] at hE
      refine lv_iload_n hx hb d_Model_takeField_167 rfl (lv_at hl 1 rfl) ?_
      refine lv_aload_n hx hb d_Model_takeField_168 rfl (lv_at hl 0 rfl) ?_
      refine va_get (D := G.1) (cl := xCl) (ci := 10) (v := .int (σ.1 51 10)) (C := R_Model) (T := T_Model) (N := 33) hx hb hu fi_Model hown hK hw 51 (x_at (by decide) (xcl_51 G σ)) rfl 10 (by decide) (hu _ mw_1078) (fun _ h9 => h9) rfl d_Model_takeField_169 ?_
      refine lv_icmp_ge (tgt := 201) hx hb d_Model_takeField_172 (by decide) (fun hc172 => ?_) (fun hc172 => ?_)
      · rw [if_pos hc172] at hE
        refine lv_aload_n hx hb d_Model_takeField_201 rfl (lv_at hl 0 rfl) ?_
        refine lv_dup hx hb d_Model_takeField_202 rfl ?_
        refine va_get (D := G.1) (cl := xCl) (ci := 10) (v := .int (σ.1 51 17)) (C := R_Model) (T := T_Model) (N := 33) hx hb hu fi_Model hown hK hw 51 (x_at (by decide) (xcl_51 G σ)) rfl 17 (by decide) (hu _ mw_1085) (fun _ h9 => h9) rfl d_Model_takeField_203 ?_
        refine lv_iconst (v := (1 : Int32)) hx hb d_Model_takeField_206 (by decide) ?_
        refine lv_iadd hx hb d_Model_takeField_207 ?_
        refine va_put (D := G.1) (cl := xCl) (ci := 10) (v := .int ((σ.1 51 17) + (1 : Int32))) (ty := .int) (C := R_Model) (T := T_Model) (N := 33) hx hb hu fi_Model ty_Model tyok_Model nm_Model hown hK hw (x_D hI _) hS 51 (x_at (by decide) (xcl_51 G σ)) rfl 17 (by decide) (hu _ mw_1085) (fun _ h9 => h9) rfl (tyok_Model 17 (by decide)) rfl rfl (Nat.le_of_ble_eq_true rfl) d_Model_takeField_208 (fun H locs hw _ hS => ?_)
        replace hw := x_setR hw (by decide) rfl
        obtain ⟨s208, e208, hE⟩ := x_letE hE
        rw [← e208] at hw
        have e1 := Option.some.inj hE
        exact W.vret hx hb hr (fun t ht hW => ⟨rfl, by rw [ht, ← e1]; exact hw, hS.F ht⟩) hS.2.2 d_Model_takeField_211
      · rw [if_neg hc172] at hE
        refine lv_aload_n hx hb d_Model_takeField_175 rfl (lv_at hl 0 rfl) ?_
        refine va_get (D := G.1) (cl := xCl) (ci := 10) (v := .ref (G.2.1 59)) (C := R_Model) (T := T_Model) (N := 33) hx hb hu fi_Model hown hK hw 51 (x_at (by decide) (xcl_51 G σ)) rfl 18 (by decide) (hu _ mw_1086) (fun _ h9 => h9) rfl d_Model_takeField_176 ?_
        refine lv_bipush (v := (80 : Int32)) hx hb d_Model_takeField_179 (by decide) ?_
        refine lv_aload_n hx hb d_Model_takeField_181 rfl (lv_at hl 0 rfl) ?_
        refine va_get (D := G.1) (cl := xCl) (ci := 10) (v := .int (σ.1 51 17)) (C := R_Model) (T := T_Model) (N := 33) hx hb hu fi_Model hown hK hw 51 (x_at (by decide) (xcl_51 G σ)) rfl 17 (by decide) (hu _ mw_1085) (fun _ h9 => h9) rfl d_Model_takeField_182 ?_
        refine lv_imul hx hb d_Model_takeField_185 ?_
        refine lv_iload_n hx hb d_Model_takeField_186 rfl (lv_at hl 1 rfl) ?_
        refine lv_iadd hx hb d_Model_takeField_187 ?_
        refine lv_aload_n hx hb d_Model_takeField_188 rfl (lv_at hl 0 rfl) ?_
        refine va_get (D := G.1) (cl := xCl) (ci := 10) (v := .ref (G.2.1 57)) (C := R_Model) (T := T_Model) (N := 33) hx hb hu fi_Model hown hK hw 51 (x_at (by decide) (xcl_51 G σ)) rfl 11 (by decide) (hu _ mw_1079) (fun _ h9 => h9) rfl d_Model_takeField_189 ?_
        refine lv_iload_n hx hb d_Model_takeField_192 rfl (lv_at hl 1 rfl) ?_
        obtain ⟨g193, hE⟩ := x_guard hE
        refine va_iald hx hb hK hw 57 0 (x_at (by decide) (xcl_57 G σ)) rfl g193 d_Model_takeField_193 ?_
        obtain ⟨g194, hE⟩ := x_guard hE
        refine va_iast hx hb hK hw (x_D hI _) hS 59 0 (x_at (by decide) (xcl_59 G σ)) rfl g194 d_Model_takeField_194 (fun H locs hw _ hS => ?_)
        replace hw := x_setM hw (by decide) (by decide)
        obtain ⟨s194, e194, hE⟩ := x_letE hE
        rw [← e194] at hw
        obtain ⟨v195, e195, hE⟩ := x_letE hE
        refine lv_iinc hx hb d_Model_takeField_195 hl (k := 1) rfl (x_inc v195 e195 (by decide)) (by decide) rfl (fun ls hl => ?_)
        have hl : lv_has ls 3 [(2, .int v195), (0, .ref (G.2.1 51))] := hl
        refine lv_goto (tgt := 167) hx hb d_Model_takeField_198 (by decide) ?_
        exact ih _ _ _ _ _ hE (lv_sub hl [1, 0] rfl) hw hS
  have jn109 : ∀ (ls : Array Slot) (H : Heap) (locs : List Loc) (σ : St) (l1 : Int32) (k0 : Int32), x_Model_takeField_109 l1 k0 σ = some σ' → lv_has ls 3 [(0, .ref (G.2.1 51)), (1, .int l1)] → xw G σ H → va_S (xA G) s.heap H locs → W p l e (headSpec (ws_Model_takeField) rm_Model_takeField).room s m ([.ref (G.2.1 51)] : List Value).toArray below meth c H locs 0 0 (MQ below (xQ G none σ') ([.ref (G.2.1 51)] : List Value).toArray s 0 0 (xA G)) (F0 m 109 ls [.int k0, .ref (G.2.1 51)]) := by
    intro ls H locs σ l1 k0 hE hl hw hS
    unfold x_Model_takeField_109 at hE
    refine lv_sipush (v := (431 : Int32)) hx hb d_Model_takeField_109 (by decide) ?_
    obtain ⟨s112, hC112, hE⟩ := x_bind hE
    refine x_callV hS (W.runV (As := [.int k0, .int (431 : Int32)]) (rest := []) ⟨hx, hb, hml, hown, hu⟩ (t_Model_blame l G σ k0 (431 : Int32) s112 hC112) (cwV 2 hu (uw_V mw_1279 mw_1281 mw_45 mw_70 mw_1282) rfl rfl rfl hd_Model_blame ⟨Nat.le_of_ble_eq_true rfl, Nat.le_of_ble_eq_true rfl⟩) (x_preV hC hS hw (va_recv hK hw (q := (R_Model, T_Model, 33)) (ci := 10) rfl (x_at (by decide) (xcl_51 G σ)))) rfl rfl hl.1 rfl (lv_room (Nat.le_of_ble_eq_true rfl)) d_Model_takeField_112 ⟨Nat.le_of_ble_eq_true rfl, Nat.le_of_ble_eq_true rfl⟩) (fun H locs hw hS => ?_)
    refine lv_aload_n hx hb d_Model_takeField_115 rfl (lv_at hl 0 rfl) ?_
    refine va_get (D := G.1) (cl := xCl) (ci := 10) (v := .int (s112.1 51 25)) (C := R_Model) (T := T_Model) (N := 33) hx hb hu fi_Model hown hK hw 51 (x_at (by decide) (xcl_51 G s112)) rfl 25 (by decide) (hu _ mw_1093) (fun _ h9 => h9) rfl d_Model_takeField_116 ?_
    refine lv_if_le (tgt := 123) hx hb d_Model_takeField_119 (by decide) (fun hc119 => ?_) (fun hc119 => ?_)
    · rw [if_pos hc119] at hE
      refine lv_aload_n hx hb d_Model_takeField_123 rfl (lv_at hl 0 rfl) ?_
      refine va_get (D := G.1) (cl := xCl) (ci := 10) (v := .int (s112.1 51 8)) (C := R_Model) (T := T_Model) (N := 33) hx hb hu fi_Model hown hK hw 51 (x_at (by decide) (xcl_51 G s112)) rfl 8 (by decide) (hu _ mw_1076) (fun _ h9 => h9) rfl d_Model_takeField_124 ?_
      refine lv_iconst (v := (5 : Int32)) hx hb d_Model_takeField_127 (by decide) ?_
      refine lv_icmp_ne (tgt := 142) hx hb d_Model_takeField_128 (by decide) (fun hc128 => ?_) (fun hc128 => ?_)
      · rw [if_neg hc128] at hE
        refine lv_aload_n hx hb d_Model_takeField_142 rfl (lv_at hl 0 rfl) ?_
        refine va_get (D := G.1) (cl := xCl) (ci := 10) (v := .ref (G.2.1 60)) (C := R_Model) (T := T_Model) (N := 33) hx hb hu fi_Model hown hK hw 51 (x_at (by decide) (xcl_51 G s112)) rfl 19 (by decide) (hu _ mw_1087) (fun _ h9 => h9) rfl d_Model_takeField_143 ?_
        refine lv_aload_n hx hb d_Model_takeField_146 rfl (lv_at hl 0 rfl) ?_
        refine va_get (D := G.1) (cl := xCl) (ci := 10) (v := .int (s112.1 51 17)) (C := R_Model) (T := T_Model) (N := 33) hx hb hu fi_Model hown hK hw 51 (x_at (by decide) (xcl_51 G s112)) rfl 17 (by decide) (hu _ mw_1085) (fun _ h9 => h9) rfl d_Model_takeField_147 ?_
        refine lv_iload_n hx hb d_Model_takeField_150 rfl (lv_at hl 1 rfl) ?_
        obtain ⟨g151, hE⟩ := x_guard hE
        refine va_iast hx hb hK hw (x_D hI _) hS 60 0 (x_at (by decide) (xcl_60 G s112)) rfl g151 d_Model_takeField_151 (fun H locs hw _ hS => ?_)
        replace hw := x_setM hw (by decide) (by decide)
        obtain ⟨s151, e151, hE⟩ := x_letE hE
        rw [← e151] at hw
        refine lv_aload_n hx hb d_Model_takeField_152 rfl (lv_at hl 0 rfl) ?_
        refine va_get (D := G.1) (cl := xCl) (ci := 10) (v := .ref (G.2.1 61)) (C := R_Model) (T := T_Model) (N := 33) hx hb hu fi_Model hown hK hw 51 (x_at (by decide) (xcl_51 G s151)) rfl 20 (by decide) (hu _ mw_1088) (fun _ h9 => h9) rfl d_Model_takeField_153 ?_
        refine lv_aload_n hx hb d_Model_takeField_156 rfl (lv_at hl 0 rfl) ?_
        refine va_get (D := G.1) (cl := xCl) (ci := 10) (v := .int (s151.1 51 17)) (C := R_Model) (T := T_Model) (N := 33) hx hb hu fi_Model hown hK hw 51 (x_at (by decide) (xcl_51 G s151)) rfl 17 (by decide) (hu _ mw_1085) (fun _ h9 => h9) rfl d_Model_takeField_157 ?_
        refine lv_aload_n hx hb d_Model_takeField_160 rfl (lv_at hl 0 rfl) ?_
        refine va_get (D := G.1) (cl := xCl) (ci := 10) (v := .int (s151.1 51 10)) (C := R_Model) (T := T_Model) (N := 33) hx hb hu fi_Model hown hK hw 51 (x_at (by decide) (xcl_51 G s151)) rfl 10 (by decide) (hu _ mw_1078) (fun _ h9 => h9) rfl d_Model_takeField_161 ?_
        obtain ⟨g164, hE⟩ := x_guard hE
        refine va_iast hx hb hK hw (x_D hI _) hS 61 0 (x_at (by decide) (xcl_61 G s151)) rfl g164 d_Model_takeField_164 (fun H locs hw _ hS => ?_)
        replace hw := x_setM hw (by decide) (by decide)
        obtain ⟨s164, e164, hE⟩ := x_letE hE
        rw [← e164] at hw
        refine lv_iconst (v := (0 : Int32)) hx hb d_Model_takeField_165 (by decide) ?_
        refine lv_istore_n hx hb d_Model_takeField_166 rfl hl (by decide) rfl (fun ls hl => ?_)
        have hl : lv_has ls 3 [(2, .int (0 : Int32)), (0, .ref (G.2.1 51)), (1, .int l1)] := hl
        exact jn167 x_fuel _ _ _ _ _ hE (lv_sub hl [1, 0] rfl) hw hS
      · rw [if_pos hc128] at hE
        refine lv_aload_n hx hb d_Model_takeField_131 rfl (lv_at hl 0 rfl) ?_
        refine lv_dup hx hb d_Model_takeField_132 rfl ?_
        refine va_get (D := G.1) (cl := xCl) (ci := 10) (v := .int (s112.1 51 24)) (C := R_Model) (T := T_Model) (N := 33) hx hb hu fi_Model hown hK hw 51 (x_at (by decide) (xcl_51 G s112)) rfl 24 (by decide) (hu _ mw_1092) (fun _ h9 => h9) rfl d_Model_takeField_133 ?_
        refine lv_iconst (v := (1 : Int32)) hx hb d_Model_takeField_136 (by decide) ?_
        refine lv_iadd hx hb d_Model_takeField_137 ?_
        refine va_put (D := G.1) (cl := xCl) (ci := 10) (v := .int ((s112.1 51 24) + (1 : Int32))) (ty := .int) (C := R_Model) (T := T_Model) (N := 33) hx hb hu fi_Model ty_Model tyok_Model nm_Model hown hK hw (x_D hI _) hS 51 (x_at (by decide) (xcl_51 G s112)) rfl 24 (by decide) (hu _ mw_1092) (fun _ h9 => h9) rfl (tyok_Model 24 (by decide)) rfl rfl (Nat.le_of_ble_eq_true rfl) d_Model_takeField_138 (fun H locs hw _ hS => ?_)
        replace hw := x_setR hw (by decide) rfl
        obtain ⟨s138, e138, hE⟩ := x_letE hE
        rw [← e138] at hw
        have e1 := Option.some.inj hE
        exact W.vret hx hb hr (fun t ht hW => ⟨rfl, by rw [ht, ← e1]; exact hw, hS.F ht⟩) hS.2.2 d_Model_takeField_141
    · rw [if_neg hc119] at hE
      have e1 := Option.some.inj hE
      exact W.vret hx hb hr (fun t ht hW => ⟨rfl, by rw [ht, ← e1]; exact hw, hS.F ht⟩) hS.2.2 d_Model_takeField_122
  have jn40 : ∀ (n : Nat) (ls : Array Slot) (H : Heap) (locs : List Loc) (σ : St) (l1 : Int32) (l2 : Int32), x_Model_takeField_40 n l1 l2 σ = some σ' → lv_has ls 3 [(0, .ref (G.2.1 51)), (1, .int l1), (2, .int l2)] → xw G σ H → va_S (xA G) s.heap H locs → W p l e (headSpec (ws_Model_takeField) rm_Model_takeField).room s m ([.ref (G.2.1 51)] : List Value).toArray below meth c H locs 0 0 (MQ below (xQ G none σ') ([.ref (G.2.1 51)] : List Value).toArray s 0 0 (xA G)) (F0 m 40 ls []) := by
    intro n
    induction n with
    | zero => intro ls H locs σ l1 l2 hE; rw [x_Model_takeField_40] at hE; cases hE
    | succ n ih =>
      intro ls H locs σ l1 l2 hE hl hw hS
      rw [x_Model_takeField_40] at hE
      refine lv_iload_n hx hb d_Model_takeField_40 rfl (lv_at hl 2 rfl) ?_
      refine lv_aload_n hx hb d_Model_takeField_41 rfl (lv_at hl 0 rfl) ?_
      refine va_get (D := G.1) (cl := xCl) (ci := 10) (v := .int (σ.1 51 10)) (C := R_Model) (T := T_Model) (N := 33) hx hb hu fi_Model hown hK hw 51 (x_at (by decide) (xcl_51 G σ)) rfl 10 (by decide) (hu _ mw_1078) (fun _ h9 => h9) rfl d_Model_takeField_42 ?_
      refine lv_icmp_ge (tgt := 70) hx hb d_Model_takeField_45 (by decide) (fun hc45 => ?_) (fun hc45 => ?_)
      · rw [if_pos hc45] at hE
        refine lv_aload_n hx hb d_Model_takeField_70 rfl (lv_at hl 0 rfl) ?_
        refine lv_aload_n hx hb d_Model_takeField_71 rfl (lv_at hl 0 rfl) ?_
        refine va_get (D := G.1) (cl := xCl) (ci := 10) (v := .int (σ.1 51 8)) (C := R_Model) (T := T_Model) (N := 33) hx hb hu fi_Model hown hK hw 51 (x_at (by decide) (xcl_51 G σ)) rfl 8 (by decide) (hu _ mw_1076) (fun _ h9 => h9) rfl d_Model_takeField_72 ?_
        refine lv_iconst (v := (1 : Int32)) hx hb d_Model_takeField_75 (by decide) ?_
        refine lv_icmp_ne (tgt := 96) hx hb d_Model_takeField_76 (by decide) (fun hc76 => ?_) (fun hc76 => ?_)
        · rw [if_neg hc76] at hE
          refine lv_aload_n hx hb d_Model_takeField_96 rfl (lv_at hl 0 rfl) ?_
          refine va_get (D := G.1) (cl := xCl) (ci := 10) (v := .int (σ.1 51 24)) (C := R_Model) (T := T_Model) (N := 33) hx hb hu fi_Model hown hK hw 51 (x_at (by decide) (xcl_51 G σ)) rfl 24 (by decide) (hu _ mw_1092) (fun _ h9 => h9) rfl d_Model_takeField_97 ?_
          refine lv_iconst (v := (4 : Int32)) hx hb d_Model_takeField_100 (by decide) ?_
          refine lv_icmp_ge (tgt := 108) hx hb d_Model_takeField_101 (by decide) (fun hc101 => ?_) (fun hc101 => ?_)
          · rw [if_pos hc101] at hE
            refine lv_iconst (v := (0 : Int32)) hx hb d_Model_takeField_108 (by decide) ?_
            exact jn109 _ _ _ _ _ _ hE (lv_sub hl [0, 1] rfl) hw hS
          · rw [if_neg hc101] at hE
            refine lv_iconst (v := (1 : Int32)) hx hb d_Model_takeField_104 (by decide) ?_
            refine lv_goto (tgt := 109) hx hb d_Model_takeField_105 (by decide) ?_
            exact jn109 _ _ _ _ _ _ hE (lv_sub hl [0, 1] rfl) hw hS
        · rw [if_pos hc76] at hE
          refine lv_aload_n hx hb d_Model_takeField_79 rfl (lv_at hl 0 rfl) ?_
          refine va_get (D := G.1) (cl := xCl) (ci := 10) (v := .int (σ.1 51 17)) (C := R_Model) (T := T_Model) (N := 33) hx hb hu fi_Model hown hK hw 51 (x_at (by decide) (xcl_51 G σ)) rfl 17 (by decide) (hu _ mw_1085) (fun _ h9 => h9) rfl d_Model_takeField_80 ?_
          refine lv_bipush (v := (12 : Int32)) hx hb d_Model_takeField_83 (by decide) ?_
          refine lv_icmp_ge (tgt := 92) hx hb d_Model_takeField_85 (by decide) (fun hc85 => ?_) (fun hc85 => ?_)
          · rw [if_pos hc85] at hE
            refine lv_iconst (v := (0 : Int32)) hx hb d_Model_takeField_92 (by decide) ?_
            refine lv_goto (tgt := 109) hx hb d_Model_takeField_93 (by decide) ?_
            exact jn109 _ _ _ _ _ _ hE (lv_sub hl [0, 1] rfl) hw hS
          · rw [if_neg hc85] at hE
            refine lv_iconst (v := (1 : Int32)) hx hb d_Model_takeField_88 (by decide) ?_
            refine lv_goto (tgt := 109) hx hb d_Model_takeField_89 (by decide) ?_
            exact jn109 _ _ _ _ _ _ hE (lv_sub hl [0, 1] rfl) hw hS
      · rw [if_neg hc45] at hE
        refine lv_aload_n hx hb d_Model_takeField_48 rfl (lv_at hl 0 rfl) ?_
        refine lv_aload_n hx hb d_Model_takeField_49 rfl (lv_at hl 0 rfl) ?_
        refine va_get (D := G.1) (cl := xCl) (ci := 10) (v := .ref (G.2.1 57)) (C := R_Model) (T := T_Model) (N := 33) hx hb hu fi_Model hown hK hw 51 (x_at (by decide) (xcl_51 G σ)) rfl 11 (by decide) (hu _ mw_1079) (fun _ h9 => h9) rfl d_Model_takeField_50 ?_
        refine lv_iload_n hx hb d_Model_takeField_53 rfl (lv_at hl 2 rfl) ?_
        obtain ⟨g54, hE⟩ := x_guard hE
        refine va_iald hx hb hK hw 57 0 (x_at (by decide) (xcl_57 G σ)) rfl g54 d_Model_takeField_54 ?_
        obtain ⟨r55, hC55, hE⟩ := x_bind hE
        refine x_callR (W.runS (As := [.int (σ.2.1 57 l2.toNatClampNeg)]) (rest := [.ref (G.2.1 51)]) ⟨hx, hb, hml, hown, hu⟩ (t_Model_isShown l G σ (σ.2.1 57 l2.toNatClampNeg) r55 hC55) (va_cwS 1 hu (uw_S mw_1320 mw_1321 mw_70 mw_1322) rfl rfl rfl hd_Model_isShown ⟨Nat.le_of_ble_eq_true rfl, Nat.le_of_ble_eq_true rfl⟩) (x_preS hC hS hw) rfl rfl hl.1 rfl (lv_room (Nat.le_of_ble_eq_true rfl)) d_Model_takeField_55 ⟨Nat.le_of_ble_eq_true rfl, Nat.le_of_ble_eq_true rfl⟩) ?_
        refine lv_sipush (v := (400 : Int32)) hx hb d_Model_takeField_58 (by decide) ?_
        obtain ⟨s61, hC61, hE⟩ := x_bind hE
        refine x_callV hS (W.runV (As := [.int r55, .int (400 : Int32)]) (rest := []) ⟨hx, hb, hml, hown, hu⟩ (t_Model_blame l G σ r55 (400 : Int32) s61 hC61) (cwV 2 hu (uw_V mw_1279 mw_1281 mw_45 mw_70 mw_1282) rfl rfl rfl hd_Model_blame ⟨Nat.le_of_ble_eq_true rfl, Nat.le_of_ble_eq_true rfl⟩) (x_preV hC hS hw (va_recv hK hw (q := (R_Model, T_Model, 33)) (ci := 10) rfl (x_at (by decide) (xcl_51 G σ)))) rfl rfl hl.1 rfl (lv_room (Nat.le_of_ble_eq_true rfl)) d_Model_takeField_61 ⟨Nat.le_of_ble_eq_true rfl, Nat.le_of_ble_eq_true rfl⟩) (fun H locs hw hS => ?_)
        obtain ⟨v64, e64, hE⟩ := x_letE hE
        refine lv_iinc hx hb d_Model_takeField_64 hl (k := 2) rfl (x_inc v64 e64 (by decide)) (by decide) rfl (fun ls hl => ?_)
        have hl : lv_has ls 3 [(2, .int v64), (0, .ref (G.2.1 51)), (1, .int l1)] := hl
        refine lv_goto (tgt := 40) hx hb d_Model_takeField_67 (by decide) ?_
        exact ih _ _ _ _ _ _ hE (lv_sub hl [1, 2, 0] rfl) hw hS
  have jn30 : ∀ (ls : Array Slot) (H : Heap) (locs : List Loc) (σ : St) (l1 : Int32) (k0 : Int32), x_Model_takeField_30 l1 k0 σ = some σ' → lv_has ls 3 [(0, .ref (G.2.1 51)), (1, .int l1)] → xw G σ H → va_S (xA G) s.heap H locs → W p l e (headSpec (ws_Model_takeField) rm_Model_takeField).room s m ([.ref (G.2.1 51)] : List Value).toArray below meth c H locs 0 0 (MQ below (xQ G none σ') ([.ref (G.2.1 51)] : List Value).toArray s 0 0 (xA G)) (F0 m 30 ls [.int k0, .ref (G.2.1 51)]) := by
    intro ls H locs σ l1 k0 hE hl hw hS
    unfold x_Model_takeField_30 at hE
    refine lv_sipush (v := (400 : Int32)) hx hb d_Model_takeField_30 (by decide) ?_
    obtain ⟨s33, hC33, hE⟩ := x_bind hE
    refine x_callV hS (W.runV (As := [.int k0, .int (400 : Int32)]) (rest := []) ⟨hx, hb, hml, hown, hu⟩ (t_Model_blame l G σ k0 (400 : Int32) s33 hC33) (cwV 2 hu (uw_V mw_1279 mw_1281 mw_45 mw_70 mw_1282) rfl rfl rfl hd_Model_blame ⟨Nat.le_of_ble_eq_true rfl, Nat.le_of_ble_eq_true rfl⟩) (x_preV hC hS hw (va_recv hK hw (q := (R_Model, T_Model, 33)) (ci := 10) rfl (x_at (by decide) (xcl_51 G σ)))) rfl rfl hl.1 rfl (lv_room (Nat.le_of_ble_eq_true rfl)) d_Model_takeField_33 ⟨Nat.le_of_ble_eq_true rfl, Nat.le_of_ble_eq_true rfl⟩) (fun H locs hw hS => ?_)
    refine lv_iload_n hx hb d_Model_takeField_36 rfl (lv_at hl 1 rfl) ?_
    refine lv_iconst (v := (1 : Int32)) hx hb d_Model_takeField_37 (by decide) ?_
    refine lv_iadd hx hb d_Model_takeField_38 ?_
    refine lv_topi (fun v39 e39 => ?_)
    replace hE := x_letT e39 hE
    refine lv_istore_n hx hb d_Model_takeField_39 rfl hl (by decide) rfl (fun ls hl => ?_)
    have hl : lv_has ls 3 [(2, .int v39), (0, .ref (G.2.1 51)), (1, .int l1)] := hl
    exact jn40 x_fuel _ _ _ _ _ _ hE (lv_sub hl [1, 2, 0] rfl) hw hS
  have jn29 : ∀ (ls : Array Slot) (H : Heap) (locs : List Loc) (σ : St) (l1 : Int32), x_Model_takeField_29 l1 σ = some σ' → lv_has ls 3 [(0, .ref (G.2.1 51)), (1, .int l1)] → xw G σ H → va_S (xA G) s.heap H locs → W p l e (headSpec (ws_Model_takeField) rm_Model_takeField).room s m ([.ref (G.2.1 51)] : List Value).toArray below meth c H locs 0 0 (MQ below (xQ G none σ') ([.ref (G.2.1 51)] : List Value).toArray s 0 0 (xA G)) (F0 m 29 ls [.ref (G.2.1 51)]) := by
    intro ls H locs σ l1 hE hl hw hS
    unfold x_Model_takeField_29 at hE
    refine lv_iconst (v := (0 : Int32)) hx hb d_Model_takeField_29 (by decide) ?_
    exact jn30 _ _ _ _ _ _ hE (lv_sub hl [0, 1] rfl) hw hS
  have hl := lv_entry ([.ref (G.2.1 51)]) (n := 3) (Nat.le_of_ble_eq_true rfl)
  rw [lg_entry_eq]
  generalize (lg_sl ([.ref (G.2.1 51)]) ++ List.replicate (3 - (lg_sl ([.ref (G.2.1 51)])).length) Slot.unset).toArray = ls at hl ⊢
  have hl : lv_has ls 3 [(0, .ref (G.2.1 51))] := hl
  unfold x_Model_takeField at hE
  refine lv_aload_n hx hb d_Model_takeField_0 rfl (lv_at hl 0 rfl) ?_
  refine lv_bipush (v := (58 : Int32)) hx hb d_Model_takeField_1 (by decide) ?_
  refine lv_iconst (v := (0 : Int32)) hx hb d_Model_takeField_3 (by decide) ?_
  obtain ⟨r4, hC4, hE⟩ := x_bind hE
  refine x_callR (W.runV (As := [.int (58 : Int32), .int (0 : Int32)]) (rest := []) ⟨hx, hb, hml, hown, hu⟩ (t_Model_find l G σ (58 : Int32) (0 : Int32) r4 hC4) (cwV 2 hu (uw_V mw_1291 mw_1293 mw_48 mw_70 mw_1294) rfl rfl rfl hd_Model_find ⟨Nat.le_of_ble_eq_true rfl, Nat.le_of_ble_eq_true rfl⟩) (x_preV hC hS hw (va_recv hK hw (q := (R_Model, T_Model, 33)) (ci := 10) rfl (x_at (by decide) (xcl_51 G σ)))) rfl rfl hl.1 rfl (lv_room (Nat.le_of_ble_eq_true rfl)) d_Model_takeField_4 ⟨Nat.le_of_ble_eq_true rfl, Nat.le_of_ble_eq_true rfl⟩) ?_
  refine lv_istore_n hx hb d_Model_takeField_7 rfl hl (by decide) rfl (fun ls hl => ?_)
  have hl : lv_has ls 3 [(1, .int r4), (0, .ref (G.2.1 51))] := hl
  refine lv_aload_n hx hb d_Model_takeField_8 rfl (lv_at hl 1 rfl) ?_
  refine lv_iload_n hx hb d_Model_takeField_9 rfl (lv_at hl 0 rfl) ?_
  refine lv_aload_n hx hb d_Model_takeField_10 rfl (lv_at hl 1 rfl) ?_
  refine va_get (D := G.1) (cl := xCl) (ci := 10) (v := .int (σ.1 51 10)) (C := R_Model) (T := T_Model) (N := 33) hx hb hu fi_Model hown hK hw 51 (x_at (by decide) (xcl_51 G σ)) rfl 10 (by decide) (hu _ mw_1078) (fun _ h9 => h9) rfl d_Model_takeField_11 ?_
  refine lv_icmp_ge (tgt := 29) hx hb d_Model_takeField_14 (by decide) (fun hc14 => ?_) (fun hc14 => ?_)
  · rw [if_pos hc14] at hE
    exact jn29 _ _ _ _ _ hE (lv_sub hl [1, 0] rfl) hw hS
  · rw [if_neg hc14] at hE
    refine lv_aload_n hx hb d_Model_takeField_17 rfl (lv_at hl 1 rfl) ?_
    refine lv_iload_n hx hb d_Model_takeField_18 rfl (lv_at hl 0 rfl) ?_
    obtain ⟨r19, hC19, hE⟩ := x_bind hE
    refine x_callR (W.runV (As := [.int r4]) (rest := [.ref (G.2.1 51)]) ⟨hx, hb, hml, hown, hu⟩ (t_Model_isToken l G σ r4 r19 hC19) (cwV 1 hu (uw_V mw_1295 mw_1297 mw_49 mw_70 mw_1298) rfl rfl rfl hd_Model_isToken ⟨Nat.le_of_ble_eq_true rfl, Nat.le_of_ble_eq_true rfl⟩) (x_preV hC hS hw (va_recv hK hw (q := (R_Model, T_Model, 33)) (ci := 10) rfl (x_at (by decide) (xcl_51 G σ)))) rfl rfl hl.1 rfl (lv_room (Nat.le_of_ble_eq_true rfl)) d_Model_takeField_19 ⟨Nat.le_of_ble_eq_true rfl, Nat.le_of_ble_eq_true rfl⟩) ?_
    refine lv_if_eq (tgt := 29) hx hb d_Model_takeField_22 (by decide) (fun hc22 => ?_) (fun hc22 => ?_)
    · rw [if_pos hc22] at hE
      exact jn29 _ _ _ _ _ hE (lv_sub hl [1, 0] rfl) hw hS
    · rw [if_neg hc22] at hE
      refine lv_iconst (v := (1 : Int32)) hx hb d_Model_takeField_25 (by decide) ?_
      refine lv_goto (tgt := 30) hx hb d_Model_takeField_26 (by decide) ?_
      exact jn30 _ _ _ _ _ _ hE (lv_sub hl [1, 0] rfl) hw hS

def y_Model_checkHost : MethodName := ⟨"PlainOriginModel", "checkHost", "()V"⟩
def ws_Model_checkHost : List Cond := Cond.code y_Model_checkHost prog_14_method_30_code 5 none :: UW
theorem hd_Model_checkHost : y_Model_checkHost.cls = R_Model ∧ y_Model_checkHost.cls ≠ "java/lang/invoke/MethodHandle" ∧ y_Model_checkHost.cls ≠ "java/lang/invoke/VarHandle" ∧ (parseMethodDescriptor y_Model_checkHost.desc).map (fun d => d.parameters.length) = some 0 := by decide +kernel
theorem d_Model_checkHost_0 : decode prog_14_method_30_code 0 = .ok (.aload_n 0, 1) := by decide +kernel
theorem d_Model_checkHost_1 : decode prog_14_method_30_code 1 = .ok (.iconst 0, 1) := by decide +kernel
theorem d_Model_checkHost_2 : decode prog_14_method_30_code 2 = .ok (.invokevirtual 273, 3) := by decide +kernel
theorem d_Model_checkHost_5 : decode prog_14_method_30_code 5 = .ok (.istore_n 1, 1) := by decide +kernel
theorem d_Model_checkHost_6 : decode prog_14_method_30_code 6 = .ok (.aload_n 0, 1) := by decide +kernel
theorem d_Model_checkHost_7 : decode prog_14_method_30_code 7 = .ok (.iload_n 1, 1) := by decide +kernel
theorem d_Model_checkHost_8 : decode prog_14_method_30_code 8 = .ok (.iconst 2, 1) := by decide +kernel
theorem d_Model_checkHost_9 : decode prog_14_method_30_code 9 = .ok (.if_icmp .ge (18), 3) := by decide +kernel
theorem d_Model_checkHost_12 : decode prog_14_method_30_code 12 = .ok (.iload_n 1, 1) := by decide +kernel
theorem d_Model_checkHost_13 : decode prog_14_method_30_code 13 = .ok (.ifCond .gt (10), 3) := by decide +kernel
theorem d_Model_checkHost_16 : decode prog_14_method_30_code 16 = .ok (.aload_n 0, 1) := by decide +kernel
theorem d_Model_checkHost_17 : decode prog_14_method_30_code 17 = .ok (.getfield 115, 3) := by decide +kernel
theorem d_Model_checkHost_20 : decode prog_14_method_30_code 20 = .ok (.ifCond .ne (7), 3) := by decide +kernel
theorem d_Model_checkHost_23 : decode prog_14_method_30_code 23 = .ok (.iconst 1, 1) := by decide +kernel
theorem d_Model_checkHost_24 : decode prog_14_method_30_code 24 = .ok (.goto (4), 3) := by decide +kernel
theorem d_Model_checkHost_27 : decode prog_14_method_30_code 27 = .ok (.iconst 0, 1) := by decide +kernel
theorem d_Model_checkHost_28 : decode prog_14_method_30_code 28 = .ok (.sipush (400), 3) := by decide +kernel
theorem d_Model_checkHost_31 : decode prog_14_method_30_code 31 = .ok (.invokevirtual 194, 3) := by decide +kernel
theorem d_Model_checkHost_34 : decode prog_14_method_30_code 34 = .ok (.iconst 0, 1) := by decide +kernel
theorem d_Model_checkHost_35 : decode prog_14_method_30_code 35 = .ok (.istore_n 2, 1) := by decide +kernel
theorem d_Model_checkHost_36 : decode prog_14_method_30_code 36 = .ok (.iload_n 2, 1) := by decide +kernel
theorem d_Model_checkHost_37 : decode prog_14_method_30_code 37 = .ok (.aload_n 0, 1) := by decide +kernel
theorem d_Model_checkHost_38 : decode prog_14_method_30_code 38 = .ok (.getfield 228, 3) := by decide +kernel
theorem d_Model_checkHost_41 : decode prog_14_method_30_code 41 = .ok (.if_icmp .ge (154), 3) := by decide +kernel
theorem d_Model_checkHost_44 : decode prog_14_method_30_code 44 = .ok (.iload_n 1, 1) := by decide +kernel
theorem d_Model_checkHost_45 : decode prog_14_method_30_code 45 = .ok (.iconst 1, 1) := by decide +kernel
theorem d_Model_checkHost_46 : decode prog_14_method_30_code 46 = .ok (.if_icmp .ne (149), 3) := by decide +kernel
theorem d_Model_checkHost_49 : decode prog_14_method_30_code 49 = .ok (.aload_n 0, 1) := by decide +kernel
theorem d_Model_checkHost_50 : decode prog_14_method_30_code 50 = .ok (.iload_n 2, 1) := by decide +kernel
theorem d_Model_checkHost_51 : decode prog_14_method_30_code 51 = .ok (.iconst 0, 1) := by decide +kernel
theorem d_Model_checkHost_52 : decode prog_14_method_30_code 52 = .ok (.invokevirtual 257, 3) := by decide +kernel
theorem d_Model_checkHost_55 : decode prog_14_method_30_code 55 = .ok (.ifCond .eq (134), 3) := by decide +kernel
theorem d_Model_checkHost_58 : decode prog_14_method_30_code 58 = .ok (.aload_n 0, 1) := by decide +kernel
theorem d_Model_checkHost_59 : decode prog_14_method_30_code 59 = .ok (.iconst 0, 1) := by decide +kernel
theorem d_Model_checkHost_60 : decode prog_14_method_30_code 60 = .ok (.putfield 263, 3) := by decide +kernel
theorem d_Model_checkHost_63 : decode prog_14_method_30_code 63 = .ok (.aload_n 0, 1) := by decide +kernel
theorem d_Model_checkHost_64 : decode prog_14_method_30_code 64 = .ok (.bipush (80), 2) := by decide +kernel
theorem d_Model_checkHost_66 : decode prog_14_method_30_code 66 = .ok (.iload_n 2, 1) := by decide +kernel
theorem d_Model_checkHost_67 : decode prog_14_method_30_code 67 = .ok (.imul, 1) := by decide +kernel
theorem d_Model_checkHost_68 : decode prog_14_method_30_code 68 = .ok (.aload_n 0, 1) := by decide +kernel
theorem d_Model_checkHost_69 : decode prog_14_method_30_code 69 = .ok (.getfield 121, 3) := by decide +kernel
theorem d_Model_checkHost_72 : decode prog_14_method_30_code 72 = .ok (.iload_n 2, 1) := by decide +kernel
theorem d_Model_checkHost_73 : decode prog_14_method_30_code 73 = .ok (.iaload, 1) := by decide +kernel
theorem d_Model_checkHost_74 : decode prog_14_method_30_code 74 = .ok (.iadd, 1) := by decide +kernel
theorem d_Model_checkHost_75 : decode prog_14_method_30_code 75 = .ok (.iconst 1, 1) := by decide +kernel
theorem d_Model_checkHost_76 : decode prog_14_method_30_code 76 = .ok (.iadd, 1) := by decide +kernel
theorem d_Model_checkHost_77 : decode prog_14_method_30_code 77 = .ok (.bipush (80), 2) := by decide +kernel
theorem d_Model_checkHost_79 : decode prog_14_method_30_code 79 = .ok (.iload_n 2, 1) := by decide +kernel
theorem d_Model_checkHost_80 : decode prog_14_method_30_code 80 = .ok (.imul, 1) := by decide +kernel
theorem d_Model_checkHost_81 : decode prog_14_method_30_code 81 = .ok (.aload_n 0, 1) := by decide +kernel
theorem d_Model_checkHost_82 : decode prog_14_method_30_code 82 = .ok (.getfield 124, 3) := by decide +kernel
theorem d_Model_checkHost_85 : decode prog_14_method_30_code 85 = .ok (.iload_n 2, 1) := by decide +kernel
theorem d_Model_checkHost_86 : decode prog_14_method_30_code 86 = .ok (.iaload, 1) := by decide +kernel
theorem d_Model_checkHost_87 : decode prog_14_method_30_code 87 = .ok (.iadd, 1) := by decide +kernel
theorem d_Model_checkHost_88 : decode prog_14_method_30_code 88 = .ok (.invokevirtual 266, 3) := by decide +kernel
theorem d_Model_checkHost_91 : decode prog_14_method_30_code 91 = .ok (.aload_n 0, 1) := by decide +kernel
theorem d_Model_checkHost_92 : decode prog_14_method_30_code 92 = .ok (.getfield 263, 3) := by decide +kernel
theorem d_Model_checkHost_95 : decode prog_14_method_30_code 95 = .ok (.ifCond .le (12), 3) := by decide +kernel
theorem d_Model_checkHost_98 : decode prog_14_method_30_code 98 = .ok (.aload_n 0, 1) := by decide +kernel
theorem d_Model_checkHost_99 : decode prog_14_method_30_code 99 = .ok (.getfield 130, 3) := by decide +kernel
theorem d_Model_checkHost_102 : decode prog_14_method_30_code 102 = .ok (.iconst 0, 1) := by decide +kernel
theorem d_Model_checkHost_103 : decode prog_14_method_30_code 103 = .ok (.iaload, 1) := by decide +kernel
theorem d_Model_checkHost_104 : decode prog_14_method_30_code 104 = .ok (.goto (4), 3) := by decide +kernel
theorem d_Model_checkHost_107 : decode prog_14_method_30_code 107 = .ok (.iconst 0, 1) := by decide +kernel
theorem d_Model_checkHost_108 : decode prog_14_method_30_code 108 = .ok (.istore_n 3, 1) := by decide +kernel
theorem d_Model_checkHost_109 : decode prog_14_method_30_code 109 = .ok (.aload_n 0, 1) := by decide +kernel
theorem d_Model_checkHost_110 : decode prog_14_method_30_code 110 = .ok (.getfield 263, 3) := by decide +kernel
theorem d_Model_checkHost_113 : decode prog_14_method_30_code 113 = .ok (.ifCond .le (76), 3) := by decide +kernel
theorem d_Model_checkHost_116 : decode prog_14_method_30_code 116 = .ok (.iload_n 3, 1) := by decide +kernel
theorem d_Model_checkHost_117 : decode prog_14_method_30_code 117 = .ok (.aload_n 0, 1) := by decide +kernel
theorem d_Model_checkHost_118 : decode prog_14_method_30_code 118 = .ok (.getfield 133, 3) := by decide +kernel
theorem d_Model_checkHost_121 : decode prog_14_method_30_code 121 = .ok (.iconst 0, 1) := by decide +kernel
theorem d_Model_checkHost_122 : decode prog_14_method_30_code 122 = .ok (.iaload, 1) := by decide +kernel
theorem d_Model_checkHost_123 : decode prog_14_method_30_code 123 = .ok (.if_icmp .ge (66), 3) := by decide +kernel
theorem d_Model_checkHost_126 : decode prog_14_method_30_code 126 = .ok (.aload_n 0, 1) := by decide +kernel
theorem d_Model_checkHost_127 : decode prog_14_method_30_code 127 = .ok (.getfield 118, 3) := by decide +kernel
theorem d_Model_checkHost_130 : decode prog_14_method_30_code 130 = .ok (.iload_n 3, 1) := by decide +kernel
theorem d_Model_checkHost_131 : decode prog_14_method_30_code 131 = .ok (.iaload, 1) := by decide +kernel
theorem d_Model_checkHost_132 : decode prog_14_method_30_code 132 = .ok (.istore 4, 2) := by decide +kernel
theorem d_Model_checkHost_134 : decode prog_14_method_30_code 134 = .ok (.aload_n 0, 1) := by decide +kernel
theorem d_Model_checkHost_135 : decode prog_14_method_30_code 135 = .ok (.iload 4, 2) := by decide +kernel
theorem d_Model_checkHost_137 : decode prog_14_method_30_code 137 = .ok (.invokestatic 159, 3) := by decide +kernel
theorem d_Model_checkHost_140 : decode prog_14_method_30_code 140 = .ok (.ifCond .ne (32), 3) := by decide +kernel
theorem d_Model_checkHost_143 : decode prog_14_method_30_code 143 = .ok (.iload 4, 2) := by decide +kernel
theorem d_Model_checkHost_145 : decode prog_14_method_30_code 145 = .ok (.invokestatic 151, 3) := by decide +kernel
theorem d_Model_checkHost_148 : decode prog_14_method_30_code 148 = .ok (.ifCond .ne (24), 3) := by decide +kernel
theorem d_Model_checkHost_151 : decode prog_14_method_30_code 151 = .ok (.iload 4, 2) := by decide +kernel
theorem d_Model_checkHost_153 : decode prog_14_method_30_code 153 = .ok (.bipush (45), 2) := by decide +kernel
theorem d_Model_checkHost_155 : decode prog_14_method_30_code 155 = .ok (.if_icmp .eq (17), 3) := by decide +kernel
theorem d_Model_checkHost_158 : decode prog_14_method_30_code 158 = .ok (.iload 4, 2) := by decide +kernel
theorem d_Model_checkHost_160 : decode prog_14_method_30_code 160 = .ok (.bipush (46), 2) := by decide +kernel
theorem d_Model_checkHost_162 : decode prog_14_method_30_code 162 = .ok (.if_icmp .eq (10), 3) := by decide +kernel
theorem d_Model_checkHost_165 : decode prog_14_method_30_code 165 = .ok (.iload 4, 2) := by decide +kernel
theorem d_Model_checkHost_167 : decode prog_14_method_30_code 167 = .ok (.bipush (58), 2) := by decide +kernel
theorem d_Model_checkHost_169 : decode prog_14_method_30_code 169 = .ok (.if_icmp .ne (7), 3) := by decide +kernel
theorem d_Model_checkHost_172 : decode prog_14_method_30_code 172 = .ok (.iconst 1, 1) := by decide +kernel
theorem d_Model_checkHost_173 : decode prog_14_method_30_code 173 = .ok (.goto (4), 3) := by decide +kernel
theorem d_Model_checkHost_176 : decode prog_14_method_30_code 176 = .ok (.iconst 0, 1) := by decide +kernel
theorem d_Model_checkHost_177 : decode prog_14_method_30_code 177 = .ok (.sipush (400), 3) := by decide +kernel
theorem d_Model_checkHost_180 : decode prog_14_method_30_code 180 = .ok (.invokevirtual 194, 3) := by decide +kernel
theorem d_Model_checkHost_183 : decode prog_14_method_30_code 183 = .ok (.iinc 3 (1), 3) := by decide +kernel
theorem d_Model_checkHost_186 : decode prog_14_method_30_code 186 = .ok (.goto (-77), 3) := by decide +kernel
theorem d_Model_checkHost_189 : decode prog_14_method_30_code 189 = .ok (.iinc 2 (1), 3) := by decide +kernel
theorem d_Model_checkHost_192 : decode prog_14_method_30_code 192 = .ok (.goto (-156), 3) := by decide +kernel
theorem d_Model_checkHost_195 : decode prog_14_method_30_code 195 = .ok (.return_, 1) := by decide +kernel
def x_Model_checkHost_189 (bk36 : Int32 → Int32 → St → Option St) (l1 : Int32) (l2 : Int32) (σ : St) : Option St := (x_let (l2 + (1 : Int32)) (fun (v189 : Int32) => bk36 l1 v189 σ))
def x_Model_checkHost_177 (bk36 : Int32 → Int32 → St → Option St) (bk109 : Int32 → Int32 → Int32 → St → Option St) (l1 : Int32) (l2 : Int32) (l3 : Int32) (k0 : Int32) (σ : St) : Option St := (Option.bind (x_Model_blame k0 (400 : Int32) σ) (fun s180 => (x_let (l3 + (1 : Int32)) (fun (v183 : Int32) => bk109 l1 l2 v183 s180))))
def x_Model_checkHost_172 (bk36 : Int32 → Int32 → St → Option St) (bk109 : Int32 → Int32 → Int32 → St → Option St) (l1 : Int32) (l2 : Int32) (l3 : Int32) (σ : St) : Option St := x_Model_checkHost_177 bk36 bk109 l1 l2 l3 (1 : Int32) σ
def x_Model_checkHost_109 (bk36 : Int32 → Int32 → St → Option St) : Nat → Int32 → Int32 → Int32 → St → Option St
  | 0, _, _, _, _ => none
  | n + 1, l1, l2, l3, σ => (if (σ.1 51 26) ≤ 0 then x_Model_checkHost_189 bk36 l1 l2 σ else (if x_in (0 : Int32) 512 then (if (σ.2.1 64 (0 : Int32).toNatClampNeg) ≤ l3 then x_Model_checkHost_189 bk36 l1 l2 σ else (if x_in l3 960 then (x_let (σ.2.1 59 l3.toNatClampNeg) (fun (v132 : Int32) => (Option.bind (x_Model_isAlpha v132) (fun r137 => (if r137 = 0 then (Option.bind (x_Model_isDigit v132) (fun r145 => (if r145 = 0 then (if v132 = (45 : Int32) then x_Model_checkHost_172 bk36 (x_Model_checkHost_109 bk36 n) l1 l2 l3 σ else (if v132 = (46 : Int32) then x_Model_checkHost_172 bk36 (x_Model_checkHost_109 bk36 n) l1 l2 l3 σ else (if v132 = (58 : Int32) then x_Model_checkHost_172 bk36 (x_Model_checkHost_109 bk36 n) l1 l2 l3 σ else x_Model_checkHost_177 bk36 (x_Model_checkHost_109 bk36 n) l1 l2 l3 (0 : Int32) σ))) else x_Model_checkHost_172 bk36 (x_Model_checkHost_109 bk36 n) l1 l2 l3 σ))) else x_Model_checkHost_172 bk36 (x_Model_checkHost_109 bk36 n) l1 l2 l3 σ))))) else none)) else none))
def x_Model_checkHost_108 (bk36 : Int32 → Int32 → St → Option St) (l1 : Int32) (l2 : Int32) (k0 : Int32) (σ : St) : Option St := x_Model_checkHost_109 bk36 x_fuel l1 l2 k0 σ
def x_Model_checkHost_36 : Nat → Int32 → Int32 → St → Option St
  | 0, _, _, _ => none
  | n + 1, l1, l2, σ => (if (σ.1 51 17) ≤ l2 then some σ else (if l1 = (1 : Int32) then (Option.bind (x_Model_isNamed l2 (0 : Int32) σ) (fun r52 => (if r52 = 0 then x_Model_checkHost_189 (x_Model_checkHost_36 n) l1 l2 σ else (x_let (x_updR σ 51 26 (0 : Int32)) (fun (s60 : St) => (if x_in l2 12 then (if x_in l2 12 then (Option.bind (x_Model_notice ((((80 : Int32) * l2) + (s60.2.1 60 l2.toNatClampNeg)) + (1 : Int32)) (((80 : Int32) * l2) + (s60.2.1 61 l2.toNatClampNeg)) s60) (fun s88 => (if (s88.1 51 26) ≤ 0 then x_Model_checkHost_108 (x_Model_checkHost_36 n) l1 l2 (0 : Int32) s88 else (if x_in (0 : Int32) 512 then x_Model_checkHost_108 (x_Model_checkHost_36 n) l1 l2 (s88.2.1 63 (0 : Int32).toNatClampNeg) s88 else none)))) else none) else none)))))) else some σ))
def x_Model_checkHost_28 (l1 : Int32) (k0 : Int32) (σ : St) : Option St := (Option.bind (x_Model_blame k0 (400 : Int32) σ) (fun s31 => x_Model_checkHost_36 x_fuel l1 (0 : Int32) s31))
def x_Model_checkHost_27 (l1 : Int32) (σ : St) : Option St := x_Model_checkHost_28 l1 (0 : Int32) σ
def x_Model_checkHost_23 (l1 : Int32) (σ : St) : Option St := x_Model_checkHost_28 l1 (1 : Int32) σ
def x_Model_checkHost (σ : St) : Option St := (Option.bind (x_Model_count (0 : Int32) σ) (fun r2 => (if (2 : Int32) ≤ r2 then x_Model_checkHost_27 r2 σ else (if 0 < r2 then x_Model_checkHost_23 r2 σ else (if (σ.1 51 15) = 0 then x_Model_checkHost_23 r2 σ else x_Model_checkHost_27 r2 σ)))))
abbrev rm_Model_checkHost : Room := { frames := 5, cells := 0, slots := 0, locals := 112 }
set_option maxHeartbeats 4000000 in
set_option maxRecDepth 100000 in
theorem t_Model_checkHost (l : Launch) (G : xG) (σ : St) (σ' : St) (hE : x_Model_checkHost σ = some σ') : Met l y_Model_checkHost (ws_Model_checkHost) rm_Model_checkHost (xP G σ [.ref (G.2.1 51)]) (xQ G none σ') 0 0 (xA G) := by
  refine Met.ofW (cc := prog_14_method_30_code) (maxL := 5) (ret := none) (by decide) rfl ?_
  intro p e s m args below meth c s₁ B hml hv
  obtain ⟨rfl, hw, hC⟩ := hv
  have hx := B.exec
  have hb := B.bytes
  have hr := B.returns
  have hu : ∀ w ∈ UW, w.before _ s = true := fun w h => atoms_spec B.pre w (List.mem_cons_of_mem _ h)
  have hown : s.vm.findClass R_Model = some m.cls := findClass_of_methodNamed B.named
  have hlocks := B.notSynchronized
  have hK := hC.1
  have hI := hC.2.1
  have hG := hC.2.2.1
  have hN := hC.2.2.2
  have hS : va_S (xA G) s.heap s.heap [] := va_S.rf
  have jn189 : ∀ (bk36 : Int32 → Int32 → St → Option St) (hbk36 : ∀ (ls : Array Slot) (H : Heap) (locs : List Loc) (σ : St) (l1 : Int32) (l2 : Int32), bk36 l1 l2 σ = some σ' → lv_has ls 5 [(0, .ref (G.2.1 51)), (1, .int l1), (2, .int l2)] → xw G σ H → va_S (xA G) s.heap H locs → W p l e (headSpec (ws_Model_checkHost) rm_Model_checkHost).room s m ([.ref (G.2.1 51)] : List Value).toArray below meth c H locs 0 0 (MQ below (xQ G none σ') ([.ref (G.2.1 51)] : List Value).toArray s 0 0 (xA G)) (F0 m 36 ls [])) (ls : Array Slot) (H : Heap) (locs : List Loc) (σ : St) (l1 : Int32) (l2 : Int32), x_Model_checkHost_189 bk36 l1 l2 σ = some σ' → lv_has ls 5 [(0, .ref (G.2.1 51)), (1, .int l1), (2, .int l2)] → xw G σ H → va_S (xA G) s.heap H locs → W p l e (headSpec (ws_Model_checkHost) rm_Model_checkHost).room s m ([.ref (G.2.1 51)] : List Value).toArray below meth c H locs 0 0 (MQ below (xQ G none σ') ([.ref (G.2.1 51)] : List Value).toArray s 0 0 (xA G)) (F0 m 189 ls []) := by
    intro bk36 hbk36 ls H locs σ l1 l2 hE hl hw hS
    unfold x_Model_checkHost_189 at hE
    obtain ⟨v189, e189, hE⟩ := x_letE hE
    refine lv_iinc hx hb d_Model_checkHost_189 hl (k := 2) rfl (x_inc v189 e189 (by decide)) (by decide) rfl (fun ls hl => ?_)
    have hl : lv_has ls 5 [(2, .int v189), (0, .ref (G.2.1 51)), (1, .int l1)] := hl
    refine lv_goto (tgt := 36) hx hb d_Model_checkHost_192 (by decide) ?_
    exact hbk36 _ _ _ _ _ _ hE (lv_sub hl [1, 2, 0] rfl) hw hS
  have jn177 : ∀ (bk36 : Int32 → Int32 → St → Option St) (hbk36 : ∀ (ls : Array Slot) (H : Heap) (locs : List Loc) (σ : St) (l1 : Int32) (l2 : Int32), bk36 l1 l2 σ = some σ' → lv_has ls 5 [(0, .ref (G.2.1 51)), (1, .int l1), (2, .int l2)] → xw G σ H → va_S (xA G) s.heap H locs → W p l e (headSpec (ws_Model_checkHost) rm_Model_checkHost).room s m ([.ref (G.2.1 51)] : List Value).toArray below meth c H locs 0 0 (MQ below (xQ G none σ') ([.ref (G.2.1 51)] : List Value).toArray s 0 0 (xA G)) (F0 m 36 ls [])) (bk109 : Int32 → Int32 → Int32 → St → Option St) (hbk109 : ∀ (ls : Array Slot) (H : Heap) (locs : List Loc) (σ : St) (l1 : Int32) (l2 : Int32) (l3 : Int32), bk109 l1 l2 l3 σ = some σ' → lv_has ls 5 [(0, .ref (G.2.1 51)), (1, .int l1), (2, .int l2), (3, .int l3)] → xw G σ H → va_S (xA G) s.heap H locs → W p l e (headSpec (ws_Model_checkHost) rm_Model_checkHost).room s m ([.ref (G.2.1 51)] : List Value).toArray below meth c H locs 0 0 (MQ below (xQ G none σ') ([.ref (G.2.1 51)] : List Value).toArray s 0 0 (xA G)) (F0 m 109 ls [])) (ls : Array Slot) (H : Heap) (locs : List Loc) (σ : St) (l1 : Int32) (l2 : Int32) (l3 : Int32) (k0 : Int32), x_Model_checkHost_177 bk36 bk109 l1 l2 l3 k0 σ = some σ' → lv_has ls 5 [(0, .ref (G.2.1 51)), (1, .int l1), (2, .int l2), (3, .int l3)] → xw G σ H → va_S (xA G) s.heap H locs → W p l e (headSpec (ws_Model_checkHost) rm_Model_checkHost).room s m ([.ref (G.2.1 51)] : List Value).toArray below meth c H locs 0 0 (MQ below (xQ G none σ') ([.ref (G.2.1 51)] : List Value).toArray s 0 0 (xA G)) (F0 m 177 ls [.int k0, .ref (G.2.1 51)]) := by
    intro bk36 hbk36 bk109 hbk109 ls H locs σ l1 l2 l3 k0 hE hl hw hS
    unfold x_Model_checkHost_177 at hE
    refine lv_sipush (v := (400 : Int32)) hx hb d_Model_checkHost_177 (by decide) ?_
    obtain ⟨s180, hC180, hE⟩ := x_bind hE
    refine x_callV hS (W.runV (As := [.int k0, .int (400 : Int32)]) (rest := []) ⟨hx, hb, hml, hown, hu⟩ (t_Model_blame l G σ k0 (400 : Int32) s180 hC180) (cwV 2 hu (uw_V mw_1279 mw_1281 mw_45 mw_70 mw_1282) rfl rfl rfl hd_Model_blame ⟨Nat.le_of_ble_eq_true rfl, Nat.le_of_ble_eq_true rfl⟩) (x_preV hC hS hw (va_recv hK hw (q := (R_Model, T_Model, 33)) (ci := 10) rfl (x_at (by decide) (xcl_51 G σ)))) rfl rfl hl.1 rfl (lv_room (Nat.le_of_ble_eq_true rfl)) d_Model_checkHost_180 ⟨Nat.le_of_ble_eq_true rfl, Nat.le_of_ble_eq_true rfl⟩) (fun H locs hw hS => ?_)
    obtain ⟨v183, e183, hE⟩ := x_letE hE
    refine lv_iinc hx hb d_Model_checkHost_183 hl (k := 3) rfl (x_inc v183 e183 (by decide)) (by decide) rfl (fun ls hl => ?_)
    have hl : lv_has ls 5 [(3, .int v183), (0, .ref (G.2.1 51)), (1, .int l1), (2, .int l2)] := hl
    refine lv_goto (tgt := 109) hx hb d_Model_checkHost_186 (by decide) ?_
    exact hbk109 _ _ _ _ _ _ _ hE (lv_sub hl [1, 2, 3, 0] rfl) hw hS
  have jn172 : ∀ (bk36 : Int32 → Int32 → St → Option St) (hbk36 : ∀ (ls : Array Slot) (H : Heap) (locs : List Loc) (σ : St) (l1 : Int32) (l2 : Int32), bk36 l1 l2 σ = some σ' → lv_has ls 5 [(0, .ref (G.2.1 51)), (1, .int l1), (2, .int l2)] → xw G σ H → va_S (xA G) s.heap H locs → W p l e (headSpec (ws_Model_checkHost) rm_Model_checkHost).room s m ([.ref (G.2.1 51)] : List Value).toArray below meth c H locs 0 0 (MQ below (xQ G none σ') ([.ref (G.2.1 51)] : List Value).toArray s 0 0 (xA G)) (F0 m 36 ls [])) (bk109 : Int32 → Int32 → Int32 → St → Option St) (hbk109 : ∀ (ls : Array Slot) (H : Heap) (locs : List Loc) (σ : St) (l1 : Int32) (l2 : Int32) (l3 : Int32), bk109 l1 l2 l3 σ = some σ' → lv_has ls 5 [(0, .ref (G.2.1 51)), (1, .int l1), (2, .int l2), (3, .int l3)] → xw G σ H → va_S (xA G) s.heap H locs → W p l e (headSpec (ws_Model_checkHost) rm_Model_checkHost).room s m ([.ref (G.2.1 51)] : List Value).toArray below meth c H locs 0 0 (MQ below (xQ G none σ') ([.ref (G.2.1 51)] : List Value).toArray s 0 0 (xA G)) (F0 m 109 ls [])) (ls : Array Slot) (H : Heap) (locs : List Loc) (σ : St) (l1 : Int32) (l2 : Int32) (l3 : Int32), x_Model_checkHost_172 bk36 bk109 l1 l2 l3 σ = some σ' → lv_has ls 5 [(0, .ref (G.2.1 51)), (1, .int l1), (2, .int l2), (3, .int l3)] → xw G σ H → va_S (xA G) s.heap H locs → W p l e (headSpec (ws_Model_checkHost) rm_Model_checkHost).room s m ([.ref (G.2.1 51)] : List Value).toArray below meth c H locs 0 0 (MQ below (xQ G none σ') ([.ref (G.2.1 51)] : List Value).toArray s 0 0 (xA G)) (F0 m 172 ls [.ref (G.2.1 51)]) := by
    intro bk36 hbk36 bk109 hbk109 ls H locs σ l1 l2 l3 hE hl hw hS
    unfold x_Model_checkHost_172 at hE
    refine lv_iconst (v := (1 : Int32)) hx hb d_Model_checkHost_172 (by decide) ?_
    refine lv_goto (tgt := 177) hx hb d_Model_checkHost_173 (by decide) ?_
    exact jn177 _ hbk36 _ hbk109 _ _ _ _ _ _ _ _ hE (lv_sub hl [0, 1, 2, 3] rfl) hw hS
  have jn109 : ∀ (bk36 : Int32 → Int32 → St → Option St) (hbk36 : ∀ (ls : Array Slot) (H : Heap) (locs : List Loc) (σ : St) (l1 : Int32) (l2 : Int32), bk36 l1 l2 σ = some σ' → lv_has ls 5 [(0, .ref (G.2.1 51)), (1, .int l1), (2, .int l2)] → xw G σ H → va_S (xA G) s.heap H locs → W p l e (headSpec (ws_Model_checkHost) rm_Model_checkHost).room s m ([.ref (G.2.1 51)] : List Value).toArray below meth c H locs 0 0 (MQ below (xQ G none σ') ([.ref (G.2.1 51)] : List Value).toArray s 0 0 (xA G)) (F0 m 36 ls [])) (n : Nat) (ls : Array Slot) (H : Heap) (locs : List Loc) (σ : St) (l1 : Int32) (l2 : Int32) (l3 : Int32), x_Model_checkHost_109 bk36 n l1 l2 l3 σ = some σ' → lv_has ls 5 [(0, .ref (G.2.1 51)), (1, .int l1), (2, .int l2), (3, .int l3)] → xw G σ H → va_S (xA G) s.heap H locs → W p l e (headSpec (ws_Model_checkHost) rm_Model_checkHost).room s m ([.ref (G.2.1 51)] : List Value).toArray below meth c H locs 0 0 (MQ below (xQ G none σ') ([.ref (G.2.1 51)] : List Value).toArray s 0 0 (xA G)) (F0 m 109 ls []) := by
    intro bk36 hbk36 n
    induction n with
    | zero => intro ls H locs σ l1 l2 l3 hE; rw [x_Model_checkHost_109] at hE; cases hE
    | succ n ih =>
      intro ls H locs σ l1 l2 l3 hE hl hw hS
      rw [x_Model_checkHost_109] at hE
      refine lv_aload_n hx hb d_Model_checkHost_109 rfl (lv_at hl 0 rfl) ?_
      refine va_get (D := G.1) (cl := xCl) (ci := 10) (v := .int (σ.1 51 26)) (C := R_Model) (T := T_Model) (N := 33) hx hb hu fi_Model hown hK hw 51 (x_at (by decide) (xcl_51 G σ)) rfl 26 (by decide) (hu _ mw_1094) (fun _ h9 => h9) rfl d_Model_checkHost_110 ?_
      refine lv_if_le (tgt := 189) hx hb d_Model_checkHost_113 (by decide) (fun hc113 => ?_) (fun hc113 => ?_)
      · rw [if_pos hc113] at hE
        exact jn189 _ hbk36 _ _ _ _ _ _ hE (lv_sub hl [0, 1, 2] rfl) hw hS
      · rw [if_neg hc113] at hE
        refine lv_iload_n hx hb d_Model_checkHost_116 rfl (lv_at hl 3 rfl) ?_
        refine lv_aload_n hx hb d_Model_checkHost_117 rfl (lv_at hl 0 rfl) ?_
        refine va_get (D := G.1) (cl := xCl) (ci := 10) (v := .ref (G.2.1 64)) (C := R_Model) (T := T_Model) (N := 33) hx hb hu fi_Model hown hK hw 51 (x_at (by decide) (xcl_51 G σ)) rfl 28 (by decide) (hu _ mw_1096) (fun _ h9 => h9) rfl d_Model_checkHost_118 ?_
        refine lv_iconst (v := (0 : Int32)) hx hb d_Model_checkHost_121 (by decide) ?_
        obtain ⟨g122, hE⟩ := x_guard hE
        refine va_iald hx hb hK hw 64 0 (x_at (by decide) (xcl_64 G σ)) rfl g122 d_Model_checkHost_122 ?_
        refine lv_icmp_ge (tgt := 189) hx hb d_Model_checkHost_123 (by decide) (fun hc123 => ?_) (fun hc123 => ?_)
        · rw [if_pos hc123] at hE
          exact jn189 _ hbk36 _ _ _ _ _ _ hE (lv_sub hl [0, 1, 2] rfl) hw hS
        · rw [if_neg hc123] at hE
          refine lv_aload_n hx hb d_Model_checkHost_126 rfl (lv_at hl 0 rfl) ?_
          refine va_get (D := G.1) (cl := xCl) (ci := 10) (v := .ref (G.2.1 59)) (C := R_Model) (T := T_Model) (N := 33) hx hb hu fi_Model hown hK hw 51 (x_at (by decide) (xcl_51 G σ)) rfl 18 (by decide) (hu _ mw_1086) (fun _ h9 => h9) rfl d_Model_checkHost_127 ?_
          refine lv_iload_n hx hb d_Model_checkHost_130 rfl (lv_at hl 3 rfl) ?_
          obtain ⟨g131, hE⟩ := x_guard hE
          refine va_iald hx hb hK hw 59 0 (x_at (by decide) (xcl_59 G σ)) rfl g131 d_Model_checkHost_131 ?_
          refine lv_topi (fun v132 e132 => ?_)
          replace hE := x_letT e132 hE
          refine lv_istore hx hb d_Model_checkHost_132 hl (by decide) rfl (fun ls hl => ?_)
          have hl : lv_has ls 5 [(4, .int v132), (0, .ref (G.2.1 51)), (1, .int l1), (2, .int l2), (3, .int l3)] := hl
          refine lv_aload_n hx hb d_Model_checkHost_134 rfl (lv_at hl 1 rfl) ?_
          refine lv_iload hx hb d_Model_checkHost_135 (lv_at hl 0 rfl) ?_
          obtain ⟨r137, hC137, hE⟩ := x_bind hE
          refine x_callR (W.runS (As := [.int v132]) (rest := [.ref (G.2.1 51)]) ⟨hx, hb, hml, hown, hu⟩ (t_Model_isAlpha l G σ v132 r137 hC137) (va_cwS 1 hu (uw_S mw_1302 mw_1303 mw_70 mw_1304) rfl rfl rfl hd_Model_isAlpha ⟨Nat.le_of_ble_eq_true rfl, Nat.le_of_ble_eq_true rfl⟩) (x_preS hC hS hw) rfl rfl hl.1 rfl (lv_room (Nat.le_of_ble_eq_true rfl)) d_Model_checkHost_137 ⟨Nat.le_of_ble_eq_true rfl, Nat.le_of_ble_eq_true rfl⟩) ?_
          refine lv_if_ne (tgt := 172) hx hb d_Model_checkHost_140 (by decide) (fun hc140 => ?_) (fun hc140 => ?_)
          · rw [if_neg hc140] at hE
            exact jn172 _ hbk36 _ ih _ _ _ _ _ _ _ hE (lv_sub hl [1, 2, 3, 4] rfl) hw hS
          · rw [if_pos hc140] at hE
            refine lv_iload hx hb d_Model_checkHost_143 (lv_at hl 0 rfl) ?_
            obtain ⟨r145, hC145, hE⟩ := x_bind hE
            refine x_callR (W.runS (As := [.int v132]) (rest := [.ref (G.2.1 51)]) ⟨hx, hb, hml, hown, hu⟩ (t_Model_isDigit l G σ v132 r145 hC145) (va_cwS 1 hu (uw_S mw_1197 mw_1198 mw_70 mw_1199) rfl rfl rfl hd_Model_isDigit ⟨Nat.le_of_ble_eq_true rfl, Nat.le_of_ble_eq_true rfl⟩) (x_preS hC hS hw) rfl rfl hl.1 rfl (lv_room (Nat.le_of_ble_eq_true rfl)) d_Model_checkHost_145 ⟨Nat.le_of_ble_eq_true rfl, Nat.le_of_ble_eq_true rfl⟩) ?_
            refine lv_if_ne (tgt := 172) hx hb d_Model_checkHost_148 (by decide) (fun hc148 => ?_) (fun hc148 => ?_)
            · rw [if_neg hc148] at hE
              exact jn172 _ hbk36 _ ih _ _ _ _ _ _ _ hE (lv_sub hl [1, 2, 3, 4] rfl) hw hS
            · rw [if_pos hc148] at hE
              refine lv_iload hx hb d_Model_checkHost_151 (lv_at hl 0 rfl) ?_
              refine lv_bipush (v := (45 : Int32)) hx hb d_Model_checkHost_153 (by decide) ?_
              refine lv_icmp_eq (tgt := 172) hx hb d_Model_checkHost_155 (by decide) (fun hc155 => ?_) (fun hc155 => ?_)
              · rw [if_pos hc155] at hE
                exact jn172 _ hbk36 _ ih _ _ _ _ _ _ _ hE (lv_sub hl [1, 2, 3, 4] rfl) hw hS
              · rw [if_neg hc155] at hE
                refine lv_iload hx hb d_Model_checkHost_158 (lv_at hl 0 rfl) ?_
                refine lv_bipush (v := (46 : Int32)) hx hb d_Model_checkHost_160 (by decide) ?_
                refine lv_icmp_eq (tgt := 172) hx hb d_Model_checkHost_162 (by decide) (fun hc162 => ?_) (fun hc162 => ?_)
                · rw [if_pos hc162] at hE
                  exact jn172 _ hbk36 _ ih _ _ _ _ _ _ _ hE (lv_sub hl [1, 2, 3, 4] rfl) hw hS
                · rw [if_neg hc162] at hE
                  refine lv_iload hx hb d_Model_checkHost_165 (lv_at hl 0 rfl) ?_
                  refine lv_bipush (v := (58 : Int32)) hx hb d_Model_checkHost_167 (by decide) ?_
                  refine lv_icmp_ne (tgt := 176) hx hb d_Model_checkHost_169 (by decide) (fun hc169 => ?_) (fun hc169 => ?_)
                  · rw [if_neg hc169] at hE
                    refine lv_iconst (v := (0 : Int32)) hx hb d_Model_checkHost_176 (by decide) ?_
                    exact jn177 _ hbk36 _ ih _ _ _ _ _ _ _ _ hE (lv_sub hl [1, 2, 3, 4] rfl) hw hS
                  · rw [if_pos hc169] at hE
                    exact jn172 _ hbk36 _ ih _ _ _ _ _ _ _ hE (lv_sub hl [1, 2, 3, 4] rfl) hw hS
  have jn108 : ∀ (bk36 : Int32 → Int32 → St → Option St) (hbk36 : ∀ (ls : Array Slot) (H : Heap) (locs : List Loc) (σ : St) (l1 : Int32) (l2 : Int32), bk36 l1 l2 σ = some σ' → lv_has ls 5 [(0, .ref (G.2.1 51)), (1, .int l1), (2, .int l2)] → xw G σ H → va_S (xA G) s.heap H locs → W p l e (headSpec (ws_Model_checkHost) rm_Model_checkHost).room s m ([.ref (G.2.1 51)] : List Value).toArray below meth c H locs 0 0 (MQ below (xQ G none σ') ([.ref (G.2.1 51)] : List Value).toArray s 0 0 (xA G)) (F0 m 36 ls [])) (ls : Array Slot) (H : Heap) (locs : List Loc) (σ : St) (l1 : Int32) (l2 : Int32) (k0 : Int32), x_Model_checkHost_108 bk36 l1 l2 k0 σ = some σ' → lv_has ls 5 [(0, .ref (G.2.1 51)), (1, .int l1), (2, .int l2)] → xw G σ H → va_S (xA G) s.heap H locs → W p l e (headSpec (ws_Model_checkHost) rm_Model_checkHost).room s m ([.ref (G.2.1 51)] : List Value).toArray below meth c H locs 0 0 (MQ below (xQ G none σ') ([.ref (G.2.1 51)] : List Value).toArray s 0 0 (xA G)) (F0 m 108 ls [.int k0]) := by
    intro bk36 hbk36 ls H locs σ l1 l2 k0 hE hl hw hS
    unfold x_Model_checkHost_108 at hE
    refine lv_istore_n hx hb d_Model_checkHost_108 rfl hl (by decide) rfl (fun ls hl => ?_)
    have hl : lv_has ls 5 [(3, .int k0), (0, .ref (G.2.1 51)), (1, .int l1), (2, .int l2)] := hl
    exact jn109 _ hbk36 x_fuel _ _ _ _ _ _ _ hE (lv_sub hl [1, 2, 3, 0] rfl) hw hS
  have jn36 : ∀ (n : Nat) (ls : Array Slot) (H : Heap) (locs : List Loc) (σ : St) (l1 : Int32) (l2 : Int32), x_Model_checkHost_36 n l1 l2 σ = some σ' → lv_has ls 5 [(0, .ref (G.2.1 51)), (1, .int l1), (2, .int l2)] → xw G σ H → va_S (xA G) s.heap H locs → W p l e (headSpec (ws_Model_checkHost) rm_Model_checkHost).room s m ([.ref (G.2.1 51)] : List Value).toArray below meth c H locs 0 0 (MQ below (xQ G none σ') ([.ref (G.2.1 51)] : List Value).toArray s 0 0 (xA G)) (F0 m 36 ls []) := by
    intro n
    induction n with
    | zero => intro ls H locs σ l1 l2 hE; rw [x_Model_checkHost_36] at hE; cases hE
    | succ n ih =>
      intro ls H locs σ l1 l2 hE hl hw hS
      rw [x_Model_checkHost_36] at hE
      refine lv_iload_n hx hb d_Model_checkHost_36 rfl (lv_at hl 2 rfl) ?_
      refine lv_aload_n hx hb d_Model_checkHost_37 rfl (lv_at hl 0 rfl) ?_
      refine va_get (D := G.1) (cl := xCl) (ci := 10) (v := .int (σ.1 51 17)) (C := R_Model) (T := T_Model) (N := 33) hx hb hu fi_Model hown hK hw 51 (x_at (by decide) (xcl_51 G σ)) rfl 17 (by decide) (hu _ mw_1085) (fun _ h9 => h9) rfl d_Model_checkHost_38 ?_
      refine lv_icmp_ge (tgt := 195) hx hb d_Model_checkHost_41 (by decide) (fun hc41 => ?_) (fun hc41 => ?_)
      · rw [if_pos hc41] at hE
        have e1 := Option.some.inj hE
        exact W.vret hx hb hr (fun t ht hW => ⟨rfl, by rw [ht, ← e1]; exact hw, hS.F ht⟩) hS.2.2 d_Model_checkHost_195
      · rw [if_neg hc41] at hE
        refine lv_iload_n hx hb d_Model_checkHost_44 rfl (lv_at hl 1 rfl) ?_
        refine lv_iconst (v := (1 : Int32)) hx hb d_Model_checkHost_45 (by decide) ?_
        refine lv_icmp_ne (tgt := 195) hx hb d_Model_checkHost_46 (by decide) (fun hc46 => ?_) (fun hc46 => ?_)
        · rw [if_neg hc46] at hE
          have e1 := Option.some.inj hE
          exact W.vret hx hb hr (fun t ht hW => ⟨rfl, by rw [ht, ← e1]; exact hw, hS.F ht⟩) hS.2.2 d_Model_checkHost_195
        · rw [if_pos hc46] at hE
          refine lv_aload_n hx hb d_Model_checkHost_49 rfl (lv_at hl 0 rfl) ?_
          refine lv_iload_n hx hb d_Model_checkHost_50 rfl (lv_at hl 2 rfl) ?_
          refine lv_iconst (v := (0 : Int32)) hx hb d_Model_checkHost_51 (by decide) ?_
          obtain ⟨r52, hC52, hE⟩ := x_bind hE
          refine x_callR (W.runV (As := [.int l2, .int (0 : Int32)]) (rest := []) ⟨hx, hb, hml, hown, hu⟩ (t_Model_isNamed l G σ l2 (0 : Int32) r52 hC52) (cwV 2 hu (uw_V mw_1247 mw_1249 mw_37 mw_70 mw_1250) rfl rfl rfl hd_Model_isNamed ⟨Nat.le_of_ble_eq_true rfl, Nat.le_of_ble_eq_true rfl⟩) (x_preV hC hS hw (va_recv hK hw (q := (R_Model, T_Model, 33)) (ci := 10) rfl (x_at (by decide) (xcl_51 G σ)))) rfl rfl hl.1 rfl (lv_room (Nat.le_of_ble_eq_true rfl)) d_Model_checkHost_52 ⟨Nat.le_of_ble_eq_true rfl, Nat.le_of_ble_eq_true rfl⟩) ?_
          refine lv_if_eq (tgt := 189) hx hb d_Model_checkHost_55 (by decide) (fun hc55 => ?_) (fun hc55 => ?_)
          · rw [if_pos hc55] at hE
            exact jn189 _ ih _ _ _ _ _ _ hE (lv_sub hl [0, 1, 2] rfl) hw hS
          · rw [if_neg hc55] at hE
            refine lv_aload_n hx hb d_Model_checkHost_58 rfl (lv_at hl 0 rfl) ?_
            refine lv_iconst (v := (0 : Int32)) hx hb d_Model_checkHost_59 (by decide) ?_
            refine va_put (D := G.1) (cl := xCl) (ci := 10) (v := .int (0 : Int32)) (ty := .int) (C := R_Model) (T := T_Model) (N := 33) hx hb hu fi_Model ty_Model tyok_Model nm_Model hown hK hw (x_D hI _) hS 51 (x_at (by decide) (xcl_51 G σ)) rfl 26 (by decide) (hu _ mw_1094) (fun _ h9 => h9) rfl (tyok_Model 26 (by decide)) rfl rfl (Nat.le_of_ble_eq_true rfl) d_Model_checkHost_60 (fun H locs hw _ hS => ?_)
            replace hw := x_setR hw (by decide) rfl
            obtain ⟨s60, e60, hE⟩ := x_letE hE
            rw [← e60] at hw
            refine lv_aload_n hx hb d_Model_checkHost_63 rfl (lv_at hl 0 rfl) ?_
            refine lv_bipush (v := (80 : Int32)) hx hb d_Model_checkHost_64 (by decide) ?_
            refine lv_iload_n hx hb d_Model_checkHost_66 rfl (lv_at hl 2 rfl) ?_
            refine lv_imul hx hb d_Model_checkHost_67 ?_
            refine lv_aload_n hx hb d_Model_checkHost_68 rfl (lv_at hl 0 rfl) ?_
            refine va_get (D := G.1) (cl := xCl) (ci := 10) (v := .ref (G.2.1 60)) (C := R_Model) (T := T_Model) (N := 33) hx hb hu fi_Model hown hK hw 51 (x_at (by decide) (xcl_51 G s60)) rfl 19 (by decide) (hu _ mw_1087) (fun _ h9 => h9) rfl d_Model_checkHost_69 ?_
            refine lv_iload_n hx hb d_Model_checkHost_72 rfl (lv_at hl 2 rfl) ?_
            obtain ⟨g73, hE⟩ := x_guard hE
            refine va_iald hx hb hK hw 60 0 (x_at (by decide) (xcl_60 G s60)) rfl g73 d_Model_checkHost_73 ?_
            refine lv_iadd hx hb d_Model_checkHost_74 ?_
            refine lv_iconst (v := (1 : Int32)) hx hb d_Model_checkHost_75 (by decide) ?_
            refine lv_iadd hx hb d_Model_checkHost_76 ?_
            refine lv_bipush (v := (80 : Int32)) hx hb d_Model_checkHost_77 (by decide) ?_
            refine lv_iload_n hx hb d_Model_checkHost_79 rfl (lv_at hl 2 rfl) ?_
            refine lv_imul hx hb d_Model_checkHost_80 ?_
            refine lv_aload_n hx hb d_Model_checkHost_81 rfl (lv_at hl 0 rfl) ?_
            refine va_get (D := G.1) (cl := xCl) (ci := 10) (v := .ref (G.2.1 61)) (C := R_Model) (T := T_Model) (N := 33) hx hb hu fi_Model hown hK hw 51 (x_at (by decide) (xcl_51 G s60)) rfl 20 (by decide) (hu _ mw_1088) (fun _ h9 => h9) rfl d_Model_checkHost_82 ?_
            refine lv_iload_n hx hb d_Model_checkHost_85 rfl (lv_at hl 2 rfl) ?_
            obtain ⟨g86, hE⟩ := x_guard hE
            refine va_iald hx hb hK hw 61 0 (x_at (by decide) (xcl_61 G s60)) rfl g86 d_Model_checkHost_86 ?_
            refine lv_iadd hx hb d_Model_checkHost_87 ?_
            obtain ⟨s88, hC88, hE⟩ := x_bind hE
            refine x_callV hS (W.runV (As := [.int ((((80 : Int32) * l2) + (s60.2.1 60 l2.toNatClampNeg)) + (1 : Int32)), .int (((80 : Int32) * l2) + (s60.2.1 61 l2.toNatClampNeg))]) (rest := []) ⟨hx, hb, hml, hown, hu⟩ (t_Model_notice l G s60 ((((80 : Int32) * l2) + (s60.2.1 60 l2.toNatClampNeg)) + (1 : Int32)) (((80 : Int32) * l2) + (s60.2.1 61 l2.toNatClampNeg)) s88 hC88) (cwV 2 hu (uw_V mw_1255 mw_1257 mw_39 mw_70 mw_1258) rfl rfl rfl hd_Model_notice ⟨Nat.le_of_ble_eq_true rfl, Nat.le_of_ble_eq_true rfl⟩) (x_preV hC hS hw (va_recv hK hw (q := (R_Model, T_Model, 33)) (ci := 10) rfl (x_at (by decide) (xcl_51 G s60)))) rfl rfl hl.1 rfl (lv_room (Nat.le_of_ble_eq_true rfl)) d_Model_checkHost_88 ⟨Nat.le_of_ble_eq_true rfl, Nat.le_of_ble_eq_true rfl⟩) (fun H locs hw hS => ?_)
            refine lv_aload_n hx hb d_Model_checkHost_91 rfl (lv_at hl 0 rfl) ?_
            refine va_get (D := G.1) (cl := xCl) (ci := 10) (v := .int (s88.1 51 26)) (C := R_Model) (T := T_Model) (N := 33) hx hb hu fi_Model hown hK hw 51 (x_at (by decide) (xcl_51 G s88)) rfl 26 (by decide) (hu _ mw_1094) (fun _ h9 => h9) rfl d_Model_checkHost_92 ?_
            refine lv_if_le (tgt := 107) hx hb d_Model_checkHost_95 (by decide) (fun hc95 => ?_) (fun hc95 => ?_)
            · rw [if_pos hc95] at hE
              refine lv_iconst (v := (0 : Int32)) hx hb d_Model_checkHost_107 (by decide) ?_
              exact jn108 _ ih _ _ _ _ _ _ _ hE (lv_sub hl [0, 1, 2] rfl) hw hS
            · rw [if_neg hc95] at hE
              refine lv_aload_n hx hb d_Model_checkHost_98 rfl (lv_at hl 0 rfl) ?_
              refine va_get (D := G.1) (cl := xCl) (ci := 10) (v := .ref (G.2.1 63)) (C := R_Model) (T := T_Model) (N := 33) hx hb hu fi_Model hown hK hw 51 (x_at (by decide) (xcl_51 G s88)) rfl 27 (by decide) (hu _ mw_1095) (fun _ h9 => h9) rfl d_Model_checkHost_99 ?_
              refine lv_iconst (v := (0 : Int32)) hx hb d_Model_checkHost_102 (by decide) ?_
              obtain ⟨g103, hE⟩ := x_guard hE
              refine va_iald hx hb hK hw 63 0 (x_at (by decide) (xcl_63 G s88)) rfl g103 d_Model_checkHost_103 ?_
              refine lv_goto (tgt := 108) hx hb d_Model_checkHost_104 (by decide) ?_
              exact jn108 _ ih _ _ _ _ _ _ _ hE (lv_sub hl [0, 1, 2] rfl) hw hS
  have jn28 : ∀ (ls : Array Slot) (H : Heap) (locs : List Loc) (σ : St) (l1 : Int32) (k0 : Int32), x_Model_checkHost_28 l1 k0 σ = some σ' → lv_has ls 5 [(0, .ref (G.2.1 51)), (1, .int l1)] → xw G σ H → va_S (xA G) s.heap H locs → W p l e (headSpec (ws_Model_checkHost) rm_Model_checkHost).room s m ([.ref (G.2.1 51)] : List Value).toArray below meth c H locs 0 0 (MQ below (xQ G none σ') ([.ref (G.2.1 51)] : List Value).toArray s 0 0 (xA G)) (F0 m 28 ls [.int k0, .ref (G.2.1 51)]) := by
    intro ls H locs σ l1 k0 hE hl hw hS
    unfold x_Model_checkHost_28 at hE
    refine lv_sipush (v := (400 : Int32)) hx hb d_Model_checkHost_28 (by decide) ?_
    obtain ⟨s31, hC31, hE⟩ := x_bind hE
    refine x_callV hS (W.runV (As := [.int k0, .int (400 : Int32)]) (rest := []) ⟨hx, hb, hml, hown, hu⟩ (t_Model_blame l G σ k0 (400 : Int32) s31 hC31) (cwV 2 hu (uw_V mw_1279 mw_1281 mw_45 mw_70 mw_1282) rfl rfl rfl hd_Model_blame ⟨Nat.le_of_ble_eq_true rfl, Nat.le_of_ble_eq_true rfl⟩) (x_preV hC hS hw (va_recv hK hw (q := (R_Model, T_Model, 33)) (ci := 10) rfl (x_at (by decide) (xcl_51 G σ)))) rfl rfl hl.1 rfl (lv_room (Nat.le_of_ble_eq_true rfl)) d_Model_checkHost_31 ⟨Nat.le_of_ble_eq_true rfl, Nat.le_of_ble_eq_true rfl⟩) (fun H locs hw hS => ?_)
    refine lv_iconst (v := (0 : Int32)) hx hb d_Model_checkHost_34 (by decide) ?_
    refine lv_istore_n hx hb d_Model_checkHost_35 rfl hl (by decide) rfl (fun ls hl => ?_)
    have hl : lv_has ls 5 [(2, .int (0 : Int32)), (0, .ref (G.2.1 51)), (1, .int l1)] := hl
    exact jn36 x_fuel _ _ _ _ _ _ hE (lv_sub hl [1, 2, 0] rfl) hw hS
  have jn27 : ∀ (ls : Array Slot) (H : Heap) (locs : List Loc) (σ : St) (l1 : Int32), x_Model_checkHost_27 l1 σ = some σ' → lv_has ls 5 [(0, .ref (G.2.1 51)), (1, .int l1)] → xw G σ H → va_S (xA G) s.heap H locs → W p l e (headSpec (ws_Model_checkHost) rm_Model_checkHost).room s m ([.ref (G.2.1 51)] : List Value).toArray below meth c H locs 0 0 (MQ below (xQ G none σ') ([.ref (G.2.1 51)] : List Value).toArray s 0 0 (xA G)) (F0 m 27 ls [.ref (G.2.1 51)]) := by
    intro ls H locs σ l1 hE hl hw hS
    unfold x_Model_checkHost_27 at hE
    refine lv_iconst (v := (0 : Int32)) hx hb d_Model_checkHost_27 (by decide) ?_
    exact jn28 _ _ _ _ _ _ hE (lv_sub hl [0, 1] rfl) hw hS
  have jn23 : ∀ (ls : Array Slot) (H : Heap) (locs : List Loc) (σ : St) (l1 : Int32), x_Model_checkHost_23 l1 σ = some σ' → lv_has ls 5 [(0, .ref (G.2.1 51)), (1, .int l1)] → xw G σ H → va_S (xA G) s.heap H locs → W p l e (headSpec (ws_Model_checkHost) rm_Model_checkHost).room s m ([.ref (G.2.1 51)] : List Value).toArray below meth c H locs 0 0 (MQ below (xQ G none σ') ([.ref (G.2.1 51)] : List Value).toArray s 0 0 (xA G)) (F0 m 23 ls [.ref (G.2.1 51)]) := by
    intro ls H locs σ l1 hE hl hw hS
    unfold x_Model_checkHost_23 at hE
    refine lv_iconst (v := (1 : Int32)) hx hb d_Model_checkHost_23 (by decide) ?_
    refine lv_goto (tgt := 28) hx hb d_Model_checkHost_24 (by decide) ?_
    exact jn28 _ _ _ _ _ _ hE (lv_sub hl [0, 1] rfl) hw hS
  have hl := lv_entry ([.ref (G.2.1 51)]) (n := 5) (Nat.le_of_ble_eq_true rfl)
  rw [lg_entry_eq]
  generalize (lg_sl ([.ref (G.2.1 51)]) ++ List.replicate (5 - (lg_sl ([.ref (G.2.1 51)])).length) Slot.unset).toArray = ls at hl ⊢
  have hl : lv_has ls 5 [(0, .ref (G.2.1 51))] := hl
  unfold x_Model_checkHost at hE
  refine lv_aload_n hx hb d_Model_checkHost_0 rfl (lv_at hl 0 rfl) ?_
  refine lv_iconst (v := (0 : Int32)) hx hb d_Model_checkHost_1 (by decide) ?_
  obtain ⟨r2, hC2, hE⟩ := x_bind hE
  refine x_callR (W.runV (As := [.int (0 : Int32)]) (rest := []) ⟨hx, hb, hml, hown, hu⟩ (t_Model_count l G σ (0 : Int32) r2 hC2) (cwV 1 hu (uw_V mw_1267 mw_1269 mw_42 mw_70 mw_1270) rfl rfl rfl hd_Model_count ⟨Nat.le_of_ble_eq_true rfl, Nat.le_of_ble_eq_true rfl⟩) (x_preV hC hS hw (va_recv hK hw (q := (R_Model, T_Model, 33)) (ci := 10) rfl (x_at (by decide) (xcl_51 G σ)))) rfl rfl hl.1 rfl (lv_room (Nat.le_of_ble_eq_true rfl)) d_Model_checkHost_2 ⟨Nat.le_of_ble_eq_true rfl, Nat.le_of_ble_eq_true rfl⟩) ?_
  refine lv_istore_n hx hb d_Model_checkHost_5 rfl hl (by decide) rfl (fun ls hl => ?_)
  have hl : lv_has ls 5 [(1, .int r2), (0, .ref (G.2.1 51))] := hl
  refine lv_aload_n hx hb d_Model_checkHost_6 rfl (lv_at hl 1 rfl) ?_
  refine lv_iload_n hx hb d_Model_checkHost_7 rfl (lv_at hl 0 rfl) ?_
  refine lv_iconst (v := (2 : Int32)) hx hb d_Model_checkHost_8 (by decide) ?_
  refine lv_icmp_ge (tgt := 27) hx hb d_Model_checkHost_9 (by decide) (fun hc9 => ?_) (fun hc9 => ?_)
  · rw [if_pos hc9] at hE
    exact jn27 _ _ _ _ _ hE (lv_sub hl [1, 0] rfl) hw hS
  · rw [if_neg hc9] at hE
    refine lv_iload_n hx hb d_Model_checkHost_12 rfl (lv_at hl 0 rfl) ?_
    refine lv_if_gt (tgt := 23) hx hb d_Model_checkHost_13 (by decide) (fun hc13 => ?_) (fun hc13 => ?_)
    · rw [if_pos hc13] at hE
      exact jn23 _ _ _ _ _ hE (lv_sub hl [1, 0] rfl) hw hS
    · rw [if_neg hc13] at hE
      refine lv_aload_n hx hb d_Model_checkHost_16 rfl (lv_at hl 1 rfl) ?_
      refine va_get (D := G.1) (cl := xCl) (ci := 10) (v := .int (σ.1 51 15)) (C := R_Model) (T := T_Model) (N := 33) hx hb hu fi_Model hown hK hw 51 (x_at (by decide) (xcl_51 G σ)) rfl 15 (by decide) (hu _ mw_1083) (fun _ h9 => h9) rfl d_Model_checkHost_17 ?_
      refine lv_if_ne (tgt := 27) hx hb d_Model_checkHost_20 (by decide) (fun hc20 => ?_) (fun hc20 => ?_)
      · rw [if_neg hc20] at hE
        exact jn27 _ _ _ _ _ hE (lv_sub hl [1, 0] rfl) hw hS
      · rw [if_pos hc20] at hE
        exact jn23 _ _ _ _ _ hE (lv_sub hl [1, 0] rfl) hw hS

def y_Model_checkCoding : MethodName := ⟨"PlainOriginModel", "checkCoding", "()V"⟩
def ws_Model_checkCoding : List Cond := Cond.code y_Model_checkCoding prog_14_method_31_code 1 none :: UW
theorem hd_Model_checkCoding : y_Model_checkCoding.cls = R_Model ∧ y_Model_checkCoding.cls ≠ "java/lang/invoke/MethodHandle" ∧ y_Model_checkCoding.cls ≠ "java/lang/invoke/VarHandle" ∧ (parseMethodDescriptor y_Model_checkCoding.desc).map (fun d => d.parameters.length) = some 0 := by decide +kernel
theorem d_Model_checkCoding_0 : decode prog_14_method_31_code 0 = .ok (.aload_n 0, 1) := by decide +kernel
theorem d_Model_checkCoding_1 : decode prog_14_method_31_code 1 = .ok (.aload_n 0, 1) := by decide +kernel
theorem d_Model_checkCoding_2 : decode prog_14_method_31_code 2 = .ok (.getfield 115, 3) := by decide +kernel
theorem d_Model_checkCoding_5 : decode prog_14_method_31_code 5 = .ok (.ifCond .le (16), 3) := by decide +kernel
theorem d_Model_checkCoding_8 : decode prog_14_method_31_code 8 = .ok (.aload_n 0, 1) := by decide +kernel
theorem d_Model_checkCoding_9 : decode prog_14_method_31_code 9 = .ok (.bipush (23), 2) := by decide +kernel
theorem d_Model_checkCoding_11 : decode prog_14_method_31_code 11 = .ok (.invokevirtual 273, 3) := by decide +kernel
theorem d_Model_checkCoding_14 : decode prog_14_method_31_code 14 = .ok (.ifCond .ne (7), 3) := by decide +kernel
theorem d_Model_checkCoding_17 : decode prog_14_method_31_code 17 = .ok (.iconst 1, 1) := by decide +kernel
theorem d_Model_checkCoding_18 : decode prog_14_method_31_code 18 = .ok (.goto (4), 3) := by decide +kernel
theorem d_Model_checkCoding_21 : decode prog_14_method_31_code 21 = .ok (.iconst 0, 1) := by decide +kernel
theorem d_Model_checkCoding_22 : decode prog_14_method_31_code 22 = .ok (.sipush (400), 3) := by decide +kernel
theorem d_Model_checkCoding_25 : decode prog_14_method_31_code 25 = .ok (.invokevirtual 194, 3) := by decide +kernel
theorem d_Model_checkCoding_28 : decode prog_14_method_31_code 28 = .ok (.aload_n 0, 1) := by decide +kernel
theorem d_Model_checkCoding_29 : decode prog_14_method_31_code 29 = .ok (.iconst 5, 1) := by decide +kernel
theorem d_Model_checkCoding_30 : decode prog_14_method_31_code 30 = .ok (.invokevirtual 270, 3) := by decide +kernel
theorem d_Model_checkCoding_33 : decode prog_14_method_31_code 33 = .ok (.aload_n 0, 1) := by decide +kernel
theorem d_Model_checkCoding_34 : decode prog_14_method_31_code 34 = .ok (.aload_n 0, 1) := by decide +kernel
theorem d_Model_checkCoding_35 : decode prog_14_method_31_code 35 = .ok (.getfield 263, 3) := by decide +kernel
theorem d_Model_checkCoding_38 : decode prog_14_method_31_code 38 = .ok (.ifCond .le (38), 3) := by decide +kernel
theorem d_Model_checkCoding_41 : decode prog_14_method_31_code 41 = .ok (.aload_n 0, 1) := by decide +kernel
theorem d_Model_checkCoding_42 : decode prog_14_method_31_code 42 = .ok (.aload_n 0, 1) := by decide +kernel
theorem d_Model_checkCoding_43 : decode prog_14_method_31_code 43 = .ok (.getfield 130, 3) := by decide +kernel
theorem d_Model_checkCoding_46 : decode prog_14_method_31_code 46 = .ok (.aload_n 0, 1) := by decide +kernel
theorem d_Model_checkCoding_47 : decode prog_14_method_31_code 47 = .ok (.getfield 263, 3) := by decide +kernel
theorem d_Model_checkCoding_50 : decode prog_14_method_31_code 50 = .ok (.iconst 1, 1) := by decide +kernel
theorem d_Model_checkCoding_51 : decode prog_14_method_31_code 51 = .ok (.isub, 1) := by decide +kernel
theorem d_Model_checkCoding_52 : decode prog_14_method_31_code 52 = .ok (.iaload, 1) := by decide +kernel
theorem d_Model_checkCoding_53 : decode prog_14_method_31_code 53 = .ok (.aload_n 0, 1) := by decide +kernel
theorem d_Model_checkCoding_54 : decode prog_14_method_31_code 54 = .ok (.getfield 133, 3) := by decide +kernel
theorem d_Model_checkCoding_57 : decode prog_14_method_31_code 57 = .ok (.aload_n 0, 1) := by decide +kernel
theorem d_Model_checkCoding_58 : decode prog_14_method_31_code 58 = .ok (.getfield 263, 3) := by decide +kernel
theorem d_Model_checkCoding_61 : decode prog_14_method_31_code 61 = .ok (.iconst 1, 1) := by decide +kernel
theorem d_Model_checkCoding_62 : decode prog_14_method_31_code 62 = .ok (.isub, 1) := by decide +kernel
theorem d_Model_checkCoding_63 : decode prog_14_method_31_code 63 = .ok (.iaload, 1) := by decide +kernel
theorem d_Model_checkCoding_64 : decode prog_14_method_31_code 64 = .ok (.bipush (76), 2) := by decide +kernel
theorem d_Model_checkCoding_66 : decode prog_14_method_31_code 66 = .ok (.invokevirtual 254, 3) := by decide +kernel
theorem d_Model_checkCoding_69 : decode prog_14_method_31_code 69 = .ok (.ifCond .eq (7), 3) := by decide +kernel
theorem d_Model_checkCoding_72 : decode prog_14_method_31_code 72 = .ok (.iconst 1, 1) := by decide +kernel
theorem d_Model_checkCoding_73 : decode prog_14_method_31_code 73 = .ok (.goto (4), 3) := by decide +kernel
theorem d_Model_checkCoding_76 : decode prog_14_method_31_code 76 = .ok (.iconst 0, 1) := by decide +kernel
theorem d_Model_checkCoding_77 : decode prog_14_method_31_code 77 = .ok (.sipush (400), 3) := by decide +kernel
theorem d_Model_checkCoding_80 : decode prog_14_method_31_code 80 = .ok (.invokevirtual 194, 3) := by decide +kernel
theorem d_Model_checkCoding_83 : decode prog_14_method_31_code 83 = .ok (.aload_n 0, 1) := by decide +kernel
theorem d_Model_checkCoding_84 : decode prog_14_method_31_code 84 = .ok (.aload_n 0, 1) := by decide +kernel
theorem d_Model_checkCoding_85 : decode prog_14_method_31_code 85 = .ok (.getfield 263, 3) := by decide +kernel
theorem d_Model_checkCoding_88 : decode prog_14_method_31_code 88 = .ok (.iconst 1, 1) := by decide +kernel
theorem d_Model_checkCoding_89 : decode prog_14_method_31_code 89 = .ok (.if_icmp .ne (7), 3) := by decide +kernel
theorem d_Model_checkCoding_92 : decode prog_14_method_31_code 92 = .ok (.iconst 1, 1) := by decide +kernel
theorem d_Model_checkCoding_93 : decode prog_14_method_31_code 93 = .ok (.goto (4), 3) := by decide +kernel
theorem d_Model_checkCoding_96 : decode prog_14_method_31_code 96 = .ok (.iconst 0, 1) := by decide +kernel
theorem d_Model_checkCoding_97 : decode prog_14_method_31_code 97 = .ok (.sipush (501), 3) := by decide +kernel
theorem d_Model_checkCoding_100 : decode prog_14_method_31_code 100 = .ok (.invokevirtual 194, 3) := by decide +kernel
theorem d_Model_checkCoding_103 : decode prog_14_method_31_code 103 = .ok (.return_, 1) := by decide +kernel
def x_Model_checkCoding_97 (k0 : Int32) (σ : St) : Option St := (Option.bind (x_Model_blame k0 (501 : Int32) σ) (fun s100 => some s100))
def x_Model_checkCoding_77 (k0 : Int32) (σ : St) : Option St := (Option.bind (x_Model_blame k0 (400 : Int32) σ) (fun s80 => (if (s80.1 51 26) = (1 : Int32) then x_Model_checkCoding_97 (1 : Int32) s80 else x_Model_checkCoding_97 (0 : Int32) s80)))
def x_Model_checkCoding_76 (σ : St) : Option St := x_Model_checkCoding_77 (0 : Int32) σ
def x_Model_checkCoding_22 (k0 : Int32) (σ : St) : Option St := (Option.bind (x_Model_blame k0 (400 : Int32) σ) (fun s25 => (Option.bind (x_Model_list (5 : Int32) s25) (fun s30 => (if (s30.1 51 26) ≤ 0 then x_Model_checkCoding_76 s30 else (if x_in ((s30.1 51 26) - (1 : Int32)) 512 then (if x_in ((s30.1 51 26) - (1 : Int32)) 512 then (Option.bind (x_Model_isWord (s30.2.1 63 ((s30.1 51 26) - (1 : Int32)).toNatClampNeg) (s30.2.1 64 ((s30.1 51 26) - (1 : Int32)).toNatClampNeg) (76 : Int32) s30) (fun r66 => (if r66 = 0 then x_Model_checkCoding_76 s30 else x_Model_checkCoding_77 (1 : Int32) s30))) else none) else none))))))
def x_Model_checkCoding_21 (σ : St) : Option St := x_Model_checkCoding_22 (0 : Int32) σ
def x_Model_checkCoding (σ : St) : Option St := (if (σ.1 51 15) ≤ 0 then x_Model_checkCoding_21 σ else (Option.bind (x_Model_count (23 : Int32) σ) (fun r11 => (if r11 = 0 then x_Model_checkCoding_22 (1 : Int32) σ else x_Model_checkCoding_21 σ))))
abbrev rm_Model_checkCoding : Room := { frames := 5, cells := 0, slots := 0, locals := 113 }
set_option maxHeartbeats 4000000 in
set_option maxRecDepth 100000 in
theorem t_Model_checkCoding (l : Launch) (G : xG) (σ : St) (σ' : St) (hE : x_Model_checkCoding σ = some σ') : Met l y_Model_checkCoding (ws_Model_checkCoding) rm_Model_checkCoding (xP G σ [.ref (G.2.1 51)]) (xQ G none σ') 0 0 (xA G) := by
  refine Met.ofW (cc := prog_14_method_31_code) (maxL := 1) (ret := none) (by decide) rfl ?_
  intro p e s m args below meth c s₁ B hml hv
  obtain ⟨rfl, hw, hC⟩ := hv
  have hx := B.exec
  have hb := B.bytes
  have hr := B.returns
  have hu : ∀ w ∈ UW, w.before _ s = true := fun w h => atoms_spec B.pre w (List.mem_cons_of_mem _ h)
  have hown : s.vm.findClass R_Model = some m.cls := findClass_of_methodNamed B.named
  have hlocks := B.notSynchronized
  have hK := hC.1
  have hI := hC.2.1
  have hG := hC.2.2.1
  have hN := hC.2.2.2
  have hS : va_S (xA G) s.heap s.heap [] := va_S.rf
  have jn97 : ∀ (ls : Array Slot) (H : Heap) (locs : List Loc) (σ : St) (k0 : Int32), x_Model_checkCoding_97 k0 σ = some σ' → lv_has ls 1 [(0, .ref (G.2.1 51))] → xw G σ H → va_S (xA G) s.heap H locs → W p l e (headSpec (ws_Model_checkCoding) rm_Model_checkCoding).room s m ([.ref (G.2.1 51)] : List Value).toArray below meth c H locs 0 0 (MQ below (xQ G none σ') ([.ref (G.2.1 51)] : List Value).toArray s 0 0 (xA G)) (F0 m 97 ls [.int k0, .ref (G.2.1 51)]) := by
    intro ls H locs σ k0 hE hl hw hS
    unfold x_Model_checkCoding_97 at hE
    refine lv_sipush (v := (501 : Int32)) hx hb d_Model_checkCoding_97 (by decide) ?_
    obtain ⟨s100, hC100, hE⟩ := x_bind hE
    refine x_callV hS (W.runV (As := [.int k0, .int (501 : Int32)]) (rest := []) ⟨hx, hb, hml, hown, hu⟩ (t_Model_blame l G σ k0 (501 : Int32) s100 hC100) (cwV 2 hu (uw_V mw_1279 mw_1281 mw_45 mw_70 mw_1282) rfl rfl rfl hd_Model_blame ⟨Nat.le_of_ble_eq_true rfl, Nat.le_of_ble_eq_true rfl⟩) (x_preV hC hS hw (va_recv hK hw (q := (R_Model, T_Model, 33)) (ci := 10) rfl (x_at (by decide) (xcl_51 G σ)))) rfl rfl hl.1 rfl (lv_room (Nat.le_of_ble_eq_true rfl)) d_Model_checkCoding_100 ⟨Nat.le_of_ble_eq_true rfl, Nat.le_of_ble_eq_true rfl⟩) (fun H locs hw hS => ?_)
    have e1 := Option.some.inj hE
    exact W.vret hx hb hr (fun t ht hW => ⟨rfl, by rw [ht, ← e1]; exact hw, hS.F ht⟩) hS.2.2 d_Model_checkCoding_103
  have jn77 : ∀ (ls : Array Slot) (H : Heap) (locs : List Loc) (σ : St) (k0 : Int32), x_Model_checkCoding_77 k0 σ = some σ' → lv_has ls 1 [(0, .ref (G.2.1 51))] → xw G σ H → va_S (xA G) s.heap H locs → W p l e (headSpec (ws_Model_checkCoding) rm_Model_checkCoding).room s m ([.ref (G.2.1 51)] : List Value).toArray below meth c H locs 0 0 (MQ below (xQ G none σ') ([.ref (G.2.1 51)] : List Value).toArray s 0 0 (xA G)) (F0 m 77 ls [.int k0, .ref (G.2.1 51)]) := by
    intro ls H locs σ k0 hE hl hw hS
    unfold x_Model_checkCoding_77 at hE
    refine lv_sipush (v := (400 : Int32)) hx hb d_Model_checkCoding_77 (by decide) ?_
    obtain ⟨s80, hC80, hE⟩ := x_bind hE
    refine x_callV hS (W.runV (As := [.int k0, .int (400 : Int32)]) (rest := []) ⟨hx, hb, hml, hown, hu⟩ (t_Model_blame l G σ k0 (400 : Int32) s80 hC80) (cwV 2 hu (uw_V mw_1279 mw_1281 mw_45 mw_70 mw_1282) rfl rfl rfl hd_Model_blame ⟨Nat.le_of_ble_eq_true rfl, Nat.le_of_ble_eq_true rfl⟩) (x_preV hC hS hw (va_recv hK hw (q := (R_Model, T_Model, 33)) (ci := 10) rfl (x_at (by decide) (xcl_51 G σ)))) rfl rfl hl.1 rfl (lv_room (Nat.le_of_ble_eq_true rfl)) d_Model_checkCoding_80 ⟨Nat.le_of_ble_eq_true rfl, Nat.le_of_ble_eq_true rfl⟩) (fun H locs hw hS => ?_)
    refine lv_aload_n hx hb d_Model_checkCoding_83 rfl (lv_at hl 0 rfl) ?_
    refine lv_aload_n hx hb d_Model_checkCoding_84 rfl (lv_at hl 0 rfl) ?_
    refine va_get (D := G.1) (cl := xCl) (ci := 10) (v := .int (s80.1 51 26)) (C := R_Model) (T := T_Model) (N := 33) hx hb hu fi_Model hown hK hw 51 (x_at (by decide) (xcl_51 G s80)) rfl 26 (by decide) (hu _ mw_1094) (fun _ h9 => h9) rfl d_Model_checkCoding_85 ?_
    refine lv_iconst (v := (1 : Int32)) hx hb d_Model_checkCoding_88 (by decide) ?_
    refine lv_icmp_ne (tgt := 96) hx hb d_Model_checkCoding_89 (by decide) (fun hc89 => ?_) (fun hc89 => ?_)
    · rw [if_neg hc89] at hE
      refine lv_iconst (v := (0 : Int32)) hx hb d_Model_checkCoding_96 (by decide) ?_
      exact jn97 _ _ _ _ _ hE (lv_sub hl [0] rfl) hw hS
    · rw [if_pos hc89] at hE
      refine lv_iconst (v := (1 : Int32)) hx hb d_Model_checkCoding_92 (by decide) ?_
      refine lv_goto (tgt := 97) hx hb d_Model_checkCoding_93 (by decide) ?_
      exact jn97 _ _ _ _ _ hE (lv_sub hl [0] rfl) hw hS
  have jn76 : ∀ (ls : Array Slot) (H : Heap) (locs : List Loc) (σ : St), x_Model_checkCoding_76 σ = some σ' → lv_has ls 1 [(0, .ref (G.2.1 51))] → xw G σ H → va_S (xA G) s.heap H locs → W p l e (headSpec (ws_Model_checkCoding) rm_Model_checkCoding).room s m ([.ref (G.2.1 51)] : List Value).toArray below meth c H locs 0 0 (MQ below (xQ G none σ') ([.ref (G.2.1 51)] : List Value).toArray s 0 0 (xA G)) (F0 m 76 ls [.ref (G.2.1 51)]) := by
    intro ls H locs σ hE hl hw hS
    unfold x_Model_checkCoding_76 at hE
    refine lv_iconst (v := (0 : Int32)) hx hb d_Model_checkCoding_76 (by decide) ?_
    exact jn77 _ _ _ _ _ hE (lv_sub hl [0] rfl) hw hS
  have jn22 : ∀ (ls : Array Slot) (H : Heap) (locs : List Loc) (σ : St) (k0 : Int32), x_Model_checkCoding_22 k0 σ = some σ' → lv_has ls 1 [(0, .ref (G.2.1 51))] → xw G σ H → va_S (xA G) s.heap H locs → W p l e (headSpec (ws_Model_checkCoding) rm_Model_checkCoding).room s m ([.ref (G.2.1 51)] : List Value).toArray below meth c H locs 0 0 (MQ below (xQ G none σ') ([.ref (G.2.1 51)] : List Value).toArray s 0 0 (xA G)) (F0 m 22 ls [.int k0, .ref (G.2.1 51)]) := by
    intro ls H locs σ k0 hE hl hw hS
    unfold x_Model_checkCoding_22 at hE
    refine lv_sipush (v := (400 : Int32)) hx hb d_Model_checkCoding_22 (by decide) ?_
    obtain ⟨s25, hC25, hE⟩ := x_bind hE
    refine x_callV hS (W.runV (As := [.int k0, .int (400 : Int32)]) (rest := []) ⟨hx, hb, hml, hown, hu⟩ (t_Model_blame l G σ k0 (400 : Int32) s25 hC25) (cwV 2 hu (uw_V mw_1279 mw_1281 mw_45 mw_70 mw_1282) rfl rfl rfl hd_Model_blame ⟨Nat.le_of_ble_eq_true rfl, Nat.le_of_ble_eq_true rfl⟩) (x_preV hC hS hw (va_recv hK hw (q := (R_Model, T_Model, 33)) (ci := 10) rfl (x_at (by decide) (xcl_51 G σ)))) rfl rfl hl.1 rfl (lv_room (Nat.le_of_ble_eq_true rfl)) d_Model_checkCoding_25 ⟨Nat.le_of_ble_eq_true rfl, Nat.le_of_ble_eq_true rfl⟩) (fun H locs hw hS => ?_)
    refine lv_aload_n hx hb d_Model_checkCoding_28 rfl (lv_at hl 0 rfl) ?_
    refine lv_iconst (v := (5 : Int32)) hx hb d_Model_checkCoding_29 (by decide) ?_
    obtain ⟨s30, hC30, hE⟩ := x_bind hE
    refine x_callV hS (W.runV (As := [.int (5 : Int32)]) (rest := []) ⟨hx, hb, hml, hown, hu⟩ (t_Model_list l G s25 (5 : Int32) s30 hC30) (cwV 1 hu (uw_V mw_1243 mw_1245 mw_36 mw_70 mw_1246) rfl rfl rfl hd_Model_list ⟨Nat.le_of_ble_eq_true rfl, Nat.le_of_ble_eq_true rfl⟩) (x_preV hC hS hw (va_recv hK hw (q := (R_Model, T_Model, 33)) (ci := 10) rfl (x_at (by decide) (xcl_51 G s25)))) rfl rfl hl.1 rfl (lv_room (Nat.le_of_ble_eq_true rfl)) d_Model_checkCoding_30 ⟨Nat.le_of_ble_eq_true rfl, Nat.le_of_ble_eq_true rfl⟩) (fun H locs hw hS => ?_)
    refine lv_aload_n hx hb d_Model_checkCoding_33 rfl (lv_at hl 0 rfl) ?_
    refine lv_aload_n hx hb d_Model_checkCoding_34 rfl (lv_at hl 0 rfl) ?_
    refine va_get (D := G.1) (cl := xCl) (ci := 10) (v := .int (s30.1 51 26)) (C := R_Model) (T := T_Model) (N := 33) hx hb hu fi_Model hown hK hw 51 (x_at (by decide) (xcl_51 G s30)) rfl 26 (by decide) (hu _ mw_1094) (fun _ h9 => h9) rfl d_Model_checkCoding_35 ?_
    refine lv_if_le (tgt := 76) hx hb d_Model_checkCoding_38 (by decide) (fun hc38 => ?_) (fun hc38 => ?_)
    · rw [if_pos hc38] at hE
      exact jn76 _ _ _ _ hE (lv_sub hl [0] rfl) hw hS
    · rw [if_neg hc38] at hE
      refine lv_aload_n hx hb d_Model_checkCoding_41 rfl (lv_at hl 0 rfl) ?_
      refine lv_aload_n hx hb d_Model_checkCoding_42 rfl (lv_at hl 0 rfl) ?_
      refine va_get (D := G.1) (cl := xCl) (ci := 10) (v := .ref (G.2.1 63)) (C := R_Model) (T := T_Model) (N := 33) hx hb hu fi_Model hown hK hw 51 (x_at (by decide) (xcl_51 G s30)) rfl 27 (by decide) (hu _ mw_1095) (fun _ h9 => h9) rfl d_Model_checkCoding_43 ?_
      refine lv_aload_n hx hb d_Model_checkCoding_46 rfl (lv_at hl 0 rfl) ?_
      refine va_get (D := G.1) (cl := xCl) (ci := 10) (v := .int (s30.1 51 26)) (C := R_Model) (T := T_Model) (N := 33) hx hb hu fi_Model hown hK hw 51 (x_at (by decide) (xcl_51 G s30)) rfl 26 (by decide) (hu _ mw_1094) (fun _ h9 => h9) rfl d_Model_checkCoding_47 ?_
      refine lv_iconst (v := (1 : Int32)) hx hb d_Model_checkCoding_50 (by decide) ?_
      refine lv_isub hx hb d_Model_checkCoding_51 ?_
      obtain ⟨g52, hE⟩ := x_guard hE
      refine va_iald hx hb hK hw 63 0 (x_at (by decide) (xcl_63 G s30)) rfl g52 d_Model_checkCoding_52 ?_
      refine lv_aload_n hx hb d_Model_checkCoding_53 rfl (lv_at hl 0 rfl) ?_
      refine va_get (D := G.1) (cl := xCl) (ci := 10) (v := .ref (G.2.1 64)) (C := R_Model) (T := T_Model) (N := 33) hx hb hu fi_Model hown hK hw 51 (x_at (by decide) (xcl_51 G s30)) rfl 28 (by decide) (hu _ mw_1096) (fun _ h9 => h9) rfl d_Model_checkCoding_54 ?_
      refine lv_aload_n hx hb d_Model_checkCoding_57 rfl (lv_at hl 0 rfl) ?_
      refine va_get (D := G.1) (cl := xCl) (ci := 10) (v := .int (s30.1 51 26)) (C := R_Model) (T := T_Model) (N := 33) hx hb hu fi_Model hown hK hw 51 (x_at (by decide) (xcl_51 G s30)) rfl 26 (by decide) (hu _ mw_1094) (fun _ h9 => h9) rfl d_Model_checkCoding_58 ?_
      refine lv_iconst (v := (1 : Int32)) hx hb d_Model_checkCoding_61 (by decide) ?_
      refine lv_isub hx hb d_Model_checkCoding_62 ?_
      obtain ⟨g63, hE⟩ := x_guard hE
      refine va_iald hx hb hK hw 64 0 (x_at (by decide) (xcl_64 G s30)) rfl g63 d_Model_checkCoding_63 ?_
      refine lv_bipush (v := (76 : Int32)) hx hb d_Model_checkCoding_64 (by decide) ?_
      obtain ⟨r66, hC66, hE⟩ := x_bind hE
      refine x_callR (W.runV (As := [.int (s30.2.1 63 ((s30.1 51 26) - (1 : Int32)).toNatClampNeg), .int (s30.2.1 64 ((s30.1 51 26) - (1 : Int32)).toNatClampNeg), .int (76 : Int32)]) (rest := [.ref (G.2.1 51)]) ⟨hx, hb, hml, hown, hu⟩ (t_Model_isWord l G s30 (s30.2.1 63 ((s30.1 51 26) - (1 : Int32)).toNatClampNeg) (s30.2.1 64 ((s30.1 51 26) - (1 : Int32)).toNatClampNeg) (76 : Int32) r66 hC66) (cwV 3 hu (uw_V mw_1251 mw_1253 mw_38 mw_70 mw_1254) rfl rfl rfl hd_Model_isWord ⟨Nat.le_of_ble_eq_true rfl, Nat.le_of_ble_eq_true rfl⟩) (x_preV hC hS hw (va_recv hK hw (q := (R_Model, T_Model, 33)) (ci := 10) rfl (x_at (by decide) (xcl_51 G s30)))) rfl rfl hl.1 rfl (lv_room (Nat.le_of_ble_eq_true rfl)) d_Model_checkCoding_66 ⟨Nat.le_of_ble_eq_true rfl, Nat.le_of_ble_eq_true rfl⟩) ?_
      refine lv_if_eq (tgt := 76) hx hb d_Model_checkCoding_69 (by decide) (fun hc69 => ?_) (fun hc69 => ?_)
      · rw [if_pos hc69] at hE
        exact jn76 _ _ _ _ hE (lv_sub hl [0] rfl) hw hS
      · rw [if_neg hc69] at hE
        refine lv_iconst (v := (1 : Int32)) hx hb d_Model_checkCoding_72 (by decide) ?_
        refine lv_goto (tgt := 77) hx hb d_Model_checkCoding_73 (by decide) ?_
        exact jn77 _ _ _ _ _ hE (lv_sub hl [0] rfl) hw hS
  have jn21 : ∀ (ls : Array Slot) (H : Heap) (locs : List Loc) (σ : St), x_Model_checkCoding_21 σ = some σ' → lv_has ls 1 [(0, .ref (G.2.1 51))] → xw G σ H → va_S (xA G) s.heap H locs → W p l e (headSpec (ws_Model_checkCoding) rm_Model_checkCoding).room s m ([.ref (G.2.1 51)] : List Value).toArray below meth c H locs 0 0 (MQ below (xQ G none σ') ([.ref (G.2.1 51)] : List Value).toArray s 0 0 (xA G)) (F0 m 21 ls [.ref (G.2.1 51)]) := by
    intro ls H locs σ hE hl hw hS
    unfold x_Model_checkCoding_21 at hE
    refine lv_iconst (v := (0 : Int32)) hx hb d_Model_checkCoding_21 (by decide) ?_
    exact jn22 _ _ _ _ _ hE (lv_sub hl [0] rfl) hw hS
  have hl := lv_entry ([.ref (G.2.1 51)]) (n := 1) (Nat.le_of_ble_eq_true rfl)
  rw [lg_entry_eq]
  generalize (lg_sl ([.ref (G.2.1 51)]) ++ List.replicate (1 - (lg_sl ([.ref (G.2.1 51)])).length) Slot.unset).toArray = ls at hl ⊢
  have hl : lv_has ls 1 [(0, .ref (G.2.1 51))] := hl
  unfold x_Model_checkCoding at hE
  refine lv_aload_n hx hb d_Model_checkCoding_0 rfl (lv_at hl 0 rfl) ?_
  refine lv_aload_n hx hb d_Model_checkCoding_1 rfl (lv_at hl 0 rfl) ?_
  refine va_get (D := G.1) (cl := xCl) (ci := 10) (v := .int (σ.1 51 15)) (C := R_Model) (T := T_Model) (N := 33) hx hb hu fi_Model hown hK hw 51 (x_at (by decide) (xcl_51 G σ)) rfl 15 (by decide) (hu _ mw_1083) (fun _ h9 => h9) rfl d_Model_checkCoding_2 ?_
  refine lv_if_le (tgt := 21) hx hb d_Model_checkCoding_5 (by decide) (fun hc5 => ?_) (fun hc5 => ?_)
  · rw [if_pos hc5] at hE
    exact jn21 _ _ _ _ hE (lv_sub hl [0] rfl) hw hS
  · rw [if_neg hc5] at hE
    refine lv_aload_n hx hb d_Model_checkCoding_8 rfl (lv_at hl 0 rfl) ?_
    refine lv_bipush (v := (23 : Int32)) hx hb d_Model_checkCoding_9 (by decide) ?_
    obtain ⟨r11, hC11, hE⟩ := x_bind hE
    refine x_callR (W.runV (As := [.int (23 : Int32)]) (rest := [.ref (G.2.1 51)]) ⟨hx, hb, hml, hown, hu⟩ (t_Model_count l G σ (23 : Int32) r11 hC11) (cwV 1 hu (uw_V mw_1267 mw_1269 mw_42 mw_70 mw_1270) rfl rfl rfl hd_Model_count ⟨Nat.le_of_ble_eq_true rfl, Nat.le_of_ble_eq_true rfl⟩) (x_preV hC hS hw (va_recv hK hw (q := (R_Model, T_Model, 33)) (ci := 10) rfl (x_at (by decide) (xcl_51 G σ)))) rfl rfl hl.1 rfl (lv_room (Nat.le_of_ble_eq_true rfl)) d_Model_checkCoding_11 ⟨Nat.le_of_ble_eq_true rfl, Nat.le_of_ble_eq_true rfl⟩) ?_
    refine lv_if_ne (tgt := 21) hx hb d_Model_checkCoding_14 (by decide) (fun hc14 => ?_) (fun hc14 => ?_)
    · rw [if_neg hc14] at hE
      exact jn21 _ _ _ _ hE (lv_sub hl [0] rfl) hw hS
    · rw [if_pos hc14] at hE
      refine lv_iconst (v := (1 : Int32)) hx hb d_Model_checkCoding_17 (by decide) ?_
      refine lv_goto (tgt := 22) hx hb d_Model_checkCoding_18 (by decide) ?_
      exact jn22 _ _ _ _ _ hE (lv_sub hl [0] rfl) hw hS

def y_Model_checkLength : MethodName := ⟨"PlainOriginModel", "checkLength", "()V"⟩
def ws_Model_checkLength : List Cond := Cond.code y_Model_checkLength prog_14_method_32_code 3 none :: UW
theorem hd_Model_checkLength : y_Model_checkLength.cls = R_Model ∧ y_Model_checkLength.cls ≠ "java/lang/invoke/MethodHandle" ∧ y_Model_checkLength.cls ≠ "java/lang/invoke/VarHandle" ∧ (parseMethodDescriptor y_Model_checkLength.desc).map (fun d => d.parameters.length) = some 0 := by decide +kernel
theorem d_Model_checkLength_0 : decode prog_14_method_32_code 0 = .ok (.aload_n 0, 1) := by decide +kernel
theorem d_Model_checkLength_1 : decode prog_14_method_32_code 1 = .ok (.bipush (23), 2) := by decide +kernel
theorem d_Model_checkLength_3 : decode prog_14_method_32_code 3 = .ok (.invokevirtual 270, 3) := by decide +kernel
theorem d_Model_checkLength_6 : decode prog_14_method_32_code 6 = .ok (.aload_n 0, 1) := by decide +kernel
theorem d_Model_checkLength_7 : decode prog_14_method_32_code 7 = .ok (.aload_n 0, 1) := by decide +kernel
theorem d_Model_checkLength_8 : decode prog_14_method_32_code 8 = .ok (.getfield 263, 3) := by decide +kernel
theorem d_Model_checkLength_11 : decode prog_14_method_32_code 11 = .ok (.ifCond .le (7), 3) := by decide +kernel
theorem d_Model_checkLength_14 : decode prog_14_method_32_code 14 = .ok (.iconst 1, 1) := by decide +kernel
theorem d_Model_checkLength_15 : decode prog_14_method_32_code 15 = .ok (.goto (4), 3) := by decide +kernel
theorem d_Model_checkLength_18 : decode prog_14_method_32_code 18 = .ok (.iconst 0, 1) := by decide +kernel
theorem d_Model_checkLength_19 : decode prog_14_method_32_code 19 = .ok (.sipush (400), 3) := by decide +kernel
theorem d_Model_checkLength_22 : decode prog_14_method_32_code 22 = .ok (.invokevirtual 194, 3) := by decide +kernel
theorem d_Model_checkLength_25 : decode prog_14_method_32_code 25 = .ok (.iconst 0, 1) := by decide +kernel
theorem d_Model_checkLength_26 : decode prog_14_method_32_code 26 = .ok (.istore_n 1, 1) := by decide +kernel
theorem d_Model_checkLength_27 : decode prog_14_method_32_code 27 = .ok (.iload_n 1, 1) := by decide +kernel
theorem d_Model_checkLength_28 : decode prog_14_method_32_code 28 = .ok (.aload_n 0, 1) := by decide +kernel
theorem d_Model_checkLength_29 : decode prog_14_method_32_code 29 = .ok (.getfield 263, 3) := by decide +kernel
theorem d_Model_checkLength_32 : decode prog_14_method_32_code 32 = .ok (.if_icmp .ge (59), 3) := by decide +kernel
theorem d_Model_checkLength_35 : decode prog_14_method_32_code 35 = .ok (.aload_n 0, 1) := by decide +kernel
theorem d_Model_checkLength_36 : decode prog_14_method_32_code 36 = .ok (.aload_n 0, 1) := by decide +kernel
theorem d_Model_checkLength_37 : decode prog_14_method_32_code 37 = .ok (.getfield 130, 3) := by decide +kernel
theorem d_Model_checkLength_40 : decode prog_14_method_32_code 40 = .ok (.iload_n 1, 1) := by decide +kernel
theorem d_Model_checkLength_41 : decode prog_14_method_32_code 41 = .ok (.iaload, 1) := by decide +kernel
theorem d_Model_checkLength_42 : decode prog_14_method_32_code 42 = .ok (.aload_n 0, 1) := by decide +kernel
theorem d_Model_checkLength_43 : decode prog_14_method_32_code 43 = .ok (.getfield 133, 3) := by decide +kernel
theorem d_Model_checkLength_46 : decode prog_14_method_32_code 46 = .ok (.iload_n 1, 1) := by decide +kernel
theorem d_Model_checkLength_47 : decode prog_14_method_32_code 47 = .ok (.iaload, 1) := by decide +kernel
theorem d_Model_checkLength_48 : decode prog_14_method_32_code 48 = .ok (.invokevirtual 276, 3) := by decide +kernel
theorem d_Model_checkLength_51 : decode prog_14_method_32_code 51 = .ok (.istore_n 2, 1) := by decide +kernel
theorem d_Model_checkLength_52 : decode prog_14_method_32_code 52 = .ok (.aload_n 0, 1) := by decide +kernel
theorem d_Model_checkLength_53 : decode prog_14_method_32_code 53 = .ok (.iload_n 2, 1) := by decide +kernel
theorem d_Model_checkLength_54 : decode prog_14_method_32_code 54 = .ok (.ifCond .lt (19), 3) := by decide +kernel
theorem d_Model_checkLength_57 : decode prog_14_method_32_code 57 = .ok (.iload_n 1, 1) := by decide +kernel
theorem d_Model_checkLength_58 : decode prog_14_method_32_code 58 = .ok (.ifCond .eq (11), 3) := by decide +kernel
theorem d_Model_checkLength_61 : decode prog_14_method_32_code 61 = .ok (.iload_n 2, 1) := by decide +kernel
theorem d_Model_checkLength_62 : decode prog_14_method_32_code 62 = .ok (.aload_n 0, 1) := by decide +kernel
theorem d_Model_checkLength_63 : decode prog_14_method_32_code 63 = .ok (.getfield 182, 3) := by decide +kernel
theorem d_Model_checkLength_66 : decode prog_14_method_32_code 66 = .ok (.if_icmp .ne (7), 3) := by decide +kernel
theorem d_Model_checkLength_69 : decode prog_14_method_32_code 69 = .ok (.iconst 1, 1) := by decide +kernel
theorem d_Model_checkLength_70 : decode prog_14_method_32_code 70 = .ok (.goto (4), 3) := by decide +kernel
theorem d_Model_checkLength_73 : decode prog_14_method_32_code 73 = .ok (.iconst 0, 1) := by decide +kernel
theorem d_Model_checkLength_74 : decode prog_14_method_32_code 74 = .ok (.sipush (400), 3) := by decide +kernel
theorem d_Model_checkLength_77 : decode prog_14_method_32_code 77 = .ok (.invokevirtual 194, 3) := by decide +kernel
theorem d_Model_checkLength_80 : decode prog_14_method_32_code 80 = .ok (.aload_n 0, 1) := by decide +kernel
theorem d_Model_checkLength_81 : decode prog_14_method_32_code 81 = .ok (.iload_n 2, 1) := by decide +kernel
theorem d_Model_checkLength_82 : decode prog_14_method_32_code 82 = .ok (.putfield 182, 3) := by decide +kernel
theorem d_Model_checkLength_85 : decode prog_14_method_32_code 85 = .ok (.iinc 1 (1), 3) := by decide +kernel
theorem d_Model_checkLength_88 : decode prog_14_method_32_code 88 = .ok (.goto (-61), 3) := by decide +kernel
theorem d_Model_checkLength_91 : decode prog_14_method_32_code 91 = .ok (.aload_n 0, 1) := by decide +kernel
theorem d_Model_checkLength_92 : decode prog_14_method_32_code 92 = .ok (.aload_n 0, 1) := by decide +kernel
theorem d_Model_checkLength_93 : decode prog_14_method_32_code 93 = .ok (.getfield 182, 3) := by decide +kernel
theorem d_Model_checkLength_96 : decode prog_14_method_32_code 96 = .ok (.sipush (200), 3) := by decide +kernel
theorem d_Model_checkLength_99 : decode prog_14_method_32_code 99 = .ok (.if_icmp .gt (7), 3) := by decide +kernel
theorem d_Model_checkLength_102 : decode prog_14_method_32_code 102 = .ok (.iconst 1, 1) := by decide +kernel
theorem d_Model_checkLength_103 : decode prog_14_method_32_code 103 = .ok (.goto (4), 3) := by decide +kernel
theorem d_Model_checkLength_106 : decode prog_14_method_32_code 106 = .ok (.iconst 0, 1) := by decide +kernel
theorem d_Model_checkLength_107 : decode prog_14_method_32_code 107 = .ok (.sipush (413), 3) := by decide +kernel
theorem d_Model_checkLength_110 : decode prog_14_method_32_code 110 = .ok (.invokevirtual 194, 3) := by decide +kernel
theorem d_Model_checkLength_113 : decode prog_14_method_32_code 113 = .ok (.return_, 1) := by decide +kernel
def x_Model_checkLength_107 (k0 : Int32) (σ : St) : Option St := (Option.bind (x_Model_blame k0 (413 : Int32) σ) (fun s110 => some s110))
def x_Model_checkLength_74 (bk27 : Int32 → St → Option St) (l1 : Int32) (l2 : Int32) (k0 : Int32) (σ : St) : Option St := (Option.bind (x_Model_blame k0 (400 : Int32) σ) (fun s77 => (x_let (x_updR s77 51 21 l2) (fun (s82 : St) => (x_let (l1 + (1 : Int32)) (fun (v85 : Int32) => bk27 v85 s82))))))
def x_Model_checkLength_73 (bk27 : Int32 → St → Option St) (l1 : Int32) (l2 : Int32) (σ : St) : Option St := x_Model_checkLength_74 bk27 l1 l2 (0 : Int32) σ
def x_Model_checkLength_69 (bk27 : Int32 → St → Option St) (l1 : Int32) (l2 : Int32) (σ : St) : Option St := x_Model_checkLength_74 bk27 l1 l2 (1 : Int32) σ
def x_Model_checkLength_27 : Nat → Int32 → St → Option St
  | 0, _, _ => none
  | n + 1, l1, σ => (if (σ.1 51 26) ≤ l1 then (if (200 : Int32) < (σ.1 51 21) then x_Model_checkLength_107 (0 : Int32) σ else x_Model_checkLength_107 (1 : Int32) σ) else (if x_in l1 512 then (if x_in l1 512 then (Option.bind (x_Model_numberAt (σ.2.1 63 l1.toNatClampNeg) (σ.2.1 64 l1.toNatClampNeg) σ) (fun r48 => (if r48 < 0 then x_Model_checkLength_73 (x_Model_checkLength_27 n) l1 r48 σ else (if l1 = 0 then x_Model_checkLength_69 (x_Model_checkLength_27 n) l1 r48 σ else (if r48 = (σ.1 51 21) then x_Model_checkLength_69 (x_Model_checkLength_27 n) l1 r48 σ else x_Model_checkLength_73 (x_Model_checkLength_27 n) l1 r48 σ))))) else none) else none))
def x_Model_checkLength_19 (k0 : Int32) (σ : St) : Option St := (Option.bind (x_Model_blame k0 (400 : Int32) σ) (fun s22 => x_Model_checkLength_27 x_fuel (0 : Int32) s22))
def x_Model_checkLength (σ : St) : Option St := (Option.bind (x_Model_list (23 : Int32) σ) (fun s3 => (if (s3.1 51 26) ≤ 0 then x_Model_checkLength_19 (0 : Int32) s3 else x_Model_checkLength_19 (1 : Int32) s3)))
abbrev rm_Model_checkLength : Room := { frames := 5, cells := 0, slots := 0, locals := 113 }
set_option maxHeartbeats 4000000 in
set_option maxRecDepth 100000 in
theorem t_Model_checkLength (l : Launch) (G : xG) (σ : St) (σ' : St) (hE : x_Model_checkLength σ = some σ') : Met l y_Model_checkLength (ws_Model_checkLength) rm_Model_checkLength (xP G σ [.ref (G.2.1 51)]) (xQ G none σ') 0 0 (xA G) := by
  refine Met.ofW (cc := prog_14_method_32_code) (maxL := 3) (ret := none) (by decide) rfl ?_
  intro p e s m args below meth c s₁ B hml hv
  obtain ⟨rfl, hw, hC⟩ := hv
  have hx := B.exec
  have hb := B.bytes
  have hr := B.returns
  have hu : ∀ w ∈ UW, w.before _ s = true := fun w h => atoms_spec B.pre w (List.mem_cons_of_mem _ h)
  have hown : s.vm.findClass R_Model = some m.cls := findClass_of_methodNamed B.named
  have hlocks := B.notSynchronized
  have hK := hC.1
  have hI := hC.2.1
  have hG := hC.2.2.1
  have hN := hC.2.2.2
  have hS : va_S (xA G) s.heap s.heap [] := va_S.rf
  have jn107 : ∀ (ls : Array Slot) (H : Heap) (locs : List Loc) (σ : St) (k0 : Int32), x_Model_checkLength_107 k0 σ = some σ' → lv_has ls 3 [(0, .ref (G.2.1 51))] → xw G σ H → va_S (xA G) s.heap H locs → W p l e (headSpec (ws_Model_checkLength) rm_Model_checkLength).room s m ([.ref (G.2.1 51)] : List Value).toArray below meth c H locs 0 0 (MQ below (xQ G none σ') ([.ref (G.2.1 51)] : List Value).toArray s 0 0 (xA G)) (F0 m 107 ls [.int k0, .ref (G.2.1 51)]) := by
    intro ls H locs σ k0 hE hl hw hS
    unfold x_Model_checkLength_107 at hE
    refine lv_sipush (v := (413 : Int32)) hx hb d_Model_checkLength_107 (by decide) ?_
    obtain ⟨s110, hC110, hE⟩ := x_bind hE
    refine x_callV hS (W.runV (As := [.int k0, .int (413 : Int32)]) (rest := []) ⟨hx, hb, hml, hown, hu⟩ (t_Model_blame l G σ k0 (413 : Int32) s110 hC110) (cwV 2 hu (uw_V mw_1279 mw_1281 mw_45 mw_70 mw_1282) rfl rfl rfl hd_Model_blame ⟨Nat.le_of_ble_eq_true rfl, Nat.le_of_ble_eq_true rfl⟩) (x_preV hC hS hw (va_recv hK hw (q := (R_Model, T_Model, 33)) (ci := 10) rfl (x_at (by decide) (xcl_51 G σ)))) rfl rfl hl.1 rfl (lv_room (Nat.le_of_ble_eq_true rfl)) d_Model_checkLength_110 ⟨Nat.le_of_ble_eq_true rfl, Nat.le_of_ble_eq_true rfl⟩) (fun H locs hw hS => ?_)
    have e1 := Option.some.inj hE
    exact W.vret hx hb hr (fun t ht hW => ⟨rfl, by rw [ht, ← e1]; exact hw, hS.F ht⟩) hS.2.2 d_Model_checkLength_113
  have jn74 : ∀ (bk27 : Int32 → St → Option St) (hbk27 : ∀ (ls : Array Slot) (H : Heap) (locs : List Loc) (σ : St) (l1 : Int32), bk27 l1 σ = some σ' → lv_has ls 3 [(0, .ref (G.2.1 51)), (1, .int l1)] → xw G σ H → va_S (xA G) s.heap H locs → W p l e (headSpec (ws_Model_checkLength) rm_Model_checkLength).room s m ([.ref (G.2.1 51)] : List Value).toArray below meth c H locs 0 0 (MQ below (xQ G none σ') ([.ref (G.2.1 51)] : List Value).toArray s 0 0 (xA G)) (F0 m 27 ls [])) (ls : Array Slot) (H : Heap) (locs : List Loc) (σ : St) (l1 : Int32) (l2 : Int32) (k0 : Int32), x_Model_checkLength_74 bk27 l1 l2 k0 σ = some σ' → lv_has ls 3 [(0, .ref (G.2.1 51)), (1, .int l1), (2, .int l2)] → xw G σ H → va_S (xA G) s.heap H locs → W p l e (headSpec (ws_Model_checkLength) rm_Model_checkLength).room s m ([.ref (G.2.1 51)] : List Value).toArray below meth c H locs 0 0 (MQ below (xQ G none σ') ([.ref (G.2.1 51)] : List Value).toArray s 0 0 (xA G)) (F0 m 74 ls [.int k0, .ref (G.2.1 51)]) := by
    intro bk27 hbk27 ls H locs σ l1 l2 k0 hE hl hw hS
    unfold x_Model_checkLength_74 at hE
    refine lv_sipush (v := (400 : Int32)) hx hb d_Model_checkLength_74 (by decide) ?_
    obtain ⟨s77, hC77, hE⟩ := x_bind hE
    refine x_callV hS (W.runV (As := [.int k0, .int (400 : Int32)]) (rest := []) ⟨hx, hb, hml, hown, hu⟩ (t_Model_blame l G σ k0 (400 : Int32) s77 hC77) (cwV 2 hu (uw_V mw_1279 mw_1281 mw_45 mw_70 mw_1282) rfl rfl rfl hd_Model_blame ⟨Nat.le_of_ble_eq_true rfl, Nat.le_of_ble_eq_true rfl⟩) (x_preV hC hS hw (va_recv hK hw (q := (R_Model, T_Model, 33)) (ci := 10) rfl (x_at (by decide) (xcl_51 G σ)))) rfl rfl hl.1 rfl (lv_room (Nat.le_of_ble_eq_true rfl)) d_Model_checkLength_77 ⟨Nat.le_of_ble_eq_true rfl, Nat.le_of_ble_eq_true rfl⟩) (fun H locs hw hS => ?_)
    refine lv_aload_n hx hb d_Model_checkLength_80 rfl (lv_at hl 0 rfl) ?_
    refine lv_iload_n hx hb d_Model_checkLength_81 rfl (lv_at hl 2 rfl) ?_
    refine va_put (D := G.1) (cl := xCl) (ci := 10) (v := .int l2) (ty := .int) (C := R_Model) (T := T_Model) (N := 33) hx hb hu fi_Model ty_Model tyok_Model nm_Model hown hK hw (x_D hI _) hS 51 (x_at (by decide) (xcl_51 G s77)) rfl 21 (by decide) (hu _ mw_1089) (fun _ h9 => h9) rfl (tyok_Model 21 (by decide)) rfl rfl (Nat.le_of_ble_eq_true rfl) d_Model_checkLength_82 (fun H locs hw _ hS => ?_)
    replace hw := x_setR hw (by decide) rfl
    obtain ⟨s82, e82, hE⟩ := x_letE hE
    rw [← e82] at hw
    obtain ⟨v85, e85, hE⟩ := x_letE hE
    refine lv_iinc hx hb d_Model_checkLength_85 hl (k := 1) rfl (x_inc v85 e85 (by decide)) (by decide) rfl (fun ls hl => ?_)
    have hl : lv_has ls 3 [(1, .int v85), (0, .ref (G.2.1 51)), (2, .int l2)] := hl
    refine lv_goto (tgt := 27) hx hb d_Model_checkLength_88 (by decide) ?_
    exact hbk27 _ _ _ _ _ hE (lv_sub hl [1, 0] rfl) hw hS
  have jn73 : ∀ (bk27 : Int32 → St → Option St) (hbk27 : ∀ (ls : Array Slot) (H : Heap) (locs : List Loc) (σ : St) (l1 : Int32), bk27 l1 σ = some σ' → lv_has ls 3 [(0, .ref (G.2.1 51)), (1, .int l1)] → xw G σ H → va_S (xA G) s.heap H locs → W p l e (headSpec (ws_Model_checkLength) rm_Model_checkLength).room s m ([.ref (G.2.1 51)] : List Value).toArray below meth c H locs 0 0 (MQ below (xQ G none σ') ([.ref (G.2.1 51)] : List Value).toArray s 0 0 (xA G)) (F0 m 27 ls [])) (ls : Array Slot) (H : Heap) (locs : List Loc) (σ : St) (l1 : Int32) (l2 : Int32), x_Model_checkLength_73 bk27 l1 l2 σ = some σ' → lv_has ls 3 [(0, .ref (G.2.1 51)), (1, .int l1), (2, .int l2)] → xw G σ H → va_S (xA G) s.heap H locs → W p l e (headSpec (ws_Model_checkLength) rm_Model_checkLength).room s m ([.ref (G.2.1 51)] : List Value).toArray below meth c H locs 0 0 (MQ below (xQ G none σ') ([.ref (G.2.1 51)] : List Value).toArray s 0 0 (xA G)) (F0 m 73 ls [.ref (G.2.1 51)]) := by
    intro bk27 hbk27 ls H locs σ l1 l2 hE hl hw hS
    unfold x_Model_checkLength_73 at hE
    refine lv_iconst (v := (0 : Int32)) hx hb d_Model_checkLength_73 (by decide) ?_
    exact jn74 _ hbk27 _ _ _ _ _ _ _ hE (lv_sub hl [0, 1, 2] rfl) hw hS
  have jn69 : ∀ (bk27 : Int32 → St → Option St) (hbk27 : ∀ (ls : Array Slot) (H : Heap) (locs : List Loc) (σ : St) (l1 : Int32), bk27 l1 σ = some σ' → lv_has ls 3 [(0, .ref (G.2.1 51)), (1, .int l1)] → xw G σ H → va_S (xA G) s.heap H locs → W p l e (headSpec (ws_Model_checkLength) rm_Model_checkLength).room s m ([.ref (G.2.1 51)] : List Value).toArray below meth c H locs 0 0 (MQ below (xQ G none σ') ([.ref (G.2.1 51)] : List Value).toArray s 0 0 (xA G)) (F0 m 27 ls [])) (ls : Array Slot) (H : Heap) (locs : List Loc) (σ : St) (l1 : Int32) (l2 : Int32), x_Model_checkLength_69 bk27 l1 l2 σ = some σ' → lv_has ls 3 [(0, .ref (G.2.1 51)), (1, .int l1), (2, .int l2)] → xw G σ H → va_S (xA G) s.heap H locs → W p l e (headSpec (ws_Model_checkLength) rm_Model_checkLength).room s m ([.ref (G.2.1 51)] : List Value).toArray below meth c H locs 0 0 (MQ below (xQ G none σ') ([.ref (G.2.1 51)] : List Value).toArray s 0 0 (xA G)) (F0 m 69 ls [.ref (G.2.1 51)]) := by
    intro bk27 hbk27 ls H locs σ l1 l2 hE hl hw hS
    unfold x_Model_checkLength_69 at hE
    refine lv_iconst (v := (1 : Int32)) hx hb d_Model_checkLength_69 (by decide) ?_
    refine lv_goto (tgt := 74) hx hb d_Model_checkLength_70 (by decide) ?_
    exact jn74 _ hbk27 _ _ _ _ _ _ _ hE (lv_sub hl [0, 1, 2] rfl) hw hS
  have jn27 : ∀ (n : Nat) (ls : Array Slot) (H : Heap) (locs : List Loc) (σ : St) (l1 : Int32), x_Model_checkLength_27 n l1 σ = some σ' → lv_has ls 3 [(0, .ref (G.2.1 51)), (1, .int l1)] → xw G σ H → va_S (xA G) s.heap H locs → W p l e (headSpec (ws_Model_checkLength) rm_Model_checkLength).room s m ([.ref (G.2.1 51)] : List Value).toArray below meth c H locs 0 0 (MQ below (xQ G none σ') ([.ref (G.2.1 51)] : List Value).toArray s 0 0 (xA G)) (F0 m 27 ls []) := by
    intro n
    induction n with
    | zero => intro ls H locs σ l1 hE; rw [x_Model_checkLength_27] at hE; cases hE
    | succ n ih =>
      intro ls H locs σ l1 hE hl hw hS
      rw [x_Model_checkLength_27] at hE
      refine lv_iload_n hx hb d_Model_checkLength_27 rfl (lv_at hl 1 rfl) ?_
      refine lv_aload_n hx hb d_Model_checkLength_28 rfl (lv_at hl 0 rfl) ?_
      refine va_get (D := G.1) (cl := xCl) (ci := 10) (v := .int (σ.1 51 26)) (C := R_Model) (T := T_Model) (N := 33) hx hb hu fi_Model hown hK hw 51 (x_at (by decide) (xcl_51 G σ)) rfl 26 (by decide) (hu _ mw_1094) (fun _ h9 => h9) rfl d_Model_checkLength_29 ?_
      refine lv_icmp_ge (tgt := 91) hx hb d_Model_checkLength_32 (by decide) (fun hc32 => ?_) (fun hc32 => ?_)
      · rw [if_pos hc32] at hE
        refine lv_aload_n hx hb d_Model_checkLength_91 rfl (lv_at hl 0 rfl) ?_
        refine lv_aload_n hx hb d_Model_checkLength_92 rfl (lv_at hl 0 rfl) ?_
        refine va_get (D := G.1) (cl := xCl) (ci := 10) (v := .int (σ.1 51 21)) (C := R_Model) (T := T_Model) (N := 33) hx hb hu fi_Model hown hK hw 51 (x_at (by decide) (xcl_51 G σ)) rfl 21 (by decide) (hu _ mw_1089) (fun _ h9 => h9) rfl d_Model_checkLength_93 ?_
        refine lv_sipush (v := (200 : Int32)) hx hb d_Model_checkLength_96 (by decide) ?_
        refine lv_icmp_gt (tgt := 106) hx hb d_Model_checkLength_99 (by decide) (fun hc99 => ?_) (fun hc99 => ?_)
        · rw [if_pos hc99] at hE
          refine lv_iconst (v := (0 : Int32)) hx hb d_Model_checkLength_106 (by decide) ?_
          exact jn107 _ _ _ _ _ hE (lv_sub hl [0] rfl) hw hS
        · rw [if_neg hc99] at hE
          refine lv_iconst (v := (1 : Int32)) hx hb d_Model_checkLength_102 (by decide) ?_
          refine lv_goto (tgt := 107) hx hb d_Model_checkLength_103 (by decide) ?_
          exact jn107 _ _ _ _ _ hE (lv_sub hl [0] rfl) hw hS
      · rw [if_neg hc32] at hE
        refine lv_aload_n hx hb d_Model_checkLength_35 rfl (lv_at hl 0 rfl) ?_
        refine lv_aload_n hx hb d_Model_checkLength_36 rfl (lv_at hl 0 rfl) ?_
        refine va_get (D := G.1) (cl := xCl) (ci := 10) (v := .ref (G.2.1 63)) (C := R_Model) (T := T_Model) (N := 33) hx hb hu fi_Model hown hK hw 51 (x_at (by decide) (xcl_51 G σ)) rfl 27 (by decide) (hu _ mw_1095) (fun _ h9 => h9) rfl d_Model_checkLength_37 ?_
        refine lv_iload_n hx hb d_Model_checkLength_40 rfl (lv_at hl 1 rfl) ?_
        obtain ⟨g41, hE⟩ := x_guard hE
        refine va_iald hx hb hK hw 63 0 (x_at (by decide) (xcl_63 G σ)) rfl g41 d_Model_checkLength_41 ?_
        refine lv_aload_n hx hb d_Model_checkLength_42 rfl (lv_at hl 0 rfl) ?_
        refine va_get (D := G.1) (cl := xCl) (ci := 10) (v := .ref (G.2.1 64)) (C := R_Model) (T := T_Model) (N := 33) hx hb hu fi_Model hown hK hw 51 (x_at (by decide) (xcl_51 G σ)) rfl 28 (by decide) (hu _ mw_1096) (fun _ h9 => h9) rfl d_Model_checkLength_43 ?_
        refine lv_iload_n hx hb d_Model_checkLength_46 rfl (lv_at hl 1 rfl) ?_
        obtain ⟨g47, hE⟩ := x_guard hE
        refine va_iald hx hb hK hw 64 0 (x_at (by decide) (xcl_64 G σ)) rfl g47 d_Model_checkLength_47 ?_
        obtain ⟨r48, hC48, hE⟩ := x_bind hE
        refine x_callR (W.runV (As := [.int (σ.2.1 63 l1.toNatClampNeg), .int (σ.2.1 64 l1.toNatClampNeg)]) (rest := []) ⟨hx, hb, hml, hown, hu⟩ (t_Model_numberAt l G σ (σ.2.1 63 l1.toNatClampNeg) (σ.2.1 64 l1.toNatClampNeg) r48 hC48) (cwV 2 hu (uw_V mw_1263 mw_1265 mw_41 mw_70 mw_1266) rfl rfl rfl hd_Model_numberAt ⟨Nat.le_of_ble_eq_true rfl, Nat.le_of_ble_eq_true rfl⟩) (x_preV hC hS hw (va_recv hK hw (q := (R_Model, T_Model, 33)) (ci := 10) rfl (x_at (by decide) (xcl_51 G σ)))) rfl rfl hl.1 rfl (lv_room (Nat.le_of_ble_eq_true rfl)) d_Model_checkLength_48 ⟨Nat.le_of_ble_eq_true rfl, Nat.le_of_ble_eq_true rfl⟩) ?_
        refine lv_istore_n hx hb d_Model_checkLength_51 rfl hl (by decide) rfl (fun ls hl => ?_)
        have hl : lv_has ls 3 [(2, .int r48), (0, .ref (G.2.1 51)), (1, .int l1)] := hl
        refine lv_aload_n hx hb d_Model_checkLength_52 rfl (lv_at hl 1 rfl) ?_
        refine lv_iload_n hx hb d_Model_checkLength_53 rfl (lv_at hl 0 rfl) ?_
        refine lv_if_lt (tgt := 73) hx hb d_Model_checkLength_54 (by decide) (fun hc54 => ?_) (fun hc54 => ?_)
        · rw [if_pos hc54] at hE
          exact jn73 _ ih _ _ _ _ _ _ hE (lv_sub hl [1, 2, 0] rfl) hw hS
        · rw [if_neg hc54] at hE
          refine lv_iload_n hx hb d_Model_checkLength_57 rfl (lv_at hl 2 rfl) ?_
          refine lv_if_eq (tgt := 69) hx hb d_Model_checkLength_58 (by decide) (fun hc58 => ?_) (fun hc58 => ?_)
          · rw [if_pos hc58] at hE
            exact jn69 _ ih _ _ _ _ _ _ hE (lv_sub hl [1, 2, 0] rfl) hw hS
          · rw [if_neg hc58] at hE
            refine lv_iload_n hx hb d_Model_checkLength_61 rfl (lv_at hl 0 rfl) ?_
            refine lv_aload_n hx hb d_Model_checkLength_62 rfl (lv_at hl 1 rfl) ?_
            refine va_get (D := G.1) (cl := xCl) (ci := 10) (v := .int (σ.1 51 21)) (C := R_Model) (T := T_Model) (N := 33) hx hb hu fi_Model hown hK hw 51 (x_at (by decide) (xcl_51 G σ)) rfl 21 (by decide) (hu _ mw_1089) (fun _ h9 => h9) rfl d_Model_checkLength_63 ?_
            refine lv_icmp_ne (tgt := 73) hx hb d_Model_checkLength_66 (by decide) (fun hc66 => ?_) (fun hc66 => ?_)
            · rw [if_neg hc66] at hE
              exact jn73 _ ih _ _ _ _ _ _ hE (lv_sub hl [1, 2, 0] rfl) hw hS
            · rw [if_pos hc66] at hE
              exact jn69 _ ih _ _ _ _ _ _ hE (lv_sub hl [1, 2, 0] rfl) hw hS
  have jn19 : ∀ (ls : Array Slot) (H : Heap) (locs : List Loc) (σ : St) (k0 : Int32), x_Model_checkLength_19 k0 σ = some σ' → lv_has ls 3 [(0, .ref (G.2.1 51))] → xw G σ H → va_S (xA G) s.heap H locs → W p l e (headSpec (ws_Model_checkLength) rm_Model_checkLength).room s m ([.ref (G.2.1 51)] : List Value).toArray below meth c H locs 0 0 (MQ below (xQ G none σ') ([.ref (G.2.1 51)] : List Value).toArray s 0 0 (xA G)) (F0 m 19 ls [.int k0, .ref (G.2.1 51)]) := by
    intro ls H locs σ k0 hE hl hw hS
    unfold x_Model_checkLength_19 at hE
    refine lv_sipush (v := (400 : Int32)) hx hb d_Model_checkLength_19 (by decide) ?_
    obtain ⟨s22, hC22, hE⟩ := x_bind hE
    refine x_callV hS (W.runV (As := [.int k0, .int (400 : Int32)]) (rest := []) ⟨hx, hb, hml, hown, hu⟩ (t_Model_blame l G σ k0 (400 : Int32) s22 hC22) (cwV 2 hu (uw_V mw_1279 mw_1281 mw_45 mw_70 mw_1282) rfl rfl rfl hd_Model_blame ⟨Nat.le_of_ble_eq_true rfl, Nat.le_of_ble_eq_true rfl⟩) (x_preV hC hS hw (va_recv hK hw (q := (R_Model, T_Model, 33)) (ci := 10) rfl (x_at (by decide) (xcl_51 G σ)))) rfl rfl hl.1 rfl (lv_room (Nat.le_of_ble_eq_true rfl)) d_Model_checkLength_22 ⟨Nat.le_of_ble_eq_true rfl, Nat.le_of_ble_eq_true rfl⟩) (fun H locs hw hS => ?_)
    refine lv_iconst (v := (0 : Int32)) hx hb d_Model_checkLength_25 (by decide) ?_
    refine lv_istore_n hx hb d_Model_checkLength_26 rfl hl (by decide) rfl (fun ls hl => ?_)
    have hl : lv_has ls 3 [(1, .int (0 : Int32)), (0, .ref (G.2.1 51))] := hl
    exact jn27 x_fuel _ _ _ _ _ hE (lv_sub hl [1, 0] rfl) hw hS
  have hl := lv_entry ([.ref (G.2.1 51)]) (n := 3) (Nat.le_of_ble_eq_true rfl)
  rw [lg_entry_eq]
  generalize (lg_sl ([.ref (G.2.1 51)]) ++ List.replicate (3 - (lg_sl ([.ref (G.2.1 51)])).length) Slot.unset).toArray = ls at hl ⊢
  have hl : lv_has ls 3 [(0, .ref (G.2.1 51))] := hl
  unfold x_Model_checkLength at hE
  refine lv_aload_n hx hb d_Model_checkLength_0 rfl (lv_at hl 0 rfl) ?_
  refine lv_bipush (v := (23 : Int32)) hx hb d_Model_checkLength_1 (by decide) ?_
  obtain ⟨s3, hC3, hE⟩ := x_bind hE
  refine x_callV hS (W.runV (As := [.int (23 : Int32)]) (rest := []) ⟨hx, hb, hml, hown, hu⟩ (t_Model_list l G σ (23 : Int32) s3 hC3) (cwV 1 hu (uw_V mw_1243 mw_1245 mw_36 mw_70 mw_1246) rfl rfl rfl hd_Model_list ⟨Nat.le_of_ble_eq_true rfl, Nat.le_of_ble_eq_true rfl⟩) (x_preV hC hS hw (va_recv hK hw (q := (R_Model, T_Model, 33)) (ci := 10) rfl (x_at (by decide) (xcl_51 G σ)))) rfl rfl hl.1 rfl (lv_room (Nat.le_of_ble_eq_true rfl)) d_Model_checkLength_3 ⟨Nat.le_of_ble_eq_true rfl, Nat.le_of_ble_eq_true rfl⟩) (fun H locs hw hS => ?_)
  refine lv_aload_n hx hb d_Model_checkLength_6 rfl (lv_at hl 0 rfl) ?_
  refine lv_aload_n hx hb d_Model_checkLength_7 rfl (lv_at hl 0 rfl) ?_
  refine va_get (D := G.1) (cl := xCl) (ci := 10) (v := .int (s3.1 51 26)) (C := R_Model) (T := T_Model) (N := 33) hx hb hu fi_Model hown hK hw 51 (x_at (by decide) (xcl_51 G s3)) rfl 26 (by decide) (hu _ mw_1094) (fun _ h9 => h9) rfl d_Model_checkLength_8 ?_
  refine lv_if_le (tgt := 18) hx hb d_Model_checkLength_11 (by decide) (fun hc11 => ?_) (fun hc11 => ?_)
  · rw [if_pos hc11] at hE
    refine lv_iconst (v := (0 : Int32)) hx hb d_Model_checkLength_18 (by decide) ?_
    exact jn19 _ _ _ _ _ hE (lv_sub hl [0] rfl) hw hS
  · rw [if_neg hc11] at hE
    refine lv_iconst (v := (1 : Int32)) hx hb d_Model_checkLength_14 (by decide) ?_
    refine lv_goto (tgt := 19) hx hb d_Model_checkLength_15 (by decide) ?_
    exact jn19 _ _ _ _ _ hE (lv_sub hl [0] rfl) hw hS

def y_Model_say : MethodName := ⟨"PlainOriginModel", "say", "(I)V"⟩
def ws_Model_say : List Cond := Cond.code y_Model_say prog_14_method_35_code 2 none :: UW
theorem hd_Model_say : y_Model_say.cls = R_Model ∧ y_Model_say.cls ≠ "java/lang/invoke/MethodHandle" ∧ y_Model_say.cls ≠ "java/lang/invoke/VarHandle" ∧ (parseMethodDescriptor y_Model_say.desc).map (fun d => d.parameters.length) = some 1 := by decide +kernel
theorem d_Model_say_0 : decode prog_14_method_35_code 0 = .ok (.aload_n 0, 1) := by decide +kernel
theorem d_Model_say_1 : decode prog_14_method_35_code 1 = .ok (.getfield 297, 3) := by decide +kernel
theorem d_Model_say_4 : decode prog_14_method_35_code 4 = .ok (.sipush (2000), 3) := by decide +kernel
theorem d_Model_say_7 : decode prog_14_method_35_code 7 = .ok (.if_icmp .ge (13), 3) := by decide +kernel
theorem d_Model_say_10 : decode prog_14_method_35_code 10 = .ok (.aload_n 0, 1) := by decide +kernel
theorem d_Model_say_11 : decode prog_14_method_35_code 11 = .ok (.getfield 139, 3) := by decide +kernel
theorem d_Model_say_14 : decode prog_14_method_35_code 14 = .ok (.aload_n 0, 1) := by decide +kernel
theorem d_Model_say_15 : decode prog_14_method_35_code 15 = .ok (.getfield 297, 3) := by decide +kernel
theorem d_Model_say_18 : decode prog_14_method_35_code 18 = .ok (.iload_n 1, 1) := by decide +kernel
theorem d_Model_say_19 : decode prog_14_method_35_code 19 = .ok (.iastore, 1) := by decide +kernel
theorem d_Model_say_20 : decode prog_14_method_35_code 20 = .ok (.aload_n 0, 1) := by decide +kernel
theorem d_Model_say_21 : decode prog_14_method_35_code 21 = .ok (.dup, 1) := by decide +kernel
theorem d_Model_say_22 : decode prog_14_method_35_code 22 = .ok (.getfield 297, 3) := by decide +kernel
theorem d_Model_say_25 : decode prog_14_method_35_code 25 = .ok (.iconst 1, 1) := by decide +kernel
theorem d_Model_say_26 : decode prog_14_method_35_code 26 = .ok (.iadd, 1) := by decide +kernel
theorem d_Model_say_27 : decode prog_14_method_35_code 27 = .ok (.putfield 297, 3) := by decide +kernel
theorem d_Model_say_30 : decode prog_14_method_35_code 30 = .ok (.return_, 1) := by decide +kernel
def x_Model_say_20 (a1 : Int32) (σ : St) : Option St := (x_let (x_updR σ 51 31 ((σ.1 51 31) + (1 : Int32))) (fun (s27 : St) => some s27))
def x_Model_say (a1 : Int32) (σ : St) : Option St := (if (2000 : Int32) ≤ (σ.1 51 31) then x_Model_say_20 a1 σ else (if x_in (σ.1 51 31) 2000 then (x_let (x_updM σ 65 (σ.1 51 31).toNatClampNeg a1) (fun (s19 : St) => x_Model_say_20 a1 s19)) else none))
abbrev rm_Model_say : Room := { frames := 0, cells := 0, slots := 0, locals := 0 }
set_option maxHeartbeats 4000000 in
set_option maxRecDepth 100000 in
theorem t_Model_say (l : Launch) (G : xG) (σ : St) (a1 : Int32) (σ' : St) (hE : x_Model_say a1 σ = some σ') : Met l y_Model_say (ws_Model_say) rm_Model_say (xP G σ [.ref (G.2.1 51), .int a1]) (xQ G none σ') 0 0 (xA G) := by
  refine Met.ofW (cc := prog_14_method_35_code) (maxL := 2) (ret := none) (by decide) rfl ?_
  intro p e s m args below meth c s₁ B hml hv
  obtain ⟨rfl, hw, hC⟩ := hv
  have hx := B.exec
  have hb := B.bytes
  have hr := B.returns
  have hu : ∀ w ∈ UW, w.before _ s = true := fun w h => atoms_spec B.pre w (List.mem_cons_of_mem _ h)
  have hown : s.vm.findClass R_Model = some m.cls := findClass_of_methodNamed B.named
  have hlocks := B.notSynchronized
  have hK := hC.1
  have hI := hC.2.1
  have hG := hC.2.2.1
  have hN := hC.2.2.2
  have hS : va_S (xA G) s.heap s.heap [] := va_S.rf
  have jn20 : ∀ (ls : Array Slot) (H : Heap) (locs : List Loc) (σ : St), x_Model_say_20 a1 σ = some σ' → lv_has ls 2 [(0, .ref (G.2.1 51)), (1, .int a1)] → xw G σ H → va_S (xA G) s.heap H locs → W p l e (headSpec (ws_Model_say) rm_Model_say).room s m ([.ref (G.2.1 51), .int a1] : List Value).toArray below meth c H locs 0 0 (MQ below (xQ G none σ') ([.ref (G.2.1 51), .int a1] : List Value).toArray s 0 0 (xA G)) (F0 m 20 ls []) := by
    intro ls H locs σ hE hl hw hS
    unfold x_Model_say_20 at hE
    refine lv_aload_n hx hb d_Model_say_20 rfl (lv_at hl 0 rfl) ?_
    refine lv_dup hx hb d_Model_say_21 rfl ?_
    refine va_get (D := G.1) (cl := xCl) (ci := 10) (v := .int (σ.1 51 31)) (C := R_Model) (T := T_Model) (N := 33) hx hb hu fi_Model hown hK hw 51 (x_at (by decide) (xcl_51 G σ)) rfl 31 (by decide) (hu _ mw_1099) (fun _ h9 => h9) rfl d_Model_say_22 ?_
    refine lv_iconst (v := (1 : Int32)) hx hb d_Model_say_25 (by decide) ?_
    refine lv_iadd hx hb d_Model_say_26 ?_
    refine va_put (D := G.1) (cl := xCl) (ci := 10) (v := .int ((σ.1 51 31) + (1 : Int32))) (ty := .int) (C := R_Model) (T := T_Model) (N := 33) hx hb hu fi_Model ty_Model tyok_Model nm_Model hown hK hw (x_D hI _) hS 51 (x_at (by decide) (xcl_51 G σ)) rfl 31 (by decide) (hu _ mw_1099) (fun _ h9 => h9) rfl (tyok_Model 31 (by decide)) rfl rfl (Nat.le_of_ble_eq_true rfl) d_Model_say_27 (fun H locs hw _ hS => ?_)
    replace hw := x_setR hw (by decide) rfl
    obtain ⟨s27, e27, hE⟩ := x_letE hE
    rw [← e27] at hw
    have e1 := Option.some.inj hE
    exact W.vret hx hb hr (fun t ht hW => ⟨rfl, by rw [ht, ← e1]; exact hw, hS.F ht⟩) hS.2.2 d_Model_say_30
  have hl := lv_entry ([.ref (G.2.1 51), .int a1]) (n := 2) (Nat.le_of_ble_eq_true rfl)
  rw [lg_entry_eq]
  generalize (lg_sl ([.ref (G.2.1 51), .int a1]) ++ List.replicate (2 - (lg_sl ([.ref (G.2.1 51), .int a1])).length) Slot.unset).toArray = ls at hl ⊢
  have hl : lv_has ls 2 [(0, .ref (G.2.1 51)), (1, .int a1)] := hl
  unfold x_Model_say at hE
  refine lv_aload_n hx hb d_Model_say_0 rfl (lv_at hl 0 rfl) ?_
  refine va_get (D := G.1) (cl := xCl) (ci := 10) (v := .int (σ.1 51 31)) (C := R_Model) (T := T_Model) (N := 33) hx hb hu fi_Model hown hK hw 51 (x_at (by decide) (xcl_51 G σ)) rfl 31 (by decide) (hu _ mw_1099) (fun _ h9 => h9) rfl d_Model_say_1 ?_
  refine lv_sipush (v := (2000 : Int32)) hx hb d_Model_say_4 (by decide) ?_
  refine lv_icmp_ge (tgt := 20) hx hb d_Model_say_7 (by decide) (fun hc7 => ?_) (fun hc7 => ?_)
  · rw [if_pos hc7] at hE
    exact jn20 _ _ _ _ hE (lv_sub hl [0, 1] rfl) hw hS
  · rw [if_neg hc7] at hE
    refine lv_aload_n hx hb d_Model_say_10 rfl (lv_at hl 0 rfl) ?_
    refine va_get (D := G.1) (cl := xCl) (ci := 10) (v := .ref (G.2.1 65)) (C := R_Model) (T := T_Model) (N := 33) hx hb hu fi_Model hown hK hw 51 (x_at (by decide) (xcl_51 G σ)) rfl 32 (by decide) (hu _ mw_1100) (fun _ h9 => h9) rfl d_Model_say_11 ?_
    refine lv_aload_n hx hb d_Model_say_14 rfl (lv_at hl 0 rfl) ?_
    refine va_get (D := G.1) (cl := xCl) (ci := 10) (v := .int (σ.1 51 31)) (C := R_Model) (T := T_Model) (N := 33) hx hb hu fi_Model hown hK hw 51 (x_at (by decide) (xcl_51 G σ)) rfl 31 (by decide) (hu _ mw_1099) (fun _ h9 => h9) rfl d_Model_say_15 ?_
    refine lv_iload_n hx hb d_Model_say_18 rfl (lv_at hl 1 rfl) ?_
    obtain ⟨g19, hE⟩ := x_guard hE
    refine va_iast hx hb hK hw (x_D hI _) hS 65 0 (x_at (by decide) (xcl_65 G σ)) rfl g19 d_Model_say_19 (fun H locs hw _ hS => ?_)
    replace hw := x_setM hw (by decide) (by decide)
    obtain ⟨s19, e19, hE⟩ := x_letE hE
    rw [← e19] at hw
    exact jn20 _ _ _ _ hE (lv_sub hl [0, 1] rfl) hw hS

def y_Model_sayWord : MethodName := ⟨"PlainOriginModel", "sayWord", "(I)V"⟩
def ws_Model_sayWord : List Cond := Cond.code y_Model_sayWord prog_14_method_36_code 3 none :: UW
theorem hd_Model_sayWord : y_Model_sayWord.cls = R_Model ∧ y_Model_sayWord.cls ≠ "java/lang/invoke/MethodHandle" ∧ y_Model_sayWord.cls ≠ "java/lang/invoke/VarHandle" ∧ (parseMethodDescriptor y_Model_sayWord.desc).map (fun d => d.parameters.length) = some 1 := by decide +kernel
theorem d_Model_sayWord_0 : decode prog_14_method_36_code 0 = .ok (.iload_n 1, 1) := by decide +kernel
theorem d_Model_sayWord_1 : decode prog_14_method_36_code 1 = .ok (.istore_n 2, 1) := by decide +kernel
theorem d_Model_sayWord_2 : decode prog_14_method_36_code 2 = .ok (.aload_n 0, 1) := by decide +kernel
theorem d_Model_sayWord_3 : decode prog_14_method_36_code 3 = .ok (.iload_n 2, 1) := by decide +kernel
theorem d_Model_sayWord_4 : decode prog_14_method_36_code 4 = .ok (.invokevirtual 225, 3) := by decide +kernel
theorem d_Model_sayWord_7 : decode prog_14_method_36_code 7 = .ok (.ifCond .eq (18), 3) := by decide +kernel
theorem d_Model_sayWord_10 : decode prog_14_method_36_code 10 = .ok (.aload_n 0, 1) := by decide +kernel
theorem d_Model_sayWord_11 : decode prog_14_method_36_code 11 = .ok (.aload_n 0, 1) := by decide +kernel
theorem d_Model_sayWord_12 : decode prog_14_method_36_code 12 = .ok (.iload_n 2, 1) := by decide +kernel
theorem d_Model_sayWord_13 : decode prog_14_method_36_code 13 = .ok (.invokevirtual 225, 3) := by decide +kernel
theorem d_Model_sayWord_16 : decode prog_14_method_36_code 16 = .ok (.invokevirtual 294, 3) := by decide +kernel
theorem d_Model_sayWord_19 : decode prog_14_method_36_code 19 = .ok (.iinc 2 (1), 3) := by decide +kernel
theorem d_Model_sayWord_22 : decode prog_14_method_36_code 22 = .ok (.goto (-20), 3) := by decide +kernel
theorem d_Model_sayWord_25 : decode prog_14_method_36_code 25 = .ok (.return_, 1) := by decide +kernel
def x_Model_sayWord_2 (a1 : Int32) : Nat → Int32 → St → Option St
  | 0, _, _ => none
  | n + 1, l2, σ => (Option.bind (x_Model_letter l2 σ) (fun r4 => (if r4 = 0 then some σ else (Option.bind (x_Model_letter l2 σ) (fun r13 => (Option.bind (x_Model_say r13 σ) (fun s16 => (x_let (l2 + (1 : Int32)) (fun (v19 : Int32) => x_Model_sayWord_2 a1 n v19 s16)))))))))
def x_Model_sayWord (a1 : Int32) (σ : St) : Option St := x_Model_sayWord_2 a1 x_fuel a1 σ
abbrev rm_Model_sayWord : Room := { frames := 1, cells := 0, slots := 0, locals := 21 }
set_option maxHeartbeats 4000000 in
set_option maxRecDepth 100000 in
theorem t_Model_sayWord (l : Launch) (G : xG) (σ : St) (a1 : Int32) (σ' : St) (hE : x_Model_sayWord a1 σ = some σ') : Met l y_Model_sayWord (ws_Model_sayWord) rm_Model_sayWord (xP G σ [.ref (G.2.1 51), .int a1]) (xQ G none σ') 0 0 (xA G) := by
  refine Met.ofW (cc := prog_14_method_36_code) (maxL := 3) (ret := none) (by decide) rfl ?_
  intro p e s m args below meth c s₁ B hml hv
  obtain ⟨rfl, hw, hC⟩ := hv
  have hx := B.exec
  have hb := B.bytes
  have hr := B.returns
  have hu : ∀ w ∈ UW, w.before _ s = true := fun w h => atoms_spec B.pre w (List.mem_cons_of_mem _ h)
  have hown : s.vm.findClass R_Model = some m.cls := findClass_of_methodNamed B.named
  have hlocks := B.notSynchronized
  have hK := hC.1
  have hI := hC.2.1
  have hG := hC.2.2.1
  have hN := hC.2.2.2
  have hS : va_S (xA G) s.heap s.heap [] := va_S.rf
  have jn2 : ∀ (n : Nat) (ls : Array Slot) (H : Heap) (locs : List Loc) (σ : St) (l2 : Int32), x_Model_sayWord_2 a1 n l2 σ = some σ' → lv_has ls 3 [(0, .ref (G.2.1 51)), (1, .int a1), (2, .int l2)] → xw G σ H → va_S (xA G) s.heap H locs → W p l e (headSpec (ws_Model_sayWord) rm_Model_sayWord).room s m ([.ref (G.2.1 51), .int a1] : List Value).toArray below meth c H locs 0 0 (MQ below (xQ G none σ') ([.ref (G.2.1 51), .int a1] : List Value).toArray s 0 0 (xA G)) (F0 m 2 ls []) := by
    intro n
    induction n with
    | zero => intro ls H locs σ l2 hE; rw [x_Model_sayWord_2] at hE; cases hE
    | succ n ih =>
      intro ls H locs σ l2 hE hl hw hS
      rw [x_Model_sayWord_2] at hE
      refine lv_aload_n hx hb d_Model_sayWord_2 rfl (lv_at hl 0 rfl) ?_
      refine lv_iload_n hx hb d_Model_sayWord_3 rfl (lv_at hl 2 rfl) ?_
      obtain ⟨r4, hC4, hE⟩ := x_bind hE
      refine x_callR (W.runV (As := [.int l2]) (rest := []) ⟨hx, hb, hml, hown, hu⟩ (t_Model_letter l G σ l2 r4 hC4) (cwV 1 hu (uw_V mw_1215 mw_1217 mw_29 mw_70 mw_1218) rfl rfl rfl hd_Model_letter ⟨Nat.le_of_ble_eq_true rfl, Nat.le_of_ble_eq_true rfl⟩) (x_preV hC hS hw (va_recv hK hw (q := (R_Model, T_Model, 33)) (ci := 10) rfl (x_at (by decide) (xcl_51 G σ)))) rfl rfl hl.1 rfl (lv_room (Nat.le_of_ble_eq_true rfl)) d_Model_sayWord_4 ⟨Nat.le_of_ble_eq_true rfl, Nat.le_of_ble_eq_true rfl⟩) ?_
      refine lv_if_eq (tgt := 25) hx hb d_Model_sayWord_7 (by decide) (fun hc7 => ?_) (fun hc7 => ?_)
      · rw [if_pos hc7] at hE
        have e1 := Option.some.inj hE
        exact W.vret hx hb hr (fun t ht hW => ⟨rfl, by rw [ht, ← e1]; exact hw, hS.F ht⟩) hS.2.2 d_Model_sayWord_25
      · rw [if_neg hc7] at hE
        refine lv_aload_n hx hb d_Model_sayWord_10 rfl (lv_at hl 0 rfl) ?_
        refine lv_aload_n hx hb d_Model_sayWord_11 rfl (lv_at hl 0 rfl) ?_
        refine lv_iload_n hx hb d_Model_sayWord_12 rfl (lv_at hl 2 rfl) ?_
        obtain ⟨r13, hC13, hE⟩ := x_bind hE
        refine x_callR (W.runV (As := [.int l2]) (rest := [.ref (G.2.1 51)]) ⟨hx, hb, hml, hown, hu⟩ (t_Model_letter l G σ l2 r13 hC13) (cwV 1 hu (uw_V mw_1215 mw_1217 mw_29 mw_70 mw_1218) rfl rfl rfl hd_Model_letter ⟨Nat.le_of_ble_eq_true rfl, Nat.le_of_ble_eq_true rfl⟩) (x_preV hC hS hw (va_recv hK hw (q := (R_Model, T_Model, 33)) (ci := 10) rfl (x_at (by decide) (xcl_51 G σ)))) rfl rfl hl.1 rfl (lv_room (Nat.le_of_ble_eq_true rfl)) d_Model_sayWord_13 ⟨Nat.le_of_ble_eq_true rfl, Nat.le_of_ble_eq_true rfl⟩) ?_
        obtain ⟨s16, hC16, hE⟩ := x_bind hE
        refine x_callV hS (W.runV (As := [.int r13]) (rest := []) ⟨hx, hb, hml, hown, hu⟩ (t_Model_say l G σ r13 s16 hC16) (cwV 1 hu (uw_V mw_1219 mw_1221 mw_30 mw_70 mw_1222) rfl rfl rfl hd_Model_say ⟨Nat.le_of_ble_eq_true rfl, Nat.le_of_ble_eq_true rfl⟩) (x_preV hC hS hw (va_recv hK hw (q := (R_Model, T_Model, 33)) (ci := 10) rfl (x_at (by decide) (xcl_51 G σ)))) rfl rfl hl.1 rfl (lv_room (Nat.le_of_ble_eq_true rfl)) d_Model_sayWord_16 ⟨Nat.le_of_ble_eq_true rfl, Nat.le_of_ble_eq_true rfl⟩) (fun H locs hw hS => ?_)
        obtain ⟨v19, e19, hE⟩ := x_letE hE
        refine lv_iinc hx hb d_Model_sayWord_19 hl (k := 2) rfl (x_inc v19 e19 (by decide)) (by decide) rfl (fun ls hl => ?_)
        have hl : lv_has ls 3 [(2, .int v19), (0, .ref (G.2.1 51)), (1, .int a1)] := hl
        refine lv_goto (tgt := 2) hx hb d_Model_sayWord_22 (by decide) ?_
        exact ih _ _ _ _ _ hE (lv_sub hl [1, 2, 0] rfl) hw hS
  have hl := lv_entry ([.ref (G.2.1 51), .int a1]) (n := 3) (Nat.le_of_ble_eq_true rfl)
  rw [lg_entry_eq]
  generalize (lg_sl ([.ref (G.2.1 51), .int a1]) ++ List.replicate (3 - (lg_sl ([.ref (G.2.1 51), .int a1])).length) Slot.unset).toArray = ls at hl ⊢
  have hl : lv_has ls 3 [(0, .ref (G.2.1 51)), (1, .int a1)] := hl
  unfold x_Model_sayWord at hE
  refine lv_iload_n hx hb d_Model_sayWord_0 rfl (lv_at hl 1 rfl) ?_
  refine lv_istore_n hx hb d_Model_sayWord_1 rfl hl (by decide) rfl (fun ls hl => ?_)
  have hl : lv_has ls 3 [(2, .int a1), (0, .ref (G.2.1 51)), (1, .int a1)] := hl
  exact jn2 x_fuel _ _ _ _ _ hE (lv_sub hl [1, 2, 0] rfl) hw hS

def y_Model_sayNumber : MethodName := ⟨"PlainOriginModel", "sayNumber", "(I)V"⟩
def ws_Model_sayNumber : List Cond := Cond.code y_Model_sayNumber prog_14_method_37_code 3 none :: UW
theorem hd_Model_sayNumber : y_Model_sayNumber.cls = R_Model ∧ y_Model_sayNumber.cls ≠ "java/lang/invoke/MethodHandle" ∧ y_Model_sayNumber.cls ≠ "java/lang/invoke/VarHandle" ∧ (parseMethodDescriptor y_Model_sayNumber.desc).map (fun d => d.parameters.length) = some 1 := by decide +kernel
theorem d_Model_sayNumber_0 : decode prog_14_method_37_code 0 = .ok (.iconst 1, 1) := by decide +kernel
theorem d_Model_sayNumber_1 : decode prog_14_method_37_code 1 = .ok (.istore_n 2, 1) := by decide +kernel
theorem d_Model_sayNumber_2 : decode prog_14_method_37_code 2 = .ok (.iload_n 1, 1) := by decide +kernel
theorem d_Model_sayNumber_3 : decode prog_14_method_37_code 3 = .ok (.iload_n 2, 1) := by decide +kernel
theorem d_Model_sayNumber_4 : decode prog_14_method_37_code 4 = .ok (.idiv, 1) := by decide +kernel
theorem d_Model_sayNumber_5 : decode prog_14_method_37_code 5 = .ok (.bipush (9), 2) := by decide +kernel
theorem d_Model_sayNumber_7 : decode prog_14_method_37_code 7 = .ok (.if_icmp .le (11), 3) := by decide +kernel
theorem d_Model_sayNumber_10 : decode prog_14_method_37_code 10 = .ok (.bipush (10), 2) := by decide +kernel
theorem d_Model_sayNumber_12 : decode prog_14_method_37_code 12 = .ok (.iload_n 2, 1) := by decide +kernel
theorem d_Model_sayNumber_13 : decode prog_14_method_37_code 13 = .ok (.imul, 1) := by decide +kernel
theorem d_Model_sayNumber_14 : decode prog_14_method_37_code 14 = .ok (.istore_n 2, 1) := by decide +kernel
theorem d_Model_sayNumber_15 : decode prog_14_method_37_code 15 = .ok (.goto (-13), 3) := by decide +kernel
theorem d_Model_sayNumber_18 : decode prog_14_method_37_code 18 = .ok (.iload_n 2, 1) := by decide +kernel
theorem d_Model_sayNumber_19 : decode prog_14_method_37_code 19 = .ok (.ifCond .le (24), 3) := by decide +kernel
theorem d_Model_sayNumber_22 : decode prog_14_method_37_code 22 = .ok (.aload_n 0, 1) := by decide +kernel
theorem d_Model_sayNumber_23 : decode prog_14_method_37_code 23 = .ok (.bipush (48), 2) := by decide +kernel
theorem d_Model_sayNumber_25 : decode prog_14_method_37_code 25 = .ok (.iload_n 1, 1) := by decide +kernel
theorem d_Model_sayNumber_26 : decode prog_14_method_37_code 26 = .ok (.iload_n 2, 1) := by decide +kernel
theorem d_Model_sayNumber_27 : decode prog_14_method_37_code 27 = .ok (.idiv, 1) := by decide +kernel
theorem d_Model_sayNumber_28 : decode prog_14_method_37_code 28 = .ok (.bipush (10), 2) := by decide +kernel
theorem d_Model_sayNumber_30 : decode prog_14_method_37_code 30 = .ok (.irem, 1) := by decide +kernel
theorem d_Model_sayNumber_31 : decode prog_14_method_37_code 31 = .ok (.iadd, 1) := by decide +kernel
theorem d_Model_sayNumber_32 : decode prog_14_method_37_code 32 = .ok (.invokevirtual 294, 3) := by decide +kernel
theorem d_Model_sayNumber_35 : decode prog_14_method_37_code 35 = .ok (.iload_n 2, 1) := by decide +kernel
theorem d_Model_sayNumber_36 : decode prog_14_method_37_code 36 = .ok (.bipush (10), 2) := by decide +kernel
theorem d_Model_sayNumber_38 : decode prog_14_method_37_code 38 = .ok (.idiv, 1) := by decide +kernel
theorem d_Model_sayNumber_39 : decode prog_14_method_37_code 39 = .ok (.istore_n 2, 1) := by decide +kernel
theorem d_Model_sayNumber_40 : decode prog_14_method_37_code 40 = .ok (.goto (-22), 3) := by decide +kernel
theorem d_Model_sayNumber_43 : decode prog_14_method_37_code 43 = .ok (.return_, 1) := by decide +kernel
def x_Model_sayNumber_18 (a1 : Int32) : Nat → Int32 → St → Option St
  | 0, _, _ => none
  | n + 1, l2, σ => (if l2 ≤ 0 then some σ else (if ¬ l2 = 0 then (Option.bind (x_Model_say ((48 : Int32) + ((a1 / l2) - (a1 / l2) / (10 : Int32) * (10 : Int32))) σ) (fun s32 => (x_let (l2 / (10 : Int32)) (fun (v39 : Int32) => x_Model_sayNumber_18 a1 n v39 s32)))) else none))
def x_Model_sayNumber_2 (a1 : Int32) : Nat → Int32 → St → Option St
  | 0, _, _ => none
  | n + 1, l2, σ => (if ¬ l2 = 0 then (if (a1 / l2) ≤ (9 : Int32) then x_Model_sayNumber_18 a1 x_fuel l2 σ else (x_let ((10 : Int32) * l2) (fun (v14 : Int32) => x_Model_sayNumber_2 a1 n v14 σ))) else none)
def x_Model_sayNumber (a1 : Int32) (σ : St) : Option St := x_Model_sayNumber_2 a1 x_fuel (1 : Int32) σ
abbrev rm_Model_sayNumber : Room := { frames := 1, cells := 0, slots := 0, locals := 21 }
set_option maxHeartbeats 4000000 in
set_option maxRecDepth 100000 in
theorem t_Model_sayNumber (l : Launch) (G : xG) (σ : St) (a1 : Int32) (σ' : St) (hE : x_Model_sayNumber a1 σ = some σ') : Met l y_Model_sayNumber (ws_Model_sayNumber) rm_Model_sayNumber (xP G σ [.ref (G.2.1 51), .int a1]) (xQ G none σ') 0 0 (xA G) := by
  refine Met.ofW (cc := prog_14_method_37_code) (maxL := 3) (ret := none) (by decide) rfl ?_
  intro p e s m args below meth c s₁ B hml hv
  obtain ⟨rfl, hw, hC⟩ := hv
  have hx := B.exec
  have hb := B.bytes
  have hr := B.returns
  have hu : ∀ w ∈ UW, w.before _ s = true := fun w h => atoms_spec B.pre w (List.mem_cons_of_mem _ h)
  have hown : s.vm.findClass R_Model = some m.cls := findClass_of_methodNamed B.named
  have hlocks := B.notSynchronized
  have hK := hC.1
  have hI := hC.2.1
  have hG := hC.2.2.1
  have hN := hC.2.2.2
  have hS : va_S (xA G) s.heap s.heap [] := va_S.rf
  have jn18 : ∀ (n : Nat) (ls : Array Slot) (H : Heap) (locs : List Loc) (σ : St) (l2 : Int32), x_Model_sayNumber_18 a1 n l2 σ = some σ' → lv_has ls 3 [(0, .ref (G.2.1 51)), (1, .int a1), (2, .int l2)] → xw G σ H → va_S (xA G) s.heap H locs → W p l e (headSpec (ws_Model_sayNumber) rm_Model_sayNumber).room s m ([.ref (G.2.1 51), .int a1] : List Value).toArray below meth c H locs 0 0 (MQ below (xQ G none σ') ([.ref (G.2.1 51), .int a1] : List Value).toArray s 0 0 (xA G)) (F0 m 18 ls []) := by
    intro n
    induction n with
    | zero => intro ls H locs σ l2 hE; rw [x_Model_sayNumber_18] at hE; cases hE
    | succ n ih =>
      intro ls H locs σ l2 hE hl hw hS
      rw [x_Model_sayNumber_18] at hE
      refine lv_iload_n hx hb d_Model_sayNumber_18 rfl (lv_at hl 2 rfl) ?_
      refine lv_if_le (tgt := 43) hx hb d_Model_sayNumber_19 (by decide) (fun hc19 => ?_) (fun hc19 => ?_)
      · rw [if_pos hc19] at hE
        have e1 := Option.some.inj hE
        exact W.vret hx hb hr (fun t ht hW => ⟨rfl, by rw [ht, ← e1]; exact hw, hS.F ht⟩) hS.2.2 d_Model_sayNumber_43
      · rw [if_neg hc19] at hE
        refine lv_aload_n hx hb d_Model_sayNumber_22 rfl (lv_at hl 0 rfl) ?_
        refine lv_bipush (v := (48 : Int32)) hx hb d_Model_sayNumber_23 (by decide) ?_
        refine lv_iload_n hx hb d_Model_sayNumber_25 rfl (lv_at hl 1 rfl) ?_
        refine lv_iload_n hx hb d_Model_sayNumber_26 rfl (lv_at hl 2 rfl) ?_
        obtain ⟨g27, hE⟩ := x_guard hE
        refine lv_idiv hx hb d_Model_sayNumber_27 g27 ?_
        refine lv_bipush (v := (10 : Int32)) hx hb d_Model_sayNumber_28 (by decide) ?_
        refine lv_irem hx hb d_Model_sayNumber_30 (by decide) ?_
        refine lv_iadd hx hb d_Model_sayNumber_31 ?_
        obtain ⟨s32, hC32, hE⟩ := x_bind hE
        refine x_callV hS (W.runV (As := [.int ((48 : Int32) + ((a1 / l2) - (a1 / l2) / (10 : Int32) * (10 : Int32)))]) (rest := []) ⟨hx, hb, hml, hown, hu⟩ (t_Model_say l G σ ((48 : Int32) + ((a1 / l2) - (a1 / l2) / (10 : Int32) * (10 : Int32))) s32 hC32) (cwV 1 hu (uw_V mw_1219 mw_1221 mw_30 mw_70 mw_1222) rfl rfl rfl hd_Model_say ⟨Nat.le_of_ble_eq_true rfl, Nat.le_of_ble_eq_true rfl⟩) (x_preV hC hS hw (va_recv hK hw (q := (R_Model, T_Model, 33)) (ci := 10) rfl (x_at (by decide) (xcl_51 G σ)))) rfl rfl hl.1 rfl (lv_room (Nat.le_of_ble_eq_true rfl)) d_Model_sayNumber_32 ⟨Nat.le_of_ble_eq_true rfl, Nat.le_of_ble_eq_true rfl⟩) (fun H locs hw hS => ?_)
        refine lv_iload_n hx hb d_Model_sayNumber_35 rfl (lv_at hl 2 rfl) ?_
        refine lv_bipush (v := (10 : Int32)) hx hb d_Model_sayNumber_36 (by decide) ?_
        refine lv_idiv hx hb d_Model_sayNumber_38 (by decide) ?_
        refine lv_topi (fun v39 e39 => ?_)
        replace hE := x_letT e39 hE
        refine lv_istore_n hx hb d_Model_sayNumber_39 rfl hl (by decide) rfl (fun ls hl => ?_)
        have hl : lv_has ls 3 [(2, .int v39), (0, .ref (G.2.1 51)), (1, .int a1)] := hl
        refine lv_goto (tgt := 18) hx hb d_Model_sayNumber_40 (by decide) ?_
        exact ih _ _ _ _ _ hE (lv_sub hl [1, 2, 0] rfl) hw hS
  have jn2 : ∀ (n : Nat) (ls : Array Slot) (H : Heap) (locs : List Loc) (σ : St) (l2 : Int32), x_Model_sayNumber_2 a1 n l2 σ = some σ' → lv_has ls 3 [(0, .ref (G.2.1 51)), (1, .int a1), (2, .int l2)] → xw G σ H → va_S (xA G) s.heap H locs → W p l e (headSpec (ws_Model_sayNumber) rm_Model_sayNumber).room s m ([.ref (G.2.1 51), .int a1] : List Value).toArray below meth c H locs 0 0 (MQ below (xQ G none σ') ([.ref (G.2.1 51), .int a1] : List Value).toArray s 0 0 (xA G)) (F0 m 2 ls []) := by
    intro n
    induction n with
    | zero => intro ls H locs σ l2 hE; rw [x_Model_sayNumber_2] at hE; cases hE
    | succ n ih =>
      intro ls H locs σ l2 hE hl hw hS
      rw [x_Model_sayNumber_2] at hE
      refine lv_iload_n hx hb d_Model_sayNumber_2 rfl (lv_at hl 1 rfl) ?_
      refine lv_iload_n hx hb d_Model_sayNumber_3 rfl (lv_at hl 2 rfl) ?_
      obtain ⟨g4, hE⟩ := x_guard hE
      refine lv_idiv hx hb d_Model_sayNumber_4 g4 ?_
      refine lv_bipush (v := (9 : Int32)) hx hb d_Model_sayNumber_5 (by decide) ?_
      refine lv_icmp_le (tgt := 18) hx hb d_Model_sayNumber_7 (by decide) (fun hc7 => ?_) (fun hc7 => ?_)
      · rw [if_pos hc7] at hE
        exact jn18 x_fuel _ _ _ _ _ hE (lv_sub hl [0, 1, 2] rfl) hw hS
      · rw [if_neg hc7] at hE
        refine lv_bipush (v := (10 : Int32)) hx hb d_Model_sayNumber_10 (by decide) ?_
        refine lv_iload_n hx hb d_Model_sayNumber_12 rfl (lv_at hl 2 rfl) ?_
        refine lv_imul hx hb d_Model_sayNumber_13 ?_
        refine lv_topi (fun v14 e14 => ?_)
        replace hE := x_letT e14 hE
        refine lv_istore_n hx hb d_Model_sayNumber_14 rfl hl (by decide) rfl (fun ls hl => ?_)
        have hl : lv_has ls 3 [(2, .int v14), (0, .ref (G.2.1 51)), (1, .int a1)] := hl
        refine lv_goto (tgt := 2) hx hb d_Model_sayNumber_15 (by decide) ?_
        exact ih _ _ _ _ _ hE (lv_sub hl [1, 2, 0] rfl) hw hS
  have hl := lv_entry ([.ref (G.2.1 51), .int a1]) (n := 3) (Nat.le_of_ble_eq_true rfl)
  rw [lg_entry_eq]
  generalize (lg_sl ([.ref (G.2.1 51), .int a1]) ++ List.replicate (3 - (lg_sl ([.ref (G.2.1 51), .int a1])).length) Slot.unset).toArray = ls at hl ⊢
  have hl : lv_has ls 3 [(0, .ref (G.2.1 51)), (1, .int a1)] := hl
  unfold x_Model_sayNumber at hE
  refine lv_iconst (v := (1 : Int32)) hx hb d_Model_sayNumber_0 (by decide) ?_
  refine lv_istore_n hx hb d_Model_sayNumber_1 rfl hl (by decide) rfl (fun ls hl => ?_)
  have hl : lv_has ls 3 [(2, .int (1 : Int32)), (0, .ref (G.2.1 51)), (1, .int a1)] := hl
  exact jn2 x_fuel _ _ _ _ _ hE (lv_sub hl [1, 2, 0] rfl) hw hS

def y_Model_endSaying : MethodName := ⟨"PlainOriginModel", "endSaying", "()V"⟩
def ws_Model_endSaying : List Cond := Cond.code y_Model_endSaying prog_14_method_38_code 1 none :: UW
theorem hd_Model_endSaying : y_Model_endSaying.cls = R_Model ∧ y_Model_endSaying.cls ≠ "java/lang/invoke/MethodHandle" ∧ y_Model_endSaying.cls ≠ "java/lang/invoke/VarHandle" ∧ (parseMethodDescriptor y_Model_endSaying.desc).map (fun d => d.parameters.length) = some 0 := by decide +kernel
theorem d_Model_endSaying_0 : decode prog_14_method_38_code 0 = .ok (.aload_n 0, 1) := by decide +kernel
theorem d_Model_endSaying_1 : decode prog_14_method_38_code 1 = .ok (.bipush (13), 2) := by decide +kernel
theorem d_Model_endSaying_3 : decode prog_14_method_38_code 3 = .ok (.invokevirtual 294, 3) := by decide +kernel
theorem d_Model_endSaying_6 : decode prog_14_method_38_code 6 = .ok (.aload_n 0, 1) := by decide +kernel
theorem d_Model_endSaying_7 : decode prog_14_method_38_code 7 = .ok (.bipush (10), 2) := by decide +kernel
theorem d_Model_endSaying_9 : decode prog_14_method_38_code 9 = .ok (.invokevirtual 294, 3) := by decide +kernel
theorem d_Model_endSaying_12 : decode prog_14_method_38_code 12 = .ok (.return_, 1) := by decide +kernel
def x_Model_endSaying (σ : St) : Option St := (Option.bind (x_Model_say (13 : Int32) σ) (fun s3 => (Option.bind (x_Model_say (10 : Int32) s3) (fun s9 => some s9))))
abbrev rm_Model_endSaying : Room := { frames := 1, cells := 0, slots := 0, locals := 21 }
set_option maxHeartbeats 4000000 in
set_option maxRecDepth 100000 in
theorem t_Model_endSaying (l : Launch) (G : xG) (σ : St) (σ' : St) (hE : x_Model_endSaying σ = some σ') : Met l y_Model_endSaying (ws_Model_endSaying) rm_Model_endSaying (xP G σ [.ref (G.2.1 51)]) (xQ G none σ') 0 0 (xA G) := by
  refine Met.ofW (cc := prog_14_method_38_code) (maxL := 1) (ret := none) (by decide) rfl ?_
  intro p e s m args below meth c s₁ B hml hv
  obtain ⟨rfl, hw, hC⟩ := hv
  have hx := B.exec
  have hb := B.bytes
  have hr := B.returns
  have hu : ∀ w ∈ UW, w.before _ s = true := fun w h => atoms_spec B.pre w (List.mem_cons_of_mem _ h)
  have hown : s.vm.findClass R_Model = some m.cls := findClass_of_methodNamed B.named
  have hlocks := B.notSynchronized
  have hK := hC.1
  have hI := hC.2.1
  have hG := hC.2.2.1
  have hN := hC.2.2.2
  have hS : va_S (xA G) s.heap s.heap [] := va_S.rf
  have hl := lv_entry ([.ref (G.2.1 51)]) (n := 1) (Nat.le_of_ble_eq_true rfl)
  rw [lg_entry_eq]
  generalize (lg_sl ([.ref (G.2.1 51)]) ++ List.replicate (1 - (lg_sl ([.ref (G.2.1 51)])).length) Slot.unset).toArray = ls at hl ⊢
  have hl : lv_has ls 1 [(0, .ref (G.2.1 51))] := hl
  unfold x_Model_endSaying at hE
  refine lv_aload_n hx hb d_Model_endSaying_0 rfl (lv_at hl 0 rfl) ?_
  refine lv_bipush (v := (13 : Int32)) hx hb d_Model_endSaying_1 (by decide) ?_
  obtain ⟨s3, hC3, hE⟩ := x_bind hE
  refine x_callV hS (W.runV (As := [.int (13 : Int32)]) (rest := []) ⟨hx, hb, hml, hown, hu⟩ (t_Model_say l G σ (13 : Int32) s3 hC3) (cwV 1 hu (uw_V mw_1219 mw_1221 mw_30 mw_70 mw_1222) rfl rfl rfl hd_Model_say ⟨Nat.le_of_ble_eq_true rfl, Nat.le_of_ble_eq_true rfl⟩) (x_preV hC hS hw (va_recv hK hw (q := (R_Model, T_Model, 33)) (ci := 10) rfl (x_at (by decide) (xcl_51 G σ)))) rfl rfl hl.1 rfl (lv_room (Nat.le_of_ble_eq_true rfl)) d_Model_endSaying_3 ⟨Nat.le_of_ble_eq_true rfl, Nat.le_of_ble_eq_true rfl⟩) (fun H locs hw hS => ?_)
  refine lv_aload_n hx hb d_Model_endSaying_6 rfl (lv_at hl 0 rfl) ?_
  refine lv_bipush (v := (10 : Int32)) hx hb d_Model_endSaying_7 (by decide) ?_
  obtain ⟨s9, hC9, hE⟩ := x_bind hE
  refine x_callV hS (W.runV (As := [.int (10 : Int32)]) (rest := []) ⟨hx, hb, hml, hown, hu⟩ (t_Model_say l G s3 (10 : Int32) s9 hC9) (cwV 1 hu (uw_V mw_1219 mw_1221 mw_30 mw_70 mw_1222) rfl rfl rfl hd_Model_say ⟨Nat.le_of_ble_eq_true rfl, Nat.le_of_ble_eq_true rfl⟩) (x_preV hC hS hw (va_recv hK hw (q := (R_Model, T_Model, 33)) (ci := 10) rfl (x_at (by decide) (xcl_51 G s3)))) rfl rfl hl.1 rfl (lv_room (Nat.le_of_ble_eq_true rfl)) d_Model_endSaying_9 ⟨Nat.le_of_ble_eq_true rfl, Nat.le_of_ble_eq_true rfl⟩) (fun H locs hw hS => ?_)
  have e1 := Option.some.inj hE
  exact W.vret hx hb hr (fun t ht hW => ⟨rfl, by rw [ht, ← e1]; exact hw, hS.F ht⟩) hS.2.2 d_Model_endSaying_12

def y_Model_sayStatus : MethodName := ⟨"PlainOriginModel", "sayStatus", "(I)V"⟩
def ws_Model_sayStatus : List Cond := Cond.code y_Model_sayStatus prog_14_method_39_code 2 none :: UW
theorem hd_Model_sayStatus : y_Model_sayStatus.cls = R_Model ∧ y_Model_sayStatus.cls ≠ "java/lang/invoke/MethodHandle" ∧ y_Model_sayStatus.cls ≠ "java/lang/invoke/VarHandle" ∧ (parseMethodDescriptor y_Model_sayStatus.desc).map (fun d => d.parameters.length) = some 1 := by decide +kernel
theorem d_Model_sayStatus_0 : decode prog_14_method_39_code 0 = .ok (.aload_n 0, 1) := by decide +kernel
theorem d_Model_sayStatus_1 : decode prog_14_method_39_code 1 = .ok (.sipush (160), 3) := by decide +kernel
theorem d_Model_sayStatus_4 : decode prog_14_method_39_code 4 = .ok (.invokevirtual 300, 3) := by decide +kernel
theorem d_Model_sayStatus_7 : decode prog_14_method_39_code 7 = .ok (.aload_n 0, 1) := by decide +kernel
theorem d_Model_sayStatus_8 : decode prog_14_method_39_code 8 = .ok (.iload_n 1, 1) := by decide +kernel
theorem d_Model_sayStatus_9 : decode prog_14_method_39_code 9 = .ok (.invokevirtual 303, 3) := by decide +kernel
theorem d_Model_sayStatus_12 : decode prog_14_method_39_code 12 = .ok (.aload_n 0, 1) := by decide +kernel
theorem d_Model_sayStatus_13 : decode prog_14_method_39_code 13 = .ok (.bipush (32), 2) := by decide +kernel
theorem d_Model_sayStatus_15 : decode prog_14_method_39_code 15 = .ok (.invokevirtual 294, 3) := by decide +kernel
theorem d_Model_sayStatus_18 : decode prog_14_method_39_code 18 = .ok (.aload_n 0, 1) := by decide +kernel
theorem d_Model_sayStatus_19 : decode prog_14_method_39_code 19 = .ok (.invokevirtual 306, 3) := by decide +kernel
theorem d_Model_sayStatus_22 : decode prog_14_method_39_code 22 = .ok (.aload_n 0, 1) := by decide +kernel
theorem d_Model_sayStatus_23 : decode prog_14_method_39_code 23 = .ok (.iload_n 1, 1) := by decide +kernel
theorem d_Model_sayStatus_24 : decode prog_14_method_39_code 24 = .ok (.putfield 136, 3) := by decide +kernel
theorem d_Model_sayStatus_27 : decode prog_14_method_39_code 27 = .ok (.aload_n 0, 1) := by decide +kernel
theorem d_Model_sayStatus_28 : decode prog_14_method_39_code 28 = .ok (.dup, 1) := by decide +kernel
theorem d_Model_sayStatus_29 : decode prog_14_method_39_code 29 = .ok (.getfield 165, 3) := by decide +kernel
theorem d_Model_sayStatus_32 : decode prog_14_method_39_code 32 = .ok (.iconst 1, 1) := by decide +kernel
theorem d_Model_sayStatus_33 : decode prog_14_method_39_code 33 = .ok (.iadd, 1) := by decide +kernel
theorem d_Model_sayStatus_34 : decode prog_14_method_39_code 34 = .ok (.putfield 165, 3) := by decide +kernel
theorem d_Model_sayStatus_37 : decode prog_14_method_39_code 37 = .ok (.return_, 1) := by decide +kernel
def x_Model_sayStatus (a1 : Int32) (σ : St) : Option St := (Option.bind (x_Model_sayWord (160 : Int32) σ) (fun s4 => (Option.bind (x_Model_sayNumber a1 s4) (fun s9 => (Option.bind (x_Model_say (32 : Int32) s9) (fun s15 => (Option.bind (x_Model_endSaying s15) (fun s19 => (x_let (x_updR s19 51 29 a1) (fun (s24 : St) => (x_let (x_updR s24 51 30 ((s24.1 51 30) + (1 : Int32))) (fun (s34 : St) => some s34))))))))))))
abbrev rm_Model_sayStatus : Room := { frames := 2, cells := 0, slots := 0, locals := 43 }
set_option maxHeartbeats 4000000 in
set_option maxRecDepth 100000 in
theorem t_Model_sayStatus (l : Launch) (G : xG) (σ : St) (a1 : Int32) (σ' : St) (hE : x_Model_sayStatus a1 σ = some σ') : Met l y_Model_sayStatus (ws_Model_sayStatus) rm_Model_sayStatus (xP G σ [.ref (G.2.1 51), .int a1]) (xQ G none σ') 0 0 (xA G) := by
  refine Met.ofW (cc := prog_14_method_39_code) (maxL := 2) (ret := none) (by decide) rfl ?_
  intro p e s m args below meth c s₁ B hml hv
  obtain ⟨rfl, hw, hC⟩ := hv
  have hx := B.exec
  have hb := B.bytes
  have hr := B.returns
  have hu : ∀ w ∈ UW, w.before _ s = true := fun w h => atoms_spec B.pre w (List.mem_cons_of_mem _ h)
  have hown : s.vm.findClass R_Model = some m.cls := findClass_of_methodNamed B.named
  have hlocks := B.notSynchronized
  have hK := hC.1
  have hI := hC.2.1
  have hG := hC.2.2.1
  have hN := hC.2.2.2
  have hS : va_S (xA G) s.heap s.heap [] := va_S.rf
  have hl := lv_entry ([.ref (G.2.1 51), .int a1]) (n := 2) (Nat.le_of_ble_eq_true rfl)
  rw [lg_entry_eq]
  generalize (lg_sl ([.ref (G.2.1 51), .int a1]) ++ List.replicate (2 - (lg_sl ([.ref (G.2.1 51), .int a1])).length) Slot.unset).toArray = ls at hl ⊢
  have hl : lv_has ls 2 [(0, .ref (G.2.1 51)), (1, .int a1)] := hl
  unfold x_Model_sayStatus at hE
  refine lv_aload_n hx hb d_Model_sayStatus_0 rfl (lv_at hl 0 rfl) ?_
  refine lv_sipush (v := (160 : Int32)) hx hb d_Model_sayStatus_1 (by decide) ?_
  obtain ⟨s4, hC4, hE⟩ := x_bind hE
  refine x_callV hS (W.runV (As := [.int (160 : Int32)]) (rest := []) ⟨hx, hb, hml, hown, hu⟩ (t_Model_sayWord l G σ (160 : Int32) s4 hC4) (cwV 1 hu (uw_V mw_1211 mw_1213 mw_28 mw_70 mw_1214) rfl rfl rfl hd_Model_sayWord ⟨Nat.le_of_ble_eq_true rfl, Nat.le_of_ble_eq_true rfl⟩) (x_preV hC hS hw (va_recv hK hw (q := (R_Model, T_Model, 33)) (ci := 10) rfl (x_at (by decide) (xcl_51 G σ)))) rfl rfl hl.1 rfl (lv_room (Nat.le_of_ble_eq_true rfl)) d_Model_sayStatus_4 ⟨Nat.le_of_ble_eq_true rfl, Nat.le_of_ble_eq_true rfl⟩) (fun H locs hw hS => ?_)
  refine lv_aload_n hx hb d_Model_sayStatus_7 rfl (lv_at hl 0 rfl) ?_
  refine lv_iload_n hx hb d_Model_sayStatus_8 rfl (lv_at hl 1 rfl) ?_
  obtain ⟨s9, hC9, hE⟩ := x_bind hE
  refine x_callV hS (W.runV (As := [.int a1]) (rest := []) ⟨hx, hb, hml, hown, hu⟩ (t_Model_sayNumber l G s4 a1 s9 hC9) (cwV 1 hu (uw_V mw_1223 mw_1225 mw_31 mw_70 mw_1226) rfl rfl rfl hd_Model_sayNumber ⟨Nat.le_of_ble_eq_true rfl, Nat.le_of_ble_eq_true rfl⟩) (x_preV hC hS hw (va_recv hK hw (q := (R_Model, T_Model, 33)) (ci := 10) rfl (x_at (by decide) (xcl_51 G s4)))) rfl rfl hl.1 rfl (lv_room (Nat.le_of_ble_eq_true rfl)) d_Model_sayStatus_9 ⟨Nat.le_of_ble_eq_true rfl, Nat.le_of_ble_eq_true rfl⟩) (fun H locs hw hS => ?_)
  refine lv_aload_n hx hb d_Model_sayStatus_12 rfl (lv_at hl 0 rfl) ?_
  refine lv_bipush (v := (32 : Int32)) hx hb d_Model_sayStatus_13 (by decide) ?_
  obtain ⟨s15, hC15, hE⟩ := x_bind hE
  refine x_callV hS (W.runV (As := [.int (32 : Int32)]) (rest := []) ⟨hx, hb, hml, hown, hu⟩ (t_Model_say l G s9 (32 : Int32) s15 hC15) (cwV 1 hu (uw_V mw_1219 mw_1221 mw_30 mw_70 mw_1222) rfl rfl rfl hd_Model_say ⟨Nat.le_of_ble_eq_true rfl, Nat.le_of_ble_eq_true rfl⟩) (x_preV hC hS hw (va_recv hK hw (q := (R_Model, T_Model, 33)) (ci := 10) rfl (x_at (by decide) (xcl_51 G s9)))) rfl rfl hl.1 rfl (lv_room (Nat.le_of_ble_eq_true rfl)) d_Model_sayStatus_15 ⟨Nat.le_of_ble_eq_true rfl, Nat.le_of_ble_eq_true rfl⟩) (fun H locs hw hS => ?_)
  refine lv_aload_n hx hb d_Model_sayStatus_18 rfl (lv_at hl 0 rfl) ?_
  obtain ⟨s19, hC19, hE⟩ := x_bind hE
  refine x_callV hS (W.runV (As := []) (rest := []) ⟨hx, hb, hml, hown, hu⟩ (t_Model_endSaying l G s15 s19 hC19) (cwV 0 hu (uw_V mw_1227 mw_1229 mw_32 mw_70 mw_1230) rfl rfl rfl hd_Model_endSaying ⟨Nat.le_of_ble_eq_true rfl, Nat.le_of_ble_eq_true rfl⟩) (x_preV hC hS hw (va_recv hK hw (q := (R_Model, T_Model, 33)) (ci := 10) rfl (x_at (by decide) (xcl_51 G s15)))) rfl rfl hl.1 rfl (lv_room (Nat.le_of_ble_eq_true rfl)) d_Model_sayStatus_19 ⟨Nat.le_of_ble_eq_true rfl, Nat.le_of_ble_eq_true rfl⟩) (fun H locs hw hS => ?_)
  refine lv_aload_n hx hb d_Model_sayStatus_22 rfl (lv_at hl 0 rfl) ?_
  refine lv_iload_n hx hb d_Model_sayStatus_23 rfl (lv_at hl 1 rfl) ?_
  refine va_put (D := G.1) (cl := xCl) (ci := 10) (v := .int a1) (ty := .int) (C := R_Model) (T := T_Model) (N := 33) hx hb hu fi_Model ty_Model tyok_Model nm_Model hown hK hw (x_D hI _) hS 51 (x_at (by decide) (xcl_51 G s19)) rfl 29 (by decide) (hu _ mw_1097) (fun _ h9 => h9) rfl (tyok_Model 29 (by decide)) rfl rfl (Nat.le_of_ble_eq_true rfl) d_Model_sayStatus_24 (fun H locs hw _ hS => ?_)
  replace hw := x_setR hw (by decide) rfl
  obtain ⟨s24, e24, hE⟩ := x_letE hE
  rw [← e24] at hw
  refine lv_aload_n hx hb d_Model_sayStatus_27 rfl (lv_at hl 0 rfl) ?_
  refine lv_dup hx hb d_Model_sayStatus_28 rfl ?_
  refine va_get (D := G.1) (cl := xCl) (ci := 10) (v := .int (s24.1 51 30)) (C := R_Model) (T := T_Model) (N := 33) hx hb hu fi_Model hown hK hw 51 (x_at (by decide) (xcl_51 G s24)) rfl 30 (by decide) (hu _ mw_1098) (fun _ h9 => h9) rfl d_Model_sayStatus_29 ?_
  refine lv_iconst (v := (1 : Int32)) hx hb d_Model_sayStatus_32 (by decide) ?_
  refine lv_iadd hx hb d_Model_sayStatus_33 ?_
  refine va_put (D := G.1) (cl := xCl) (ci := 10) (v := .int ((s24.1 51 30) + (1 : Int32))) (ty := .int) (C := R_Model) (T := T_Model) (N := 33) hx hb hu fi_Model ty_Model tyok_Model nm_Model hown hK hw (x_D hI _) hS 51 (x_at (by decide) (xcl_51 G s24)) rfl 30 (by decide) (hu _ mw_1098) (fun _ h9 => h9) rfl (tyok_Model 30 (by decide)) rfl rfl (Nat.le_of_ble_eq_true rfl) d_Model_sayStatus_34 (fun H locs hw _ hS => ?_)
  replace hw := x_setR hw (by decide) rfl
  obtain ⟨s34, e34, hE⟩ := x_letE hE
  rw [← e34] at hw
  have e1 := Option.some.inj hE
  exact W.vret hx hb hr (fun t ht hW => ⟨rfl, by rw [ht, ← e1]; exact hw, hS.F ht⟩) hS.2.2 d_Model_sayStatus_37

def y_Model_respond : MethodName := ⟨"PlainOriginModel", "respond", "(IIIIII)V"⟩
def ws_Model_respond : List Cond := Cond.code y_Model_respond prog_14_method_40_code 7 none :: UW
theorem hd_Model_respond : y_Model_respond.cls = R_Model ∧ y_Model_respond.cls ≠ "java/lang/invoke/MethodHandle" ∧ y_Model_respond.cls ≠ "java/lang/invoke/VarHandle" ∧ (parseMethodDescriptor y_Model_respond.desc).map (fun d => d.parameters.length) = some 6 := by decide +kernel
theorem d_Model_respond_0 : decode prog_14_method_40_code 0 = .ok (.aload_n 0, 1) := by decide +kernel
theorem d_Model_respond_1 : decode prog_14_method_40_code 1 = .ok (.iload_n 1, 1) := by decide +kernel
theorem d_Model_respond_2 : decode prog_14_method_40_code 2 = .ok (.invokevirtual 291, 3) := by decide +kernel
theorem d_Model_respond_5 : decode prog_14_method_40_code 5 = .ok (.iload_n 1, 1) := by decide +kernel
theorem d_Model_respond_6 : decode prog_14_method_40_code 6 = .ok (.sipush (204), 3) := by decide +kernel
theorem d_Model_respond_9 : decode prog_14_method_40_code 9 = .ok (.if_icmp .eq (26), 3) := by decide +kernel
theorem d_Model_respond_12 : decode prog_14_method_40_code 12 = .ok (.iload_n 1, 1) := by decide +kernel
theorem d_Model_respond_13 : decode prog_14_method_40_code 13 = .ok (.sipush (304), 3) := by decide +kernel
theorem d_Model_respond_16 : decode prog_14_method_40_code 16 = .ok (.if_icmp .eq (19), 3) := by decide +kernel
theorem d_Model_respond_19 : decode prog_14_method_40_code 19 = .ok (.aload_n 0, 1) := by decide +kernel
theorem d_Model_respond_20 : decode prog_14_method_40_code 20 = .ok (.sipush (170), 3) := by decide +kernel
theorem d_Model_respond_23 : decode prog_14_method_40_code 23 = .ok (.invokevirtual 300, 3) := by decide +kernel
theorem d_Model_respond_26 : decode prog_14_method_40_code 26 = .ok (.aload_n 0, 1) := by decide +kernel
theorem d_Model_respond_27 : decode prog_14_method_40_code 27 = .ok (.iload_n 2, 1) := by decide +kernel
theorem d_Model_respond_28 : decode prog_14_method_40_code 28 = .ok (.invokevirtual 303, 3) := by decide +kernel
theorem d_Model_respond_31 : decode prog_14_method_40_code 31 = .ok (.aload_n 0, 1) := by decide +kernel
theorem d_Model_respond_32 : decode prog_14_method_40_code 32 = .ok (.invokevirtual 306, 3) := by decide +kernel
theorem d_Model_respond_35 : decode prog_14_method_40_code 35 = .ok (.iload_n 3, 1) := by decide +kernel
theorem d_Model_respond_36 : decode prog_14_method_40_code 36 = .ok (.ifCond .lt (31), 3) := by decide +kernel
theorem d_Model_respond_39 : decode prog_14_method_40_code 39 = .ok (.aload_n 0, 1) := by decide +kernel
theorem d_Model_respond_40 : decode prog_14_method_40_code 40 = .ok (.sipush (187), 3) := by decide +kernel
theorem d_Model_respond_43 : decode prog_14_method_40_code 43 = .ok (.invokevirtual 300, 3) := by decide +kernel
theorem d_Model_respond_46 : decode prog_14_method_40_code 46 = .ok (.aload_n 0, 1) := by decide +kernel
theorem d_Model_respond_47 : decode prog_14_method_40_code 47 = .ok (.bipush (34), 2) := by decide +kernel
theorem d_Model_respond_49 : decode prog_14_method_40_code 49 = .ok (.invokevirtual 294, 3) := by decide +kernel
theorem d_Model_respond_52 : decode prog_14_method_40_code 52 = .ok (.aload_n 0, 1) := by decide +kernel
theorem d_Model_respond_53 : decode prog_14_method_40_code 53 = .ok (.iload_n 3, 1) := by decide +kernel
theorem d_Model_respond_54 : decode prog_14_method_40_code 54 = .ok (.invokevirtual 303, 3) := by decide +kernel
theorem d_Model_respond_57 : decode prog_14_method_40_code 57 = .ok (.aload_n 0, 1) := by decide +kernel
theorem d_Model_respond_58 : decode prog_14_method_40_code 58 = .ok (.bipush (34), 2) := by decide +kernel
theorem d_Model_respond_60 : decode prog_14_method_40_code 60 = .ok (.invokevirtual 294, 3) := by decide +kernel
theorem d_Model_respond_63 : decode prog_14_method_40_code 63 = .ok (.aload_n 0, 1) := by decide +kernel
theorem d_Model_respond_64 : decode prog_14_method_40_code 64 = .ok (.invokevirtual 306, 3) := by decide +kernel
theorem d_Model_respond_67 : decode prog_14_method_40_code 67 = .ok (.iload_n 1, 1) := by decide +kernel
theorem d_Model_respond_68 : decode prog_14_method_40_code 68 = .ok (.sipush (206), 3) := by decide +kernel
theorem d_Model_respond_71 : decode prog_14_method_40_code 71 = .ok (.if_icmp .eq (10), 3) := by decide +kernel
theorem d_Model_respond_74 : decode prog_14_method_40_code 74 = .ok (.iload_n 1, 1) := by decide +kernel
theorem d_Model_respond_75 : decode prog_14_method_40_code 75 = .ok (.sipush (416), 3) := by decide +kernel
theorem d_Model_respond_78 : decode prog_14_method_40_code 78 = .ok (.if_icmp .ne (62), 3) := by decide +kernel
theorem d_Model_respond_81 : decode prog_14_method_40_code 81 = .ok (.aload_n 0, 1) := by decide +kernel
theorem d_Model_respond_82 : decode prog_14_method_40_code 82 = .ok (.sipush (194), 3) := by decide +kernel
theorem d_Model_respond_85 : decode prog_14_method_40_code 85 = .ok (.invokevirtual 300, 3) := by decide +kernel
theorem d_Model_respond_88 : decode prog_14_method_40_code 88 = .ok (.iload_n 1, 1) := by decide +kernel
theorem d_Model_respond_89 : decode prog_14_method_40_code 89 = .ok (.sipush (206), 3) := by decide +kernel
theorem d_Model_respond_92 : decode prog_14_method_40_code 92 = .ok (.if_icmp .ne (26), 3) := by decide +kernel
theorem d_Model_respond_95 : decode prog_14_method_40_code 95 = .ok (.aload_n 0, 1) := by decide +kernel
theorem d_Model_respond_96 : decode prog_14_method_40_code 96 = .ok (.iload 4, 2) := by decide +kernel
theorem d_Model_respond_98 : decode prog_14_method_40_code 98 = .ok (.invokevirtual 303, 3) := by decide +kernel
theorem d_Model_respond_101 : decode prog_14_method_40_code 101 = .ok (.aload_n 0, 1) := by decide +kernel
theorem d_Model_respond_102 : decode prog_14_method_40_code 102 = .ok (.bipush (45), 2) := by decide +kernel
theorem d_Model_respond_104 : decode prog_14_method_40_code 104 = .ok (.invokevirtual 294, 3) := by decide +kernel
theorem d_Model_respond_107 : decode prog_14_method_40_code 107 = .ok (.aload_n 0, 1) := by decide +kernel
theorem d_Model_respond_108 : decode prog_14_method_40_code 108 = .ok (.iload 5, 2) := by decide +kernel
theorem d_Model_respond_110 : decode prog_14_method_40_code 110 = .ok (.iconst 1, 1) := by decide +kernel
theorem d_Model_respond_111 : decode prog_14_method_40_code 111 = .ok (.isub, 1) := by decide +kernel
theorem d_Model_respond_112 : decode prog_14_method_40_code 112 = .ok (.invokevirtual 303, 3) := by decide +kernel
theorem d_Model_respond_115 : decode prog_14_method_40_code 115 = .ok (.goto (9), 3) := by decide +kernel
theorem d_Model_respond_118 : decode prog_14_method_40_code 118 = .ok (.aload_n 0, 1) := by decide +kernel
theorem d_Model_respond_119 : decode prog_14_method_40_code 119 = .ok (.bipush (42), 2) := by decide +kernel
theorem d_Model_respond_121 : decode prog_14_method_40_code 121 = .ok (.invokevirtual 294, 3) := by decide +kernel
theorem d_Model_respond_124 : decode prog_14_method_40_code 124 = .ok (.aload_n 0, 1) := by decide +kernel
theorem d_Model_respond_125 : decode prog_14_method_40_code 125 = .ok (.bipush (47), 2) := by decide +kernel
theorem d_Model_respond_127 : decode prog_14_method_40_code 127 = .ok (.invokevirtual 294, 3) := by decide +kernel
theorem d_Model_respond_130 : decode prog_14_method_40_code 130 = .ok (.aload_n 0, 1) := by decide +kernel
theorem d_Model_respond_131 : decode prog_14_method_40_code 131 = .ok (.iload 6, 2) := by decide +kernel
theorem d_Model_respond_133 : decode prog_14_method_40_code 133 = .ok (.invokevirtual 303, 3) := by decide +kernel
theorem d_Model_respond_136 : decode prog_14_method_40_code 136 = .ok (.aload_n 0, 1) := by decide +kernel
theorem d_Model_respond_137 : decode prog_14_method_40_code 137 = .ok (.invokevirtual 306, 3) := by decide +kernel
theorem d_Model_respond_140 : decode prog_14_method_40_code 140 = .ok (.iload_n 1, 1) := by decide +kernel
theorem d_Model_respond_141 : decode prog_14_method_40_code 141 = .ok (.sipush (405), 3) := by decide +kernel
theorem d_Model_respond_144 : decode prog_14_method_40_code 144 = .ok (.if_icmp .eq (20), 3) := by decide +kernel
theorem d_Model_respond_147 : decode prog_14_method_40_code 147 = .ok (.iload_n 1, 1) := by decide +kernel
theorem d_Model_respond_148 : decode prog_14_method_40_code 148 = .ok (.sipush (204), 3) := by decide +kernel
theorem d_Model_respond_151 : decode prog_14_method_40_code 151 = .ok (.if_icmp .ne (24), 3) := by decide +kernel
theorem d_Model_respond_154 : decode prog_14_method_40_code 154 = .ok (.aload_n 0, 1) := by decide +kernel
theorem d_Model_respond_155 : decode prog_14_method_40_code 155 = .ok (.getfield 108, 3) := by decide +kernel
theorem d_Model_respond_158 : decode prog_14_method_40_code 158 = .ok (.sipush (146), 3) := by decide +kernel
theorem d_Model_respond_161 : decode prog_14_method_40_code 161 = .ok (.if_icmp .ne (14), 3) := by decide +kernel
theorem d_Model_respond_164 : decode prog_14_method_40_code 164 = .ok (.aload_n 0, 1) := by decide +kernel
theorem d_Model_respond_165 : decode prog_14_method_40_code 165 = .ok (.sipush (216), 3) := by decide +kernel
theorem d_Model_respond_168 : decode prog_14_method_40_code 168 = .ok (.invokevirtual 300, 3) := by decide +kernel
theorem d_Model_respond_171 : decode prog_14_method_40_code 171 = .ok (.aload_n 0, 1) := by decide +kernel
theorem d_Model_respond_172 : decode prog_14_method_40_code 172 = .ok (.invokevirtual 306, 3) := by decide +kernel
theorem d_Model_respond_175 : decode prog_14_method_40_code 175 = .ok (.aload_n 0, 1) := by decide +kernel
theorem d_Model_respond_176 : decode prog_14_method_40_code 176 = .ok (.getfield 172, 3) := by decide +kernel
theorem d_Model_respond_179 : decode prog_14_method_40_code 179 = .ok (.ifCond .ne (10), 3) := by decide +kernel
theorem d_Model_respond_182 : decode prog_14_method_40_code 182 = .ok (.aload_n 0, 1) := by decide +kernel
theorem d_Model_respond_183 : decode prog_14_method_40_code 183 = .ok (.getfield 115, 3) := by decide +kernel
theorem d_Model_respond_186 : decode prog_14_method_40_code 186 = .ok (.ifCond .ne (27), 3) := by decide +kernel
theorem d_Model_respond_189 : decode prog_14_method_40_code 189 = .ok (.aload_n 0, 1) := by decide +kernel
theorem d_Model_respond_190 : decode prog_14_method_40_code 190 = .ok (.aload_n 0, 1) := by decide +kernel
theorem d_Model_respond_191 : decode prog_14_method_40_code 191 = .ok (.getfield 172, 3) := by decide +kernel
theorem d_Model_respond_194 : decode prog_14_method_40_code 194 = .ok (.ifCond .eq (9), 3) := by decide +kernel
theorem d_Model_respond_197 : decode prog_14_method_40_code 197 = .ok (.sipush (261), 3) := by decide +kernel
theorem d_Model_respond_200 : decode prog_14_method_40_code 200 = .ok (.goto (6), 3) := by decide +kernel
theorem d_Model_respond_203 : decode prog_14_method_40_code 203 = .ok (.sipush (279), 3) := by decide +kernel
theorem d_Model_respond_206 : decode prog_14_method_40_code 206 = .ok (.invokevirtual 300, 3) := by decide +kernel
theorem d_Model_respond_209 : decode prog_14_method_40_code 209 = .ok (.aload_n 0, 1) := by decide +kernel
theorem d_Model_respond_210 : decode prog_14_method_40_code 210 = .ok (.invokevirtual 306, 3) := by decide +kernel
theorem d_Model_respond_213 : decode prog_14_method_40_code 213 = .ok (.aload_n 0, 1) := by decide +kernel
theorem d_Model_respond_214 : decode prog_14_method_40_code 214 = .ok (.invokevirtual 306, 3) := by decide +kernel
theorem d_Model_respond_217 : decode prog_14_method_40_code 217 = .ok (.aload_n 0, 1) := by decide +kernel
theorem d_Model_respond_218 : decode prog_14_method_40_code 218 = .ok (.aload_n 0, 1) := by decide +kernel
theorem d_Model_respond_219 : decode prog_14_method_40_code 219 = .ok (.getfield 172, 3) := by decide +kernel
theorem d_Model_respond_222 : decode prog_14_method_40_code 222 = .ok (.ifCond .ne (7), 3) := by decide +kernel
theorem d_Model_respond_225 : decode prog_14_method_40_code 225 = .ok (.iconst 1, 1) := by decide +kernel
theorem d_Model_respond_226 : decode prog_14_method_40_code 226 = .ok (.goto (4), 3) := by decide +kernel
theorem d_Model_respond_229 : decode prog_14_method_40_code 229 = .ok (.iconst 0, 1) := by decide +kernel
theorem d_Model_respond_230 : decode prog_14_method_40_code 230 = .ok (.putfield 101, 3) := by decide +kernel
theorem d_Model_respond_233 : decode prog_14_method_40_code 233 = .ok (.return_, 1) := by decide +kernel
def x_Model_respond_213 (a1 : Int32) (a2 : Int32) (a3 : Int32) (a4 : Int32) (a5 : Int32) (a6 : Int32) (σ : St) : Option St := (Option.bind (x_Model_endSaying σ) (fun s214 => (if (s214.1 51 16) = 0 then (x_let (x_updR s214 51 7 (1 : Int32)) (fun (s230 : St) => some s230)) else (x_let (x_updR s214 51 7 (0 : Int32)) (fun (s230 : St) => some s230)))))
def x_Model_respond_206 (a1 : Int32) (a2 : Int32) (a3 : Int32) (a4 : Int32) (a5 : Int32) (a6 : Int32) (k0 : Int32) (σ : St) : Option St := (Option.bind (x_Model_sayWord k0 σ) (fun s206 => (Option.bind (x_Model_endSaying s206) (fun s210 => x_Model_respond_213 a1 a2 a3 a4 a5 a6 s210))))
def x_Model_respond_189 (a1 : Int32) (a2 : Int32) (a3 : Int32) (a4 : Int32) (a5 : Int32) (a6 : Int32) (σ : St) : Option St := (if (σ.1 51 16) = 0 then x_Model_respond_206 a1 a2 a3 a4 a5 a6 (279 : Int32) σ else x_Model_respond_206 a1 a2 a3 a4 a5 a6 (261 : Int32) σ)
def x_Model_respond_175 (a1 : Int32) (a2 : Int32) (a3 : Int32) (a4 : Int32) (a5 : Int32) (a6 : Int32) (σ : St) : Option St := (if (σ.1 51 16) = 0 then (if (σ.1 51 15) = 0 then x_Model_respond_189 a1 a2 a3 a4 a5 a6 σ else x_Model_respond_213 a1 a2 a3 a4 a5 a6 σ) else x_Model_respond_189 a1 a2 a3 a4 a5 a6 σ)
def x_Model_respond_164 (a1 : Int32) (a2 : Int32) (a3 : Int32) (a4 : Int32) (a5 : Int32) (a6 : Int32) (σ : St) : Option St := (Option.bind (x_Model_sayWord (216 : Int32) σ) (fun s168 => (Option.bind (x_Model_endSaying s168) (fun s172 => x_Model_respond_175 a1 a2 a3 a4 a5 a6 s172))))
def x_Model_respond_140 (a1 : Int32) (a2 : Int32) (a3 : Int32) (a4 : Int32) (a5 : Int32) (a6 : Int32) (σ : St) : Option St := (if a1 = (405 : Int32) then x_Model_respond_164 a1 a2 a3 a4 a5 a6 σ else (if a1 = (204 : Int32) then (if (σ.1 51 12) = (146 : Int32) then x_Model_respond_164 a1 a2 a3 a4 a5 a6 σ else x_Model_respond_175 a1 a2 a3 a4 a5 a6 σ) else x_Model_respond_175 a1 a2 a3 a4 a5 a6 σ))
def x_Model_respond_124 (a1 : Int32) (a2 : Int32) (a3 : Int32) (a4 : Int32) (a5 : Int32) (a6 : Int32) (σ : St) : Option St := (Option.bind (x_Model_say (47 : Int32) σ) (fun s127 => (Option.bind (x_Model_sayNumber a6 s127) (fun s133 => (Option.bind (x_Model_endSaying s133) (fun s137 => x_Model_respond_140 a1 a2 a3 a4 a5 a6 s137))))))
def x_Model_respond_81 (a1 : Int32) (a2 : Int32) (a3 : Int32) (a4 : Int32) (a5 : Int32) (a6 : Int32) (σ : St) : Option St := (Option.bind (x_Model_sayWord (194 : Int32) σ) (fun s85 => (if a1 = (206 : Int32) then (Option.bind (x_Model_sayNumber a4 s85) (fun s98 => (Option.bind (x_Model_say (45 : Int32) s98) (fun s104 => (Option.bind (x_Model_sayNumber (a5 - (1 : Int32)) s104) (fun s112 => x_Model_respond_124 a1 a2 a3 a4 a5 a6 s112)))))) else (Option.bind (x_Model_say (42 : Int32) s85) (fun s121 => x_Model_respond_124 a1 a2 a3 a4 a5 a6 s121)))))
def x_Model_respond_67 (a1 : Int32) (a2 : Int32) (a3 : Int32) (a4 : Int32) (a5 : Int32) (a6 : Int32) (σ : St) : Option St := (if a1 = (206 : Int32) then x_Model_respond_81 a1 a2 a3 a4 a5 a6 σ else (if a1 = (416 : Int32) then x_Model_respond_81 a1 a2 a3 a4 a5 a6 σ else x_Model_respond_140 a1 a2 a3 a4 a5 a6 σ))
def x_Model_respond_35 (a1 : Int32) (a2 : Int32) (a3 : Int32) (a4 : Int32) (a5 : Int32) (a6 : Int32) (σ : St) : Option St := (if a3 < 0 then x_Model_respond_67 a1 a2 a3 a4 a5 a6 σ else (Option.bind (x_Model_sayWord (187 : Int32) σ) (fun s43 => (Option.bind (x_Model_say (34 : Int32) s43) (fun s49 => (Option.bind (x_Model_sayNumber a3 s49) (fun s54 => (Option.bind (x_Model_say (34 : Int32) s54) (fun s60 => (Option.bind (x_Model_endSaying s60) (fun s64 => x_Model_respond_67 a1 a2 a3 a4 a5 a6 s64)))))))))))
def x_Model_respond (a1 : Int32) (a2 : Int32) (a3 : Int32) (a4 : Int32) (a5 : Int32) (a6 : Int32) (σ : St) : Option St := (Option.bind (x_Model_sayStatus a1 σ) (fun s2 => (if a1 = (204 : Int32) then x_Model_respond_35 a1 a2 a3 a4 a5 a6 s2 else (if a1 = (304 : Int32) then x_Model_respond_35 a1 a2 a3 a4 a5 a6 s2 else (Option.bind (x_Model_sayWord (170 : Int32) s2) (fun s23 => (Option.bind (x_Model_sayNumber a2 s23) (fun s28 => (Option.bind (x_Model_endSaying s28) (fun s32 => x_Model_respond_35 a1 a2 a3 a4 a5 a6 s32))))))))))
abbrev rm_Model_respond : Room := { frames := 3, cells := 0, slots := 0, locals := 64 }
set_option maxHeartbeats 4000000 in
set_option maxRecDepth 100000 in
theorem t_Model_respond (l : Launch) (G : xG) (σ : St) (a1 : Int32) (a2 : Int32) (a3 : Int32) (a4 : Int32) (a5 : Int32) (a6 : Int32) (σ' : St) (hE : x_Model_respond a1 a2 a3 a4 a5 a6 σ = some σ') : Met l y_Model_respond (ws_Model_respond) rm_Model_respond (xP G σ [.ref (G.2.1 51), .int a1, .int a2, .int a3, .int a4, .int a5, .int a6]) (xQ G none σ') 0 0 (xA G) := by
  refine Met.ofW (cc := prog_14_method_40_code) (maxL := 7) (ret := none) (by decide) rfl ?_
  intro p e s m args below meth c s₁ B hml hv
  obtain ⟨rfl, hw, hC⟩ := hv
  have hx := B.exec
  have hb := B.bytes
  have hr := B.returns
  have hu : ∀ w ∈ UW, w.before _ s = true := fun w h => atoms_spec B.pre w (List.mem_cons_of_mem _ h)
  have hown : s.vm.findClass R_Model = some m.cls := findClass_of_methodNamed B.named
  have hlocks := B.notSynchronized
  have hK := hC.1
  have hI := hC.2.1
  have hG := hC.2.2.1
  have hN := hC.2.2.2
  have hS : va_S (xA G) s.heap s.heap [] := va_S.rf
  have jn213 : ∀ (ls : Array Slot) (H : Heap) (locs : List Loc) (σ : St), x_Model_respond_213 a1 a2 a3 a4 a5 a6 σ = some σ' → lv_has ls 7 [(0, .ref (G.2.1 51)), (1, .int a1), (2, .int a2), (3, .int a3), (4, .int a4), (5, .int a5), (6, .int a6)] → xw G σ H → va_S (xA G) s.heap H locs → W p l e (headSpec (ws_Model_respond) rm_Model_respond).room s m ([.ref (G.2.1 51), .int a1, .int a2, .int a3, .int a4, .int a5, .int a6] : List Value).toArray below meth c H locs 0 0 (MQ below (xQ G none σ') ([.ref (G.2.1 51), .int a1, .int a2, .int a3, .int a4, .int a5, .int a6] : List Value).toArray s 0 0 (xA G)) (F0 m 213 ls []) := by
    intro ls H locs σ hE hl hw hS
    unfold x_Model_respond_213 at hE
    refine lv_aload_n hx hb d_Model_respond_213 rfl (lv_at hl 0 rfl) ?_
    obtain ⟨s214, hC214, hE⟩ := x_bind hE
    refine x_callV hS (W.runV (As := []) (rest := []) ⟨hx, hb, hml, hown, hu⟩ (t_Model_endSaying l G σ s214 hC214) (cwV 0 hu (uw_V mw_1227 mw_1229 mw_32 mw_70 mw_1230) rfl rfl rfl hd_Model_endSaying ⟨Nat.le_of_ble_eq_true rfl, Nat.le_of_ble_eq_true rfl⟩) (x_preV hC hS hw (va_recv hK hw (q := (R_Model, T_Model, 33)) (ci := 10) rfl (x_at (by decide) (xcl_51 G σ)))) rfl rfl hl.1 rfl (lv_room (Nat.le_of_ble_eq_true rfl)) d_Model_respond_214 ⟨Nat.le_of_ble_eq_true rfl, Nat.le_of_ble_eq_true rfl⟩) (fun H locs hw hS => ?_)
    refine lv_aload_n hx hb d_Model_respond_217 rfl (lv_at hl 0 rfl) ?_
    refine lv_aload_n hx hb d_Model_respond_218 rfl (lv_at hl 0 rfl) ?_
    refine va_get (D := G.1) (cl := xCl) (ci := 10) (v := .int (s214.1 51 16)) (C := R_Model) (T := T_Model) (N := 33) hx hb hu fi_Model hown hK hw 51 (x_at (by decide) (xcl_51 G s214)) rfl 16 (by decide) (hu _ mw_1084) (fun _ h9 => h9) rfl d_Model_respond_219 ?_
    refine lv_if_ne (tgt := 229) hx hb d_Model_respond_222 (by decide) (fun hc222 => ?_) (fun hc222 => ?_)
    · rw [if_neg hc222] at hE
      refine lv_iconst (v := (0 : Int32)) hx hb d_Model_respond_229 (by decide) ?_
      refine va_put (D := G.1) (cl := xCl) (ci := 10) (v := .int (0 : Int32)) (ty := .boolean) (C := R_Model) (T := T_Model) (N := 33) hx hb hu fi_Model ty_Model tyok_Model nm_Model hown hK hw (x_D hI _) hS 51 (x_at (by decide) (xcl_51 G s214)) rfl 7 (by decide) (hu _ mw_1075) (fun _ h9 => h9) rfl (tyok_Model 7 (by decide)) rfl rfl (Nat.le_of_ble_eq_true rfl) d_Model_respond_230 (fun H locs hw _ hS => ?_)
      replace hw := x_setR hw (by decide) rfl
      obtain ⟨s230, e230, hE⟩ := x_letE hE
      rw [← e230] at hw
      have e1 := Option.some.inj hE
      exact W.vret hx hb hr (fun t ht hW => ⟨rfl, by rw [ht, ← e1]; exact hw, hS.F ht⟩) hS.2.2 d_Model_respond_233
    · rw [if_pos hc222] at hE
      refine lv_iconst (v := (1 : Int32)) hx hb d_Model_respond_225 (by decide) ?_
      refine lv_goto (tgt := 230) hx hb d_Model_respond_226 (by decide) ?_
      refine va_put (D := G.1) (cl := xCl) (ci := 10) (v := .int (1 : Int32)) (ty := .boolean) (C := R_Model) (T := T_Model) (N := 33) hx hb hu fi_Model ty_Model tyok_Model nm_Model hown hK hw (x_D hI _) hS 51 (x_at (by decide) (xcl_51 G s214)) rfl 7 (by decide) (hu _ mw_1075) (fun _ h9 => h9) rfl (tyok_Model 7 (by decide)) rfl rfl (Nat.le_of_ble_eq_true rfl) d_Model_respond_230 (fun H locs hw _ hS => ?_)
      replace hw := x_setR hw (by decide) rfl
      obtain ⟨s230, e230, hE⟩ := x_letE hE
      rw [← e230] at hw
      have e1 := Option.some.inj hE
      exact W.vret hx hb hr (fun t ht hW => ⟨rfl, by rw [ht, ← e1]; exact hw, hS.F ht⟩) hS.2.2 d_Model_respond_233
  have jn206 : ∀ (ls : Array Slot) (H : Heap) (locs : List Loc) (σ : St) (k0 : Int32), x_Model_respond_206 a1 a2 a3 a4 a5 a6 k0 σ = some σ' → lv_has ls 7 [(0, .ref (G.2.1 51)), (1, .int a1), (2, .int a2), (3, .int a3), (4, .int a4), (5, .int a5), (6, .int a6)] → xw G σ H → va_S (xA G) s.heap H locs → W p l e (headSpec (ws_Model_respond) rm_Model_respond).room s m ([.ref (G.2.1 51), .int a1, .int a2, .int a3, .int a4, .int a5, .int a6] : List Value).toArray below meth c H locs 0 0 (MQ below (xQ G none σ') ([.ref (G.2.1 51), .int a1, .int a2, .int a3, .int a4, .int a5, .int a6] : List Value).toArray s 0 0 (xA G)) (F0 m 206 ls [.int k0, .ref (G.2.1 51)]) := by
    intro ls H locs σ k0 hE hl hw hS
    unfold x_Model_respond_206 at hE
    obtain ⟨s206, hC206, hE⟩ := x_bind hE
    refine x_callV hS (W.runV (As := [.int k0]) (rest := []) ⟨hx, hb, hml, hown, hu⟩ (t_Model_sayWord l G σ k0 s206 hC206) (cwV 1 hu (uw_V mw_1211 mw_1213 mw_28 mw_70 mw_1214) rfl rfl rfl hd_Model_sayWord ⟨Nat.le_of_ble_eq_true rfl, Nat.le_of_ble_eq_true rfl⟩) (x_preV hC hS hw (va_recv hK hw (q := (R_Model, T_Model, 33)) (ci := 10) rfl (x_at (by decide) (xcl_51 G σ)))) rfl rfl hl.1 rfl (lv_room (Nat.le_of_ble_eq_true rfl)) d_Model_respond_206 ⟨Nat.le_of_ble_eq_true rfl, Nat.le_of_ble_eq_true rfl⟩) (fun H locs hw hS => ?_)
    refine lv_aload_n hx hb d_Model_respond_209 rfl (lv_at hl 0 rfl) ?_
    obtain ⟨s210, hC210, hE⟩ := x_bind hE
    refine x_callV hS (W.runV (As := []) (rest := []) ⟨hx, hb, hml, hown, hu⟩ (t_Model_endSaying l G s206 s210 hC210) (cwV 0 hu (uw_V mw_1227 mw_1229 mw_32 mw_70 mw_1230) rfl rfl rfl hd_Model_endSaying ⟨Nat.le_of_ble_eq_true rfl, Nat.le_of_ble_eq_true rfl⟩) (x_preV hC hS hw (va_recv hK hw (q := (R_Model, T_Model, 33)) (ci := 10) rfl (x_at (by decide) (xcl_51 G s206)))) rfl rfl hl.1 rfl (lv_room (Nat.le_of_ble_eq_true rfl)) d_Model_respond_210 ⟨Nat.le_of_ble_eq_true rfl, Nat.le_of_ble_eq_true rfl⟩) (fun H locs hw hS => ?_)
    exact jn213 _ _ _ _ hE (lv_sub hl [0, 1, 2, 3, 4, 5, 6] rfl) hw hS
  have jn189 : ∀ (ls : Array Slot) (H : Heap) (locs : List Loc) (σ : St), x_Model_respond_189 a1 a2 a3 a4 a5 a6 σ = some σ' → lv_has ls 7 [(0, .ref (G.2.1 51)), (1, .int a1), (2, .int a2), (3, .int a3), (4, .int a4), (5, .int a5), (6, .int a6)] → xw G σ H → va_S (xA G) s.heap H locs → W p l e (headSpec (ws_Model_respond) rm_Model_respond).room s m ([.ref (G.2.1 51), .int a1, .int a2, .int a3, .int a4, .int a5, .int a6] : List Value).toArray below meth c H locs 0 0 (MQ below (xQ G none σ') ([.ref (G.2.1 51), .int a1, .int a2, .int a3, .int a4, .int a5, .int a6] : List Value).toArray s 0 0 (xA G)) (F0 m 189 ls []) := by
    intro ls H locs σ hE hl hw hS
    unfold x_Model_respond_189 at hE
    refine lv_aload_n hx hb d_Model_respond_189 rfl (lv_at hl 0 rfl) ?_
    refine lv_aload_n hx hb d_Model_respond_190 rfl (lv_at hl 0 rfl) ?_
    refine va_get (D := G.1) (cl := xCl) (ci := 10) (v := .int (σ.1 51 16)) (C := R_Model) (T := T_Model) (N := 33) hx hb hu fi_Model hown hK hw 51 (x_at (by decide) (xcl_51 G σ)) rfl 16 (by decide) (hu _ mw_1084) (fun _ h9 => h9) rfl d_Model_respond_191 ?_
    refine lv_if_eq (tgt := 203) hx hb d_Model_respond_194 (by decide) (fun hc194 => ?_) (fun hc194 => ?_)
    · rw [if_pos hc194] at hE
      refine lv_sipush (v := (279 : Int32)) hx hb d_Model_respond_203 (by decide) ?_
      exact jn206 _ _ _ _ _ hE (lv_sub hl [0, 1, 2, 3, 4, 5, 6] rfl) hw hS
    · rw [if_neg hc194] at hE
      refine lv_sipush (v := (261 : Int32)) hx hb d_Model_respond_197 (by decide) ?_
      refine lv_goto (tgt := 206) hx hb d_Model_respond_200 (by decide) ?_
      exact jn206 _ _ _ _ _ hE (lv_sub hl [0, 1, 2, 3, 4, 5, 6] rfl) hw hS
  have jn175 : ∀ (ls : Array Slot) (H : Heap) (locs : List Loc) (σ : St), x_Model_respond_175 a1 a2 a3 a4 a5 a6 σ = some σ' → lv_has ls 7 [(0, .ref (G.2.1 51)), (1, .int a1), (2, .int a2), (3, .int a3), (4, .int a4), (5, .int a5), (6, .int a6)] → xw G σ H → va_S (xA G) s.heap H locs → W p l e (headSpec (ws_Model_respond) rm_Model_respond).room s m ([.ref (G.2.1 51), .int a1, .int a2, .int a3, .int a4, .int a5, .int a6] : List Value).toArray below meth c H locs 0 0 (MQ below (xQ G none σ') ([.ref (G.2.1 51), .int a1, .int a2, .int a3, .int a4, .int a5, .int a6] : List Value).toArray s 0 0 (xA G)) (F0 m 175 ls []) := by
    intro ls H locs σ hE hl hw hS
    unfold x_Model_respond_175 at hE
    refine lv_aload_n hx hb d_Model_respond_175 rfl (lv_at hl 0 rfl) ?_
    refine va_get (D := G.1) (cl := xCl) (ci := 10) (v := .int (σ.1 51 16)) (C := R_Model) (T := T_Model) (N := 33) hx hb hu fi_Model hown hK hw 51 (x_at (by decide) (xcl_51 G σ)) rfl 16 (by decide) (hu _ mw_1084) (fun _ h9 => h9) rfl d_Model_respond_176 ?_
    refine lv_if_ne (tgt := 189) hx hb d_Model_respond_179 (by decide) (fun hc179 => ?_) (fun hc179 => ?_)
    · rw [if_neg hc179] at hE
      exact jn189 _ _ _ _ hE (lv_sub hl [0, 1, 2, 3, 4, 5, 6] rfl) hw hS
    · rw [if_pos hc179] at hE
      refine lv_aload_n hx hb d_Model_respond_182 rfl (lv_at hl 0 rfl) ?_
      refine va_get (D := G.1) (cl := xCl) (ci := 10) (v := .int (σ.1 51 15)) (C := R_Model) (T := T_Model) (N := 33) hx hb hu fi_Model hown hK hw 51 (x_at (by decide) (xcl_51 G σ)) rfl 15 (by decide) (hu _ mw_1083) (fun _ h9 => h9) rfl d_Model_respond_183 ?_
      refine lv_if_ne (tgt := 213) hx hb d_Model_respond_186 (by decide) (fun hc186 => ?_) (fun hc186 => ?_)
      · rw [if_neg hc186] at hE
        exact jn213 _ _ _ _ hE (lv_sub hl [0, 1, 2, 3, 4, 5, 6] rfl) hw hS
      · rw [if_pos hc186] at hE
        exact jn189 _ _ _ _ hE (lv_sub hl [0, 1, 2, 3, 4, 5, 6] rfl) hw hS
  have jn164 : ∀ (ls : Array Slot) (H : Heap) (locs : List Loc) (σ : St), x_Model_respond_164 a1 a2 a3 a4 a5 a6 σ = some σ' → lv_has ls 7 [(0, .ref (G.2.1 51)), (1, .int a1), (2, .int a2), (3, .int a3), (4, .int a4), (5, .int a5), (6, .int a6)] → xw G σ H → va_S (xA G) s.heap H locs → W p l e (headSpec (ws_Model_respond) rm_Model_respond).room s m ([.ref (G.2.1 51), .int a1, .int a2, .int a3, .int a4, .int a5, .int a6] : List Value).toArray below meth c H locs 0 0 (MQ below (xQ G none σ') ([.ref (G.2.1 51), .int a1, .int a2, .int a3, .int a4, .int a5, .int a6] : List Value).toArray s 0 0 (xA G)) (F0 m 164 ls []) := by
    intro ls H locs σ hE hl hw hS
    unfold x_Model_respond_164 at hE
    refine lv_aload_n hx hb d_Model_respond_164 rfl (lv_at hl 0 rfl) ?_
    refine lv_sipush (v := (216 : Int32)) hx hb d_Model_respond_165 (by decide) ?_
    obtain ⟨s168, hC168, hE⟩ := x_bind hE
    refine x_callV hS (W.runV (As := [.int (216 : Int32)]) (rest := []) ⟨hx, hb, hml, hown, hu⟩ (t_Model_sayWord l G σ (216 : Int32) s168 hC168) (cwV 1 hu (uw_V mw_1211 mw_1213 mw_28 mw_70 mw_1214) rfl rfl rfl hd_Model_sayWord ⟨Nat.le_of_ble_eq_true rfl, Nat.le_of_ble_eq_true rfl⟩) (x_preV hC hS hw (va_recv hK hw (q := (R_Model, T_Model, 33)) (ci := 10) rfl (x_at (by decide) (xcl_51 G σ)))) rfl rfl hl.1 rfl (lv_room (Nat.le_of_ble_eq_true rfl)) d_Model_respond_168 ⟨Nat.le_of_ble_eq_true rfl, Nat.le_of_ble_eq_true rfl⟩) (fun H locs hw hS => ?_)
    refine lv_aload_n hx hb d_Model_respond_171 rfl (lv_at hl 0 rfl) ?_
    obtain ⟨s172, hC172, hE⟩ := x_bind hE
    refine x_callV hS (W.runV (As := []) (rest := []) ⟨hx, hb, hml, hown, hu⟩ (t_Model_endSaying l G s168 s172 hC172) (cwV 0 hu (uw_V mw_1227 mw_1229 mw_32 mw_70 mw_1230) rfl rfl rfl hd_Model_endSaying ⟨Nat.le_of_ble_eq_true rfl, Nat.le_of_ble_eq_true rfl⟩) (x_preV hC hS hw (va_recv hK hw (q := (R_Model, T_Model, 33)) (ci := 10) rfl (x_at (by decide) (xcl_51 G s168)))) rfl rfl hl.1 rfl (lv_room (Nat.le_of_ble_eq_true rfl)) d_Model_respond_172 ⟨Nat.le_of_ble_eq_true rfl, Nat.le_of_ble_eq_true rfl⟩) (fun H locs hw hS => ?_)
    exact jn175 _ _ _ _ hE (lv_sub hl [0, 1, 2, 3, 4, 5, 6] rfl) hw hS
  have jn140 : ∀ (ls : Array Slot) (H : Heap) (locs : List Loc) (σ : St), x_Model_respond_140 a1 a2 a3 a4 a5 a6 σ = some σ' → lv_has ls 7 [(0, .ref (G.2.1 51)), (1, .int a1), (2, .int a2), (3, .int a3), (4, .int a4), (5, .int a5), (6, .int a6)] → xw G σ H → va_S (xA G) s.heap H locs → W p l e (headSpec (ws_Model_respond) rm_Model_respond).room s m ([.ref (G.2.1 51), .int a1, .int a2, .int a3, .int a4, .int a5, .int a6] : List Value).toArray below meth c H locs 0 0 (MQ below (xQ G none σ') ([.ref (G.2.1 51), .int a1, .int a2, .int a3, .int a4, .int a5, .int a6] : List Value).toArray s 0 0 (xA G)) (F0 m 140 ls []) := by
    intro ls H locs σ hE hl hw hS
    unfold x_Model_respond_140 at hE
    refine lv_iload_n hx hb d_Model_respond_140 rfl (lv_at hl 1 rfl) ?_
    refine lv_sipush (v := (405 : Int32)) hx hb d_Model_respond_141 (by decide) ?_
    refine lv_icmp_eq (tgt := 164) hx hb d_Model_respond_144 (by decide) (fun hc144 => ?_) (fun hc144 => ?_)
    · rw [if_pos hc144] at hE
      exact jn164 _ _ _ _ hE (lv_sub hl [0, 1, 2, 3, 4, 5, 6] rfl) hw hS
    · rw [if_neg hc144] at hE
      refine lv_iload_n hx hb d_Model_respond_147 rfl (lv_at hl 1 rfl) ?_
      refine lv_sipush (v := (204 : Int32)) hx hb d_Model_respond_148 (by decide) ?_
      refine lv_icmp_ne (tgt := 175) hx hb d_Model_respond_151 (by decide) (fun hc151 => ?_) (fun hc151 => ?_)
      · rw [if_neg hc151] at hE
        exact jn175 _ _ _ _ hE (lv_sub hl [0, 1, 2, 3, 4, 5, 6] rfl) hw hS
      · rw [if_pos hc151] at hE
        refine lv_aload_n hx hb d_Model_respond_154 rfl (lv_at hl 0 rfl) ?_
        refine va_get (D := G.1) (cl := xCl) (ci := 10) (v := .int (σ.1 51 12)) (C := R_Model) (T := T_Model) (N := 33) hx hb hu fi_Model hown hK hw 51 (x_at (by decide) (xcl_51 G σ)) rfl 12 (by decide) (hu _ mw_1080) (fun _ h9 => h9) rfl d_Model_respond_155 ?_
        refine lv_sipush (v := (146 : Int32)) hx hb d_Model_respond_158 (by decide) ?_
        refine lv_icmp_ne (tgt := 175) hx hb d_Model_respond_161 (by decide) (fun hc161 => ?_) (fun hc161 => ?_)
        · rw [if_neg hc161] at hE
          exact jn175 _ _ _ _ hE (lv_sub hl [0, 1, 2, 3, 4, 5, 6] rfl) hw hS
        · rw [if_pos hc161] at hE
          exact jn164 _ _ _ _ hE (lv_sub hl [0, 1, 2, 3, 4, 5, 6] rfl) hw hS
  have jn124 : ∀ (ls : Array Slot) (H : Heap) (locs : List Loc) (σ : St), x_Model_respond_124 a1 a2 a3 a4 a5 a6 σ = some σ' → lv_has ls 7 [(0, .ref (G.2.1 51)), (1, .int a1), (2, .int a2), (3, .int a3), (4, .int a4), (5, .int a5), (6, .int a6)] → xw G σ H → va_S (xA G) s.heap H locs → W p l e (headSpec (ws_Model_respond) rm_Model_respond).room s m ([.ref (G.2.1 51), .int a1, .int a2, .int a3, .int a4, .int a5, .int a6] : List Value).toArray below meth c H locs 0 0 (MQ below (xQ G none σ') ([.ref (G.2.1 51), .int a1, .int a2, .int a3, .int a4, .int a5, .int a6] : List Value).toArray s 0 0 (xA G)) (F0 m 124 ls []) := by
    intro ls H locs σ hE hl hw hS
    unfold x_Model_respond_124 at hE
    refine lv_aload_n hx hb d_Model_respond_124 rfl (lv_at hl 0 rfl) ?_
    refine lv_bipush (v := (47 : Int32)) hx hb d_Model_respond_125 (by decide) ?_
    obtain ⟨s127, hC127, hE⟩ := x_bind hE
    refine x_callV hS (W.runV (As := [.int (47 : Int32)]) (rest := []) ⟨hx, hb, hml, hown, hu⟩ (t_Model_say l G σ (47 : Int32) s127 hC127) (cwV 1 hu (uw_V mw_1219 mw_1221 mw_30 mw_70 mw_1222) rfl rfl rfl hd_Model_say ⟨Nat.le_of_ble_eq_true rfl, Nat.le_of_ble_eq_true rfl⟩) (x_preV hC hS hw (va_recv hK hw (q := (R_Model, T_Model, 33)) (ci := 10) rfl (x_at (by decide) (xcl_51 G σ)))) rfl rfl hl.1 rfl (lv_room (Nat.le_of_ble_eq_true rfl)) d_Model_respond_127 ⟨Nat.le_of_ble_eq_true rfl, Nat.le_of_ble_eq_true rfl⟩) (fun H locs hw hS => ?_)
    refine lv_aload_n hx hb d_Model_respond_130 rfl (lv_at hl 0 rfl) ?_
    refine lv_iload hx hb d_Model_respond_131 (lv_at hl 6 rfl) ?_
    obtain ⟨s133, hC133, hE⟩ := x_bind hE
    refine x_callV hS (W.runV (As := [.int a6]) (rest := []) ⟨hx, hb, hml, hown, hu⟩ (t_Model_sayNumber l G s127 a6 s133 hC133) (cwV 1 hu (uw_V mw_1223 mw_1225 mw_31 mw_70 mw_1226) rfl rfl rfl hd_Model_sayNumber ⟨Nat.le_of_ble_eq_true rfl, Nat.le_of_ble_eq_true rfl⟩) (x_preV hC hS hw (va_recv hK hw (q := (R_Model, T_Model, 33)) (ci := 10) rfl (x_at (by decide) (xcl_51 G s127)))) rfl rfl hl.1 rfl (lv_room (Nat.le_of_ble_eq_true rfl)) d_Model_respond_133 ⟨Nat.le_of_ble_eq_true rfl, Nat.le_of_ble_eq_true rfl⟩) (fun H locs hw hS => ?_)
    refine lv_aload_n hx hb d_Model_respond_136 rfl (lv_at hl 0 rfl) ?_
    obtain ⟨s137, hC137, hE⟩ := x_bind hE
    refine x_callV hS (W.runV (As := []) (rest := []) ⟨hx, hb, hml, hown, hu⟩ (t_Model_endSaying l G s133 s137 hC137) (cwV 0 hu (uw_V mw_1227 mw_1229 mw_32 mw_70 mw_1230) rfl rfl rfl hd_Model_endSaying ⟨Nat.le_of_ble_eq_true rfl, Nat.le_of_ble_eq_true rfl⟩) (x_preV hC hS hw (va_recv hK hw (q := (R_Model, T_Model, 33)) (ci := 10) rfl (x_at (by decide) (xcl_51 G s133)))) rfl rfl hl.1 rfl (lv_room (Nat.le_of_ble_eq_true rfl)) d_Model_respond_137 ⟨Nat.le_of_ble_eq_true rfl, Nat.le_of_ble_eq_true rfl⟩) (fun H locs hw hS => ?_)
    exact jn140 _ _ _ _ hE (lv_sub hl [0, 1, 2, 3, 4, 5, 6] rfl) hw hS
  have jn81 : ∀ (ls : Array Slot) (H : Heap) (locs : List Loc) (σ : St), x_Model_respond_81 a1 a2 a3 a4 a5 a6 σ = some σ' → lv_has ls 7 [(0, .ref (G.2.1 51)), (1, .int a1), (2, .int a2), (3, .int a3), (4, .int a4), (5, .int a5), (6, .int a6)] → xw G σ H → va_S (xA G) s.heap H locs → W p l e (headSpec (ws_Model_respond) rm_Model_respond).room s m ([.ref (G.2.1 51), .int a1, .int a2, .int a3, .int a4, .int a5, .int a6] : List Value).toArray below meth c H locs 0 0 (MQ below (xQ G none σ') ([.ref (G.2.1 51), .int a1, .int a2, .int a3, .int a4, .int a5, .int a6] : List Value).toArray s 0 0 (xA G)) (F0 m 81 ls []) := by
    intro ls H locs σ hE hl hw hS
    unfold x_Model_respond_81 at hE
    refine lv_aload_n hx hb d_Model_respond_81 rfl (lv_at hl 0 rfl) ?_
    refine lv_sipush (v := (194 : Int32)) hx hb d_Model_respond_82 (by decide) ?_
    obtain ⟨s85, hC85, hE⟩ := x_bind hE
    refine x_callV hS (W.runV (As := [.int (194 : Int32)]) (rest := []) ⟨hx, hb, hml, hown, hu⟩ (t_Model_sayWord l G σ (194 : Int32) s85 hC85) (cwV 1 hu (uw_V mw_1211 mw_1213 mw_28 mw_70 mw_1214) rfl rfl rfl hd_Model_sayWord ⟨Nat.le_of_ble_eq_true rfl, Nat.le_of_ble_eq_true rfl⟩) (x_preV hC hS hw (va_recv hK hw (q := (R_Model, T_Model, 33)) (ci := 10) rfl (x_at (by decide) (xcl_51 G σ)))) rfl rfl hl.1 rfl (lv_room (Nat.le_of_ble_eq_true rfl)) d_Model_respond_85 ⟨Nat.le_of_ble_eq_true rfl, Nat.le_of_ble_eq_true rfl⟩) (fun H locs hw hS => ?_)
    refine lv_iload_n hx hb d_Model_respond_88 rfl (lv_at hl 1 rfl) ?_
    refine lv_sipush (v := (206 : Int32)) hx hb d_Model_respond_89 (by decide) ?_
    refine lv_icmp_ne (tgt := 118) hx hb d_Model_respond_92 (by decide) (fun hc92 => ?_) (fun hc92 => ?_)
    · rw [if_neg hc92] at hE
      refine lv_aload_n hx hb d_Model_respond_118 rfl (lv_at hl 0 rfl) ?_
      refine lv_bipush (v := (42 : Int32)) hx hb d_Model_respond_119 (by decide) ?_
      obtain ⟨s121, hC121, hE⟩ := x_bind hE
      refine x_callV hS (W.runV (As := [.int (42 : Int32)]) (rest := []) ⟨hx, hb, hml, hown, hu⟩ (t_Model_say l G s85 (42 : Int32) s121 hC121) (cwV 1 hu (uw_V mw_1219 mw_1221 mw_30 mw_70 mw_1222) rfl rfl rfl hd_Model_say ⟨Nat.le_of_ble_eq_true rfl, Nat.le_of_ble_eq_true rfl⟩) (x_preV hC hS hw (va_recv hK hw (q := (R_Model, T_Model, 33)) (ci := 10) rfl (x_at (by decide) (xcl_51 G s85)))) rfl rfl hl.1 rfl (lv_room (Nat.le_of_ble_eq_true rfl)) d_Model_respond_121 ⟨Nat.le_of_ble_eq_true rfl, Nat.le_of_ble_eq_true rfl⟩) (fun H locs hw hS => ?_)
      exact jn124 _ _ _ _ hE (lv_sub hl [0, 1, 2, 3, 4, 5, 6] rfl) hw hS
    · rw [if_pos hc92] at hE
      refine lv_aload_n hx hb d_Model_respond_95 rfl (lv_at hl 0 rfl) ?_
      refine lv_iload hx hb d_Model_respond_96 (lv_at hl 4 rfl) ?_
      obtain ⟨s98, hC98, hE⟩ := x_bind hE
      refine x_callV hS (W.runV (As := [.int a4]) (rest := []) ⟨hx, hb, hml, hown, hu⟩ (t_Model_sayNumber l G s85 a4 s98 hC98) (cwV 1 hu (uw_V mw_1223 mw_1225 mw_31 mw_70 mw_1226) rfl rfl rfl hd_Model_sayNumber ⟨Nat.le_of_ble_eq_true rfl, Nat.le_of_ble_eq_true rfl⟩) (x_preV hC hS hw (va_recv hK hw (q := (R_Model, T_Model, 33)) (ci := 10) rfl (x_at (by decide) (xcl_51 G s85)))) rfl rfl hl.1 rfl (lv_room (Nat.le_of_ble_eq_true rfl)) d_Model_respond_98 ⟨Nat.le_of_ble_eq_true rfl, Nat.le_of_ble_eq_true rfl⟩) (fun H locs hw hS => ?_)
      refine lv_aload_n hx hb d_Model_respond_101 rfl (lv_at hl 0 rfl) ?_
      refine lv_bipush (v := (45 : Int32)) hx hb d_Model_respond_102 (by decide) ?_
      obtain ⟨s104, hC104, hE⟩ := x_bind hE
      refine x_callV hS (W.runV (As := [.int (45 : Int32)]) (rest := []) ⟨hx, hb, hml, hown, hu⟩ (t_Model_say l G s98 (45 : Int32) s104 hC104) (cwV 1 hu (uw_V mw_1219 mw_1221 mw_30 mw_70 mw_1222) rfl rfl rfl hd_Model_say ⟨Nat.le_of_ble_eq_true rfl, Nat.le_of_ble_eq_true rfl⟩) (x_preV hC hS hw (va_recv hK hw (q := (R_Model, T_Model, 33)) (ci := 10) rfl (x_at (by decide) (xcl_51 G s98)))) rfl rfl hl.1 rfl (lv_room (Nat.le_of_ble_eq_true rfl)) d_Model_respond_104 ⟨Nat.le_of_ble_eq_true rfl, Nat.le_of_ble_eq_true rfl⟩) (fun H locs hw hS => ?_)
      refine lv_aload_n hx hb d_Model_respond_107 rfl (lv_at hl 0 rfl) ?_
      refine lv_iload hx hb d_Model_respond_108 (lv_at hl 5 rfl) ?_
      refine lv_iconst (v := (1 : Int32)) hx hb d_Model_respond_110 (by decide) ?_
      refine lv_isub hx hb d_Model_respond_111 ?_
      obtain ⟨s112, hC112, hE⟩ := x_bind hE
      refine x_callV hS (W.runV (As := [.int (a5 - (1 : Int32))]) (rest := []) ⟨hx, hb, hml, hown, hu⟩ (t_Model_sayNumber l G s104 (a5 - (1 : Int32)) s112 hC112) (cwV 1 hu (uw_V mw_1223 mw_1225 mw_31 mw_70 mw_1226) rfl rfl rfl hd_Model_sayNumber ⟨Nat.le_of_ble_eq_true rfl, Nat.le_of_ble_eq_true rfl⟩) (x_preV hC hS hw (va_recv hK hw (q := (R_Model, T_Model, 33)) (ci := 10) rfl (x_at (by decide) (xcl_51 G s104)))) rfl rfl hl.1 rfl (lv_room (Nat.le_of_ble_eq_true rfl)) d_Model_respond_112 ⟨Nat.le_of_ble_eq_true rfl, Nat.le_of_ble_eq_true rfl⟩) (fun H locs hw hS => ?_)
      refine lv_goto (tgt := 124) hx hb d_Model_respond_115 (by decide) ?_
      exact jn124 _ _ _ _ hE (lv_sub hl [0, 1, 2, 3, 4, 5, 6] rfl) hw hS
  have jn67 : ∀ (ls : Array Slot) (H : Heap) (locs : List Loc) (σ : St), x_Model_respond_67 a1 a2 a3 a4 a5 a6 σ = some σ' → lv_has ls 7 [(0, .ref (G.2.1 51)), (1, .int a1), (2, .int a2), (3, .int a3), (4, .int a4), (5, .int a5), (6, .int a6)] → xw G σ H → va_S (xA G) s.heap H locs → W p l e (headSpec (ws_Model_respond) rm_Model_respond).room s m ([.ref (G.2.1 51), .int a1, .int a2, .int a3, .int a4, .int a5, .int a6] : List Value).toArray below meth c H locs 0 0 (MQ below (xQ G none σ') ([.ref (G.2.1 51), .int a1, .int a2, .int a3, .int a4, .int a5, .int a6] : List Value).toArray s 0 0 (xA G)) (F0 m 67 ls []) := by
    intro ls H locs σ hE hl hw hS
    unfold x_Model_respond_67 at hE
    refine lv_iload_n hx hb d_Model_respond_67 rfl (lv_at hl 1 rfl) ?_
    refine lv_sipush (v := (206 : Int32)) hx hb d_Model_respond_68 (by decide) ?_
    refine lv_icmp_eq (tgt := 81) hx hb d_Model_respond_71 (by decide) (fun hc71 => ?_) (fun hc71 => ?_)
    · rw [if_pos hc71] at hE
      exact jn81 _ _ _ _ hE (lv_sub hl [0, 1, 2, 3, 4, 5, 6] rfl) hw hS
    · rw [if_neg hc71] at hE
      refine lv_iload_n hx hb d_Model_respond_74 rfl (lv_at hl 1 rfl) ?_
      refine lv_sipush (v := (416 : Int32)) hx hb d_Model_respond_75 (by decide) ?_
      refine lv_icmp_ne (tgt := 140) hx hb d_Model_respond_78 (by decide) (fun hc78 => ?_) (fun hc78 => ?_)
      · rw [if_neg hc78] at hE
        exact jn140 _ _ _ _ hE (lv_sub hl [0, 1, 2, 3, 4, 5, 6] rfl) hw hS
      · rw [if_pos hc78] at hE
        exact jn81 _ _ _ _ hE (lv_sub hl [0, 1, 2, 3, 4, 5, 6] rfl) hw hS
  have jn35 : ∀ (ls : Array Slot) (H : Heap) (locs : List Loc) (σ : St), x_Model_respond_35 a1 a2 a3 a4 a5 a6 σ = some σ' → lv_has ls 7 [(0, .ref (G.2.1 51)), (1, .int a1), (2, .int a2), (3, .int a3), (4, .int a4), (5, .int a5), (6, .int a6)] → xw G σ H → va_S (xA G) s.heap H locs → W p l e (headSpec (ws_Model_respond) rm_Model_respond).room s m ([.ref (G.2.1 51), .int a1, .int a2, .int a3, .int a4, .int a5, .int a6] : List Value).toArray below meth c H locs 0 0 (MQ below (xQ G none σ') ([.ref (G.2.1 51), .int a1, .int a2, .int a3, .int a4, .int a5, .int a6] : List Value).toArray s 0 0 (xA G)) (F0 m 35 ls []) := by
    intro ls H locs σ hE hl hw hS
    unfold x_Model_respond_35 at hE
    refine lv_iload_n hx hb d_Model_respond_35 rfl (lv_at hl 3 rfl) ?_
    refine lv_if_lt (tgt := 67) hx hb d_Model_respond_36 (by decide) (fun hc36 => ?_) (fun hc36 => ?_)
    · rw [if_pos hc36] at hE
      exact jn67 _ _ _ _ hE (lv_sub hl [0, 1, 2, 3, 4, 5, 6] rfl) hw hS
    · rw [if_neg hc36] at hE
      refine lv_aload_n hx hb d_Model_respond_39 rfl (lv_at hl 0 rfl) ?_
      refine lv_sipush (v := (187 : Int32)) hx hb d_Model_respond_40 (by decide) ?_
      obtain ⟨s43, hC43, hE⟩ := x_bind hE
      refine x_callV hS (W.runV (As := [.int (187 : Int32)]) (rest := []) ⟨hx, hb, hml, hown, hu⟩ (t_Model_sayWord l G σ (187 : Int32) s43 hC43) (cwV 1 hu (uw_V mw_1211 mw_1213 mw_28 mw_70 mw_1214) rfl rfl rfl hd_Model_sayWord ⟨Nat.le_of_ble_eq_true rfl, Nat.le_of_ble_eq_true rfl⟩) (x_preV hC hS hw (va_recv hK hw (q := (R_Model, T_Model, 33)) (ci := 10) rfl (x_at (by decide) (xcl_51 G σ)))) rfl rfl hl.1 rfl (lv_room (Nat.le_of_ble_eq_true rfl)) d_Model_respond_43 ⟨Nat.le_of_ble_eq_true rfl, Nat.le_of_ble_eq_true rfl⟩) (fun H locs hw hS => ?_)
      refine lv_aload_n hx hb d_Model_respond_46 rfl (lv_at hl 0 rfl) ?_
      refine lv_bipush (v := (34 : Int32)) hx hb d_Model_respond_47 (by decide) ?_
      obtain ⟨s49, hC49, hE⟩ := x_bind hE
      refine x_callV hS (W.runV (As := [.int (34 : Int32)]) (rest := []) ⟨hx, hb, hml, hown, hu⟩ (t_Model_say l G s43 (34 : Int32) s49 hC49) (cwV 1 hu (uw_V mw_1219 mw_1221 mw_30 mw_70 mw_1222) rfl rfl rfl hd_Model_say ⟨Nat.le_of_ble_eq_true rfl, Nat.le_of_ble_eq_true rfl⟩) (x_preV hC hS hw (va_recv hK hw (q := (R_Model, T_Model, 33)) (ci := 10) rfl (x_at (by decide) (xcl_51 G s43)))) rfl rfl hl.1 rfl (lv_room (Nat.le_of_ble_eq_true rfl)) d_Model_respond_49 ⟨Nat.le_of_ble_eq_true rfl, Nat.le_of_ble_eq_true rfl⟩) (fun H locs hw hS => ?_)
      refine lv_aload_n hx hb d_Model_respond_52 rfl (lv_at hl 0 rfl) ?_
      refine lv_iload_n hx hb d_Model_respond_53 rfl (lv_at hl 3 rfl) ?_
      obtain ⟨s54, hC54, hE⟩ := x_bind hE
      refine x_callV hS (W.runV (As := [.int a3]) (rest := []) ⟨hx, hb, hml, hown, hu⟩ (t_Model_sayNumber l G s49 a3 s54 hC54) (cwV 1 hu (uw_V mw_1223 mw_1225 mw_31 mw_70 mw_1226) rfl rfl rfl hd_Model_sayNumber ⟨Nat.le_of_ble_eq_true rfl, Nat.le_of_ble_eq_true rfl⟩) (x_preV hC hS hw (va_recv hK hw (q := (R_Model, T_Model, 33)) (ci := 10) rfl (x_at (by decide) (xcl_51 G s49)))) rfl rfl hl.1 rfl (lv_room (Nat.le_of_ble_eq_true rfl)) d_Model_respond_54 ⟨Nat.le_of_ble_eq_true rfl, Nat.le_of_ble_eq_true rfl⟩) (fun H locs hw hS => ?_)
      refine lv_aload_n hx hb d_Model_respond_57 rfl (lv_at hl 0 rfl) ?_
      refine lv_bipush (v := (34 : Int32)) hx hb d_Model_respond_58 (by decide) ?_
      obtain ⟨s60, hC60, hE⟩ := x_bind hE
      refine x_callV hS (W.runV (As := [.int (34 : Int32)]) (rest := []) ⟨hx, hb, hml, hown, hu⟩ (t_Model_say l G s54 (34 : Int32) s60 hC60) (cwV 1 hu (uw_V mw_1219 mw_1221 mw_30 mw_70 mw_1222) rfl rfl rfl hd_Model_say ⟨Nat.le_of_ble_eq_true rfl, Nat.le_of_ble_eq_true rfl⟩) (x_preV hC hS hw (va_recv hK hw (q := (R_Model, T_Model, 33)) (ci := 10) rfl (x_at (by decide) (xcl_51 G s54)))) rfl rfl hl.1 rfl (lv_room (Nat.le_of_ble_eq_true rfl)) d_Model_respond_60 ⟨Nat.le_of_ble_eq_true rfl, Nat.le_of_ble_eq_true rfl⟩) (fun H locs hw hS => ?_)
      refine lv_aload_n hx hb d_Model_respond_63 rfl (lv_at hl 0 rfl) ?_
      obtain ⟨s64, hC64, hE⟩ := x_bind hE
      refine x_callV hS (W.runV (As := []) (rest := []) ⟨hx, hb, hml, hown, hu⟩ (t_Model_endSaying l G s60 s64 hC64) (cwV 0 hu (uw_V mw_1227 mw_1229 mw_32 mw_70 mw_1230) rfl rfl rfl hd_Model_endSaying ⟨Nat.le_of_ble_eq_true rfl, Nat.le_of_ble_eq_true rfl⟩) (x_preV hC hS hw (va_recv hK hw (q := (R_Model, T_Model, 33)) (ci := 10) rfl (x_at (by decide) (xcl_51 G s60)))) rfl rfl hl.1 rfl (lv_room (Nat.le_of_ble_eq_true rfl)) d_Model_respond_64 ⟨Nat.le_of_ble_eq_true rfl, Nat.le_of_ble_eq_true rfl⟩) (fun H locs hw hS => ?_)
      exact jn67 _ _ _ _ hE (lv_sub hl [0, 1, 2, 3, 4, 5, 6] rfl) hw hS
  have hl := lv_entry ([.ref (G.2.1 51), .int a1, .int a2, .int a3, .int a4, .int a5, .int a6]) (n := 7) (Nat.le_of_ble_eq_true rfl)
  rw [lg_entry_eq]
  generalize (lg_sl ([.ref (G.2.1 51), .int a1, .int a2, .int a3, .int a4, .int a5, .int a6]) ++ List.replicate (7 - (lg_sl ([.ref (G.2.1 51), .int a1, .int a2, .int a3, .int a4, .int a5, .int a6])).length) Slot.unset).toArray = ls at hl ⊢
  have hl : lv_has ls 7 [(0, .ref (G.2.1 51)), (1, .int a1), (2, .int a2), (3, .int a3), (4, .int a4), (5, .int a5), (6, .int a6)] := hl
  unfold x_Model_respond at hE
  refine lv_aload_n hx hb d_Model_respond_0 rfl (lv_at hl 0 rfl) ?_
  refine lv_iload_n hx hb d_Model_respond_1 rfl (lv_at hl 1 rfl) ?_
  obtain ⟨s2, hC2, hE⟩ := x_bind hE
  refine x_callV hS (W.runV (As := [.int a1]) (rest := []) ⟨hx, hb, hml, hown, hu⟩ (t_Model_sayStatus l G σ a1 s2 hC2) (cwV 1 hu (uw_V mw_1207 mw_1209 mw_27 mw_70 mw_1210) rfl rfl rfl hd_Model_sayStatus ⟨Nat.le_of_ble_eq_true rfl, Nat.le_of_ble_eq_true rfl⟩) (x_preV hC hS hw (va_recv hK hw (q := (R_Model, T_Model, 33)) (ci := 10) rfl (x_at (by decide) (xcl_51 G σ)))) rfl rfl hl.1 rfl (lv_room (Nat.le_of_ble_eq_true rfl)) d_Model_respond_2 ⟨Nat.le_of_ble_eq_true rfl, Nat.le_of_ble_eq_true rfl⟩) (fun H locs hw hS => ?_)
  refine lv_iload_n hx hb d_Model_respond_5 rfl (lv_at hl 1 rfl) ?_
  refine lv_sipush (v := (204 : Int32)) hx hb d_Model_respond_6 (by decide) ?_
  refine lv_icmp_eq (tgt := 35) hx hb d_Model_respond_9 (by decide) (fun hc9 => ?_) (fun hc9 => ?_)
  · rw [if_pos hc9] at hE
    exact jn35 _ _ _ _ hE (lv_sub hl [0, 1, 2, 3, 4, 5, 6] rfl) hw hS
  · rw [if_neg hc9] at hE
    refine lv_iload_n hx hb d_Model_respond_12 rfl (lv_at hl 1 rfl) ?_
    refine lv_sipush (v := (304 : Int32)) hx hb d_Model_respond_13 (by decide) ?_
    refine lv_icmp_eq (tgt := 35) hx hb d_Model_respond_16 (by decide) (fun hc16 => ?_) (fun hc16 => ?_)
    · rw [if_pos hc16] at hE
      exact jn35 _ _ _ _ hE (lv_sub hl [0, 1, 2, 3, 4, 5, 6] rfl) hw hS
    · rw [if_neg hc16] at hE
      refine lv_aload_n hx hb d_Model_respond_19 rfl (lv_at hl 0 rfl) ?_
      refine lv_sipush (v := (170 : Int32)) hx hb d_Model_respond_20 (by decide) ?_
      obtain ⟨s23, hC23, hE⟩ := x_bind hE
      refine x_callV hS (W.runV (As := [.int (170 : Int32)]) (rest := []) ⟨hx, hb, hml, hown, hu⟩ (t_Model_sayWord l G s2 (170 : Int32) s23 hC23) (cwV 1 hu (uw_V mw_1211 mw_1213 mw_28 mw_70 mw_1214) rfl rfl rfl hd_Model_sayWord ⟨Nat.le_of_ble_eq_true rfl, Nat.le_of_ble_eq_true rfl⟩) (x_preV hC hS hw (va_recv hK hw (q := (R_Model, T_Model, 33)) (ci := 10) rfl (x_at (by decide) (xcl_51 G s2)))) rfl rfl hl.1 rfl (lv_room (Nat.le_of_ble_eq_true rfl)) d_Model_respond_23 ⟨Nat.le_of_ble_eq_true rfl, Nat.le_of_ble_eq_true rfl⟩) (fun H locs hw hS => ?_)
      refine lv_aload_n hx hb d_Model_respond_26 rfl (lv_at hl 0 rfl) ?_
      refine lv_iload_n hx hb d_Model_respond_27 rfl (lv_at hl 2 rfl) ?_
      obtain ⟨s28, hC28, hE⟩ := x_bind hE
      refine x_callV hS (W.runV (As := [.int a2]) (rest := []) ⟨hx, hb, hml, hown, hu⟩ (t_Model_sayNumber l G s23 a2 s28 hC28) (cwV 1 hu (uw_V mw_1223 mw_1225 mw_31 mw_70 mw_1226) rfl rfl rfl hd_Model_sayNumber ⟨Nat.le_of_ble_eq_true rfl, Nat.le_of_ble_eq_true rfl⟩) (x_preV hC hS hw (va_recv hK hw (q := (R_Model, T_Model, 33)) (ci := 10) rfl (x_at (by decide) (xcl_51 G s23)))) rfl rfl hl.1 rfl (lv_room (Nat.le_of_ble_eq_true rfl)) d_Model_respond_28 ⟨Nat.le_of_ble_eq_true rfl, Nat.le_of_ble_eq_true rfl⟩) (fun H locs hw hS => ?_)
      refine lv_aload_n hx hb d_Model_respond_31 rfl (lv_at hl 0 rfl) ?_
      obtain ⟨s32, hC32, hE⟩ := x_bind hE
      refine x_callV hS (W.runV (As := []) (rest := []) ⟨hx, hb, hml, hown, hu⟩ (t_Model_endSaying l G s28 s32 hC32) (cwV 0 hu (uw_V mw_1227 mw_1229 mw_32 mw_70 mw_1230) rfl rfl rfl hd_Model_endSaying ⟨Nat.le_of_ble_eq_true rfl, Nat.le_of_ble_eq_true rfl⟩) (x_preV hC hS hw (va_recv hK hw (q := (R_Model, T_Model, 33)) (ci := 10) rfl (x_at (by decide) (xcl_51 G s28)))) rfl rfl hl.1 rfl (lv_room (Nat.le_of_ble_eq_true rfl)) d_Model_respond_32 ⟨Nat.le_of_ble_eq_true rfl, Nat.le_of_ble_eq_true rfl⟩) (fun H locs hw hS => ?_)
      exact jn35 _ _ _ _ hE (lv_sub hl [0, 1, 2, 3, 4, 5, 6] rfl) hw hS

def y_Model_resource : MethodName := ⟨"PlainOriginModel", "resource", "()I"⟩
def ws_Model_resource : List Cond := Cond.code y_Model_resource prog_14_method_41_code 7 (some .int) :: UW
theorem hd_Model_resource : y_Model_resource.cls = R_Model ∧ y_Model_resource.cls ≠ "java/lang/invoke/MethodHandle" ∧ y_Model_resource.cls ≠ "java/lang/invoke/VarHandle" ∧ (parseMethodDescriptor y_Model_resource.desc).map (fun d => d.parameters.length) = some 0 := by decide +kernel
theorem d_Model_resource_0 : decode prog_14_method_41_code 0 = .ok (.iconst 0, 1) := by decide +kernel
theorem d_Model_resource_1 : decode prog_14_method_41_code 1 = .ok (.istore_n 1, 1) := by decide +kernel
theorem d_Model_resource_2 : decode prog_14_method_41_code 2 = .ok (.iconst 0, 1) := by decide +kernel
theorem d_Model_resource_3 : decode prog_14_method_41_code 3 = .ok (.istore_n 2, 1) := by decide +kernel
theorem d_Model_resource_4 : decode prog_14_method_41_code 4 = .ok (.iconst 0, 1) := by decide +kernel
theorem d_Model_resource_5 : decode prog_14_method_41_code 5 = .ok (.istore_n 3, 1) := by decide +kernel
theorem d_Model_resource_6 : decode prog_14_method_41_code 6 = .ok (.iconst 0, 1) := by decide +kernel
theorem d_Model_resource_7 : decode prog_14_method_41_code 7 = .ok (.istore 4, 2) := by decide +kernel
theorem d_Model_resource_9 : decode prog_14_method_41_code 9 = .ok (.iload 4, 2) := by decide +kernel
theorem d_Model_resource_11 : decode prog_14_method_41_code 11 = .ok (.aload_n 0, 1) := by decide +kernel
theorem d_Model_resource_12 : decode prog_14_method_41_code 12 = .ok (.getfield 245, 3) := by decide +kernel
theorem d_Model_resource_15 : decode prog_14_method_41_code 15 = .ok (.if_icmp .ge (126), 3) := by decide +kernel
theorem d_Model_resource_18 : decode prog_14_method_41_code 18 = .ok (.aload_n 0, 1) := by decide +kernel
theorem d_Model_resource_19 : decode prog_14_method_41_code 19 = .ok (.getfield 112, 3) := by decide +kernel
theorem d_Model_resource_22 : decode prog_14_method_41_code 22 = .ok (.iload 4, 2) := by decide +kernel
theorem d_Model_resource_24 : decode prog_14_method_41_code 24 = .ok (.iaload, 1) := by decide +kernel
theorem d_Model_resource_25 : decode prog_14_method_41_code 25 = .ok (.bipush (63), 2) := by decide +kernel
theorem d_Model_resource_27 : decode prog_14_method_41_code 27 = .ok (.if_icmp .eq (114), 3) := by decide +kernel
theorem d_Model_resource_30 : decode prog_14_method_41_code 30 = .ok (.aload_n 0, 1) := by decide +kernel
theorem d_Model_resource_31 : decode prog_14_method_41_code 31 = .ok (.getfield 112, 3) := by decide +kernel
theorem d_Model_resource_34 : decode prog_14_method_41_code 34 = .ok (.iload 4, 2) := by decide +kernel
theorem d_Model_resource_36 : decode prog_14_method_41_code 36 = .ok (.iaload, 1) := by decide +kernel
theorem d_Model_resource_37 : decode prog_14_method_41_code 37 = .ok (.bipush (37), 2) := by decide +kernel
theorem d_Model_resource_39 : decode prog_14_method_41_code 39 = .ok (.if_icmp .ne (7), 3) := by decide +kernel
theorem d_Model_resource_42 : decode prog_14_method_41_code 42 = .ok (.iconst 1, 1) := by decide +kernel
theorem d_Model_resource_43 : decode prog_14_method_41_code 43 = .ok (.goto (4), 3) := by decide +kernel
theorem d_Model_resource_46 : decode prog_14_method_41_code 46 = .ok (.iconst 0, 1) := by decide +kernel
theorem d_Model_resource_47 : decode prog_14_method_41_code 47 = .ok (.istore 5, 2) := by decide +kernel
theorem d_Model_resource_49 : decode prog_14_method_41_code 49 = .ok (.iload 5, 2) := by decide +kernel
theorem d_Model_resource_51 : decode prog_14_method_41_code 51 = .ok (.ifCond .eq (34), 3) := by decide +kernel
theorem d_Model_resource_54 : decode prog_14_method_41_code 54 = .ok (.bipush (16), 2) := by decide +kernel
theorem d_Model_resource_56 : decode prog_14_method_41_code 56 = .ok (.aload_n 0, 1) := by decide +kernel
theorem d_Model_resource_57 : decode prog_14_method_41_code 57 = .ok (.getfield 112, 3) := by decide +kernel
theorem d_Model_resource_60 : decode prog_14_method_41_code 60 = .ok (.iload 4, 2) := by decide +kernel
theorem d_Model_resource_62 : decode prog_14_method_41_code 62 = .ok (.iconst 1, 1) := by decide +kernel
theorem d_Model_resource_63 : decode prog_14_method_41_code 63 = .ok (.iadd, 1) := by decide +kernel
theorem d_Model_resource_64 : decode prog_14_method_41_code 64 = .ok (.iaload, 1) := by decide +kernel
theorem d_Model_resource_65 : decode prog_14_method_41_code 65 = .ok (.invokestatic 219, 3) := by decide +kernel
theorem d_Model_resource_68 : decode prog_14_method_41_code 68 = .ok (.imul, 1) := by decide +kernel
theorem d_Model_resource_69 : decode prog_14_method_41_code 69 = .ok (.aload_n 0, 1) := by decide +kernel
theorem d_Model_resource_70 : decode prog_14_method_41_code 70 = .ok (.getfield 112, 3) := by decide +kernel
theorem d_Model_resource_73 : decode prog_14_method_41_code 73 = .ok (.iload 4, 2) := by decide +kernel
theorem d_Model_resource_75 : decode prog_14_method_41_code 75 = .ok (.iconst 2, 1) := by decide +kernel
theorem d_Model_resource_76 : decode prog_14_method_41_code 76 = .ok (.iadd, 1) := by decide +kernel
theorem d_Model_resource_77 : decode prog_14_method_41_code 77 = .ok (.iaload, 1) := by decide +kernel
theorem d_Model_resource_78 : decode prog_14_method_41_code 78 = .ok (.invokestatic 219, 3) := by decide +kernel
theorem d_Model_resource_81 : decode prog_14_method_41_code 81 = .ok (.iadd, 1) := by decide +kernel
theorem d_Model_resource_82 : decode prog_14_method_41_code 82 = .ok (.goto (10), 3) := by decide +kernel
theorem d_Model_resource_85 : decode prog_14_method_41_code 85 = .ok (.aload_n 0, 1) := by decide +kernel
theorem d_Model_resource_86 : decode prog_14_method_41_code 86 = .ok (.getfield 112, 3) := by decide +kernel
theorem d_Model_resource_89 : decode prog_14_method_41_code 89 = .ok (.iload 4, 2) := by decide +kernel
theorem d_Model_resource_91 : decode prog_14_method_41_code 91 = .ok (.iaload, 1) := by decide +kernel
theorem d_Model_resource_92 : decode prog_14_method_41_code 92 = .ok (.istore 6, 2) := by decide +kernel
theorem d_Model_resource_94 : decode prog_14_method_41_code 94 = .ok (.iload_n 1, 1) := by decide +kernel
theorem d_Model_resource_95 : decode prog_14_method_41_code 95 = .ok (.ifCond .ne (8), 3) := by decide +kernel
theorem d_Model_resource_98 : decode prog_14_method_41_code 98 = .ok (.iload 6, 2) := by decide +kernel
theorem d_Model_resource_100 : decode prog_14_method_41_code 100 = .ok (.goto (4), 3) := by decide +kernel
theorem d_Model_resource_103 : decode prog_14_method_41_code 103 = .ok (.iload_n 2, 1) := by decide +kernel
theorem d_Model_resource_104 : decode prog_14_method_41_code 104 = .ok (.istore_n 2, 1) := by decide +kernel
theorem d_Model_resource_105 : decode prog_14_method_41_code 105 = .ok (.iload_n 1, 1) := by decide +kernel
theorem d_Model_resource_106 : decode prog_14_method_41_code 106 = .ok (.iconst 1, 1) := by decide +kernel
theorem d_Model_resource_107 : decode prog_14_method_41_code 107 = .ok (.if_icmp .ne (8), 3) := by decide +kernel
theorem d_Model_resource_110 : decode prog_14_method_41_code 110 = .ok (.iload 6, 2) := by decide +kernel
theorem d_Model_resource_112 : decode prog_14_method_41_code 112 = .ok (.goto (4), 3) := by decide +kernel
theorem d_Model_resource_115 : decode prog_14_method_41_code 115 = .ok (.iload_n 3, 1) := by decide +kernel
theorem d_Model_resource_116 : decode prog_14_method_41_code 116 = .ok (.istore_n 3, 1) := by decide +kernel
theorem d_Model_resource_117 : decode prog_14_method_41_code 117 = .ok (.iinc 1 (1), 3) := by decide +kernel
theorem d_Model_resource_120 : decode prog_14_method_41_code 120 = .ok (.iload 5, 2) := by decide +kernel
theorem d_Model_resource_122 : decode prog_14_method_41_code 122 = .ok (.ifCond .eq (10), 3) := by decide +kernel
theorem d_Model_resource_125 : decode prog_14_method_41_code 125 = .ok (.iload 4, 2) := by decide +kernel
theorem d_Model_resource_127 : decode prog_14_method_41_code 127 = .ok (.iconst 3, 1) := by decide +kernel
theorem d_Model_resource_128 : decode prog_14_method_41_code 128 = .ok (.iadd, 1) := by decide +kernel
theorem d_Model_resource_129 : decode prog_14_method_41_code 129 = .ok (.goto (7), 3) := by decide +kernel
theorem d_Model_resource_132 : decode prog_14_method_41_code 132 = .ok (.iload 4, 2) := by decide +kernel
theorem d_Model_resource_134 : decode prog_14_method_41_code 134 = .ok (.iconst 1, 1) := by decide +kernel
theorem d_Model_resource_135 : decode prog_14_method_41_code 135 = .ok (.iadd, 1) := by decide +kernel
theorem d_Model_resource_136 : decode prog_14_method_41_code 136 = .ok (.istore 4, 2) := by decide +kernel
theorem d_Model_resource_138 : decode prog_14_method_41_code 138 = .ok (.goto (-129), 3) := by decide +kernel
theorem d_Model_resource_141 : decode prog_14_method_41_code 141 = .ok (.iload_n 2, 1) := by decide +kernel
theorem d_Model_resource_142 : decode prog_14_method_41_code 142 = .ok (.bipush (47), 2) := by decide +kernel
theorem d_Model_resource_144 : decode prog_14_method_41_code 144 = .ok (.if_icmp .eq (7), 3) := by decide +kernel
theorem d_Model_resource_147 : decode prog_14_method_41_code 147 = .ok (.iconst (-1), 1) := by decide +kernel
theorem d_Model_resource_148 : decode prog_14_method_41_code 148 = .ok (.goto (37), 3) := by decide +kernel
theorem d_Model_resource_151 : decode prog_14_method_41_code 151 = .ok (.iload_n 1, 1) := by decide +kernel
theorem d_Model_resource_152 : decode prog_14_method_41_code 152 = .ok (.iconst 1, 1) := by decide +kernel
theorem d_Model_resource_153 : decode prog_14_method_41_code 153 = .ok (.if_icmp .ne (8), 3) := by decide +kernel
theorem d_Model_resource_156 : decode prog_14_method_41_code 156 = .ok (.bipush (-2), 2) := by decide +kernel
theorem d_Model_resource_158 : decode prog_14_method_41_code 158 = .ok (.goto (27), 3) := by decide +kernel
theorem d_Model_resource_161 : decode prog_14_method_41_code 161 = .ok (.iload_n 1, 1) := by decide +kernel
theorem d_Model_resource_162 : decode prog_14_method_41_code 162 = .ok (.iconst 2, 1) := by decide +kernel
theorem d_Model_resource_163 : decode prog_14_method_41_code 163 = .ok (.if_icmp .ne (21), 3) := by decide +kernel
theorem d_Model_resource_166 : decode prog_14_method_41_code 166 = .ok (.iload_n 3, 1) := by decide +kernel
theorem d_Model_resource_167 : decode prog_14_method_41_code 167 = .ok (.bipush (97), 2) := by decide +kernel
theorem d_Model_resource_169 : decode prog_14_method_41_code 169 = .ok (.bipush (104), 2) := by decide +kernel
theorem d_Model_resource_171 : decode prog_14_method_41_code 171 = .ok (.invokestatic 147, 3) := by decide +kernel
theorem d_Model_resource_174 : decode prog_14_method_41_code 174 = .ok (.ifCond .eq (10), 3) := by decide +kernel
theorem d_Model_resource_177 : decode prog_14_method_41_code 177 = .ok (.iload_n 3, 1) := by decide +kernel
theorem d_Model_resource_178 : decode prog_14_method_41_code 178 = .ok (.bipush (97), 2) := by decide +kernel
theorem d_Model_resource_180 : decode prog_14_method_41_code 180 = .ok (.isub, 1) := by decide +kernel
theorem d_Model_resource_181 : decode prog_14_method_41_code 181 = .ok (.goto (4), 3) := by decide +kernel
theorem d_Model_resource_184 : decode prog_14_method_41_code 184 = .ok (.iconst (-1), 1) := by decide +kernel
theorem d_Model_resource_185 : decode prog_14_method_41_code 185 = .ok (.ireturn, 1) := by decide +kernel
def x_Model_resource_141 (σ : St) (l1 : Int32) (l2 : Int32) (l3 : Int32) : Option Int32 := (if l2 = (47 : Int32) then (if l1 = (1 : Int32) then some ((-2) : Int32) else (if l1 = (2 : Int32) then (Option.bind (x_Model_within l3 (97 : Int32) (104 : Int32)) (fun r171 => (if r171 = 0 then some ((-1) : Int32) else some (l3 - (97 : Int32))))) else some ((-1) : Int32))) else some ((-1) : Int32))
def x_Model_resource_136 (σ : St) (bk9 : Int32 → Int32 → Int32 → Int32 → Option Int32) (l1 : Int32) (l2 : Int32) (l3 : Int32) (k0 : Int32) : Option Int32 := bk9 l1 l2 l3 k0
def x_Model_resource_116 (σ : St) (bk9 : Int32 → Int32 → Int32 → Int32 → Option Int32) (l1 : Int32) (l2 : Int32) (l4 : Int32) (l5 : Int32) (k0 : Int32) : Option Int32 := (x_let (l1 + (1 : Int32)) (fun (v117 : Int32) => (if l5 = 0 then x_Model_resource_136 σ bk9 v117 l2 k0 (l4 + (1 : Int32)) else x_Model_resource_136 σ bk9 v117 l2 k0 (l4 + (3 : Int32)))))
def x_Model_resource_104 (σ : St) (bk9 : Int32 → Int32 → Int32 → Int32 → Option Int32) (l1 : Int32) (l3 : Int32) (l4 : Int32) (l5 : Int32) (l6 : Int32) (k0 : Int32) : Option Int32 := (if l1 = (1 : Int32) then x_Model_resource_116 σ bk9 l1 k0 l4 l5 l6 else x_Model_resource_116 σ bk9 l1 k0 l4 l5 l3)
def x_Model_resource_92 (σ : St) (bk9 : Int32 → Int32 → Int32 → Int32 → Option Int32) (l1 : Int32) (l2 : Int32) (l3 : Int32) (l4 : Int32) (l5 : Int32) (k0 : Int32) : Option Int32 := (if l1 = 0 then x_Model_resource_104 σ bk9 l1 l3 l4 l5 k0 k0 else x_Model_resource_104 σ bk9 l1 l3 l4 l5 k0 l2)
def x_Model_resource_47 (σ : St) (bk9 : Int32 → Int32 → Int32 → Int32 → Option Int32) (l1 : Int32) (l2 : Int32) (l3 : Int32) (l4 : Int32) (k0 : Int32) : Option Int32 := (if k0 = 0 then (if x_in l4 80 then x_Model_resource_92 σ bk9 l1 l2 l3 l4 k0 (σ.2.1 58 l4.toNatClampNeg) else none) else (if x_in (l4 + (1 : Int32)) 80 then (Option.bind (x_Model_hexOf (σ.2.1 58 (l4 + (1 : Int32)).toNatClampNeg)) (fun r65 => (if x_in (l4 + (2 : Int32)) 80 then (Option.bind (x_Model_hexOf (σ.2.1 58 (l4 + (2 : Int32)).toNatClampNeg)) (fun r78 => x_Model_resource_92 σ bk9 l1 l2 l3 l4 k0 (((16 : Int32) * r65) + r78))) else none))) else none))
def x_Model_resource_9 (σ : St) : Nat → Int32 → Int32 → Int32 → Int32 → Option Int32
  | 0, _, _, _, _ => none
  | n + 1, l1, l2, l3, l4 => (if (σ.1 51 13) ≤ l4 then x_Model_resource_141 σ l1 l2 l3 else (if x_in l4 80 then (if (σ.2.1 58 l4.toNatClampNeg) = (63 : Int32) then x_Model_resource_141 σ l1 l2 l3 else (if x_in l4 80 then (if (σ.2.1 58 l4.toNatClampNeg) = (37 : Int32) then x_Model_resource_47 σ (x_Model_resource_9 σ n) l1 l2 l3 l4 (1 : Int32) else x_Model_resource_47 σ (x_Model_resource_9 σ n) l1 l2 l3 l4 (0 : Int32)) else none)) else none))
def x_Model_resource (σ : St) : Option Int32 := x_Model_resource_9 σ x_fuel (0 : Int32) (0 : Int32) (0 : Int32) (0 : Int32)
abbrev rm_Model_resource : Room := { frames := 3, cells := 0, slots := 0, locals := 62 }
set_option maxHeartbeats 4000000 in
set_option maxRecDepth 100000 in
theorem t_Model_resource (l : Launch) (G : xG) (σ : St) (r : Int32) (hE : x_Model_resource σ = some r) : Met l y_Model_resource (ws_Model_resource) rm_Model_resource (xP G σ [.ref (G.2.1 51)]) (xRd (some (.int r))) 0 0 (fun _ => False) := by
  refine Met.ofW (cc := prog_14_method_41_code) (maxL := 7) (ret := (some .int)) (by decide) rfl ?_
  intro p e s m args below meth c s₁ B hml hv
  obtain ⟨rfl, hw, hC⟩ := hv
  have hx := B.exec
  have hb := B.bytes
  have hr := B.returns
  have hu : ∀ w ∈ UW, w.before _ s = true := fun w h => atoms_spec B.pre w (List.mem_cons_of_mem _ h)
  have hown : s.vm.findClass R_Model = some m.cls := findClass_of_methodNamed B.named
  have hlocks := B.notSynchronized
  have hK := hC.1
  have hI := hC.2.1
  have hG := hC.2.2.1
  have hN := hC.2.2.2
  have hS : va_S (xA G) s.heap s.heap [] := va_S.rf
  have jn141 : ∀ (ls : Array Slot) (l1 : Int32) (l2 : Int32) (l3 : Int32), x_Model_resource_141 σ l1 l2 l3 = some r → lv_has ls 7 [(0, .ref (G.2.1 51)), (1, .int l1), (2, .int l2), (3, .int l3)] → W p l e (headSpec (ws_Model_resource) rm_Model_resource).room s m ([.ref (G.2.1 51)] : List Value).toArray below meth c s.heap [] 0 0 (MQ below (xRd (some (.int r))) ([.ref (G.2.1 51)] : List Value).toArray s 0 0 (fun _ => False)) (F0 m 141 ls []) := by
    intro ls l1 l2 l3 hE hl
    unfold x_Model_resource_141 at hE
    refine lv_iload_n hx hb d_Model_resource_141 rfl (lv_at hl 2 rfl) ?_
    refine lv_bipush (v := (47 : Int32)) hx hb d_Model_resource_142 (by decide) ?_
    refine lv_icmp_eq (tgt := 151) hx hb d_Model_resource_144 (by decide) (fun hc144 => ?_) (fun hc144 => ?_)
    · rw [if_pos hc144] at hE
      refine lv_iload_n hx hb d_Model_resource_151 rfl (lv_at hl 1 rfl) ?_
      refine lv_iconst (v := (1 : Int32)) hx hb d_Model_resource_152 (by decide) ?_
      refine lv_icmp_ne (tgt := 161) hx hb d_Model_resource_153 (by decide) (fun hc153 => ?_) (fun hc153 => ?_)
      · rw [if_neg hc153] at hE
        refine lv_iload_n hx hb d_Model_resource_161 rfl (lv_at hl 1 rfl) ?_
        refine lv_iconst (v := (2 : Int32)) hx hb d_Model_resource_162 (by decide) ?_
        refine lv_icmp_ne (tgt := 184) hx hb d_Model_resource_163 (by decide) (fun hc163 => ?_) (fun hc163 => ?_)
        · rw [if_neg hc163] at hE
          refine lv_iconst (v := ((-1) : Int32)) hx hb d_Model_resource_184 (by decide) ?_
          exact W.iret (v := ((-1) : Int32)) hx hb hr (fun t ht hW => ⟨by rw [Option.some.inj hE], ht⟩) (fun q h => by cases h) d_Model_resource_185
        · rw [if_pos hc163] at hE
          refine lv_iload_n hx hb d_Model_resource_166 rfl (lv_at hl 3 rfl) ?_
          refine lv_bipush (v := (97 : Int32)) hx hb d_Model_resource_167 (by decide) ?_
          refine lv_bipush (v := (104 : Int32)) hx hb d_Model_resource_169 (by decide) ?_
          obtain ⟨r171, hC171, hE⟩ := x_bind hE
          refine x_callR (W.runS (As := [.int l3, .int (97 : Int32), .int (104 : Int32)]) (rest := []) ⟨hx, hb, hml, hown, hu⟩ (t_Model_within l G σ l3 (97 : Int32) (104 : Int32) r171 hC171) (va_cwS 3 hu (uw_S mw_1178 mw_1179 mw_70 mw_1180) rfl rfl rfl hd_Model_within ⟨Nat.le_of_ble_eq_true rfl, Nat.le_of_ble_eq_true rfl⟩) (x_preS hC hS hw) rfl rfl hl.1 rfl (lv_room (Nat.le_of_ble_eq_true rfl)) d_Model_resource_171 ⟨Nat.le_of_ble_eq_true rfl, Nat.le_of_ble_eq_true rfl⟩) ?_
          refine lv_if_eq (tgt := 184) hx hb d_Model_resource_174 (by decide) (fun hc174 => ?_) (fun hc174 => ?_)
          · rw [if_pos hc174] at hE
            refine lv_iconst (v := ((-1) : Int32)) hx hb d_Model_resource_184 (by decide) ?_
            exact W.iret (v := ((-1) : Int32)) hx hb hr (fun t ht hW => ⟨by rw [Option.some.inj hE], ht⟩) (fun q h => by cases h) d_Model_resource_185
          · rw [if_neg hc174] at hE
            refine lv_iload_n hx hb d_Model_resource_177 rfl (lv_at hl 3 rfl) ?_
            refine lv_bipush (v := (97 : Int32)) hx hb d_Model_resource_178 (by decide) ?_
            refine lv_isub hx hb d_Model_resource_180 ?_
            refine lv_goto (tgt := 185) hx hb d_Model_resource_181 (by decide) ?_
            exact W.iret (v := l3 - (97 : Int32)) hx hb hr (fun t ht hW => ⟨by rw [Option.some.inj hE], ht⟩) (fun q h => by cases h) d_Model_resource_185
      · rw [if_pos hc153] at hE
        refine lv_bipush (v := ((-2) : Int32)) hx hb d_Model_resource_156 (by decide) ?_
        refine lv_goto (tgt := 185) hx hb d_Model_resource_158 (by decide) ?_
        exact W.iret (v := ((-2) : Int32)) hx hb hr (fun t ht hW => ⟨by rw [Option.some.inj hE], ht⟩) (fun q h => by cases h) d_Model_resource_185
    · rw [if_neg hc144] at hE
      refine lv_iconst (v := ((-1) : Int32)) hx hb d_Model_resource_147 (by decide) ?_
      refine lv_goto (tgt := 185) hx hb d_Model_resource_148 (by decide) ?_
      exact W.iret (v := ((-1) : Int32)) hx hb hr (fun t ht hW => ⟨by rw [Option.some.inj hE], ht⟩) (fun q h => by cases h) d_Model_resource_185
  have jn136 : ∀ (bk9 : Int32 → Int32 → Int32 → Int32 → Option Int32) (hbk9 : ∀ (ls : Array Slot) (l1 : Int32) (l2 : Int32) (l3 : Int32) (l4 : Int32), bk9 l1 l2 l3 l4 = some r → lv_has ls 7 [(0, .ref (G.2.1 51)), (1, .int l1), (2, .int l2), (3, .int l3), (4, .int l4)] → W p l e (headSpec (ws_Model_resource) rm_Model_resource).room s m ([.ref (G.2.1 51)] : List Value).toArray below meth c s.heap [] 0 0 (MQ below (xRd (some (.int r))) ([.ref (G.2.1 51)] : List Value).toArray s 0 0 (fun _ => False)) (F0 m 9 ls [])) (ls : Array Slot) (l1 : Int32) (l2 : Int32) (l3 : Int32) (k0 : Int32), x_Model_resource_136 σ bk9 l1 l2 l3 k0 = some r → lv_has ls 7 [(0, .ref (G.2.1 51)), (1, .int l1), (2, .int l2), (3, .int l3)] → W p l e (headSpec (ws_Model_resource) rm_Model_resource).room s m ([.ref (G.2.1 51)] : List Value).toArray below meth c s.heap [] 0 0 (MQ below (xRd (some (.int r))) ([.ref (G.2.1 51)] : List Value).toArray s 0 0 (fun _ => False)) (F0 m 136 ls [.int k0]) := by
    intro bk9 hbk9 ls l1 l2 l3 k0 hE hl
    unfold x_Model_resource_136 at hE
    refine lv_istore hx hb d_Model_resource_136 hl (by decide) rfl (fun ls hl => ?_)
    have hl : lv_has ls 7 [(4, .int k0), (0, .ref (G.2.1 51)), (1, .int l1), (2, .int l2), (3, .int l3)] := hl
    refine lv_goto (tgt := 9) hx hb d_Model_resource_138 (by decide) ?_
    exact hbk9 _ _ _ _ _ hE (lv_sub hl [1, 2, 3, 4, 0] rfl)
  have jn116 : ∀ (bk9 : Int32 → Int32 → Int32 → Int32 → Option Int32) (hbk9 : ∀ (ls : Array Slot) (l1 : Int32) (l2 : Int32) (l3 : Int32) (l4 : Int32), bk9 l1 l2 l3 l4 = some r → lv_has ls 7 [(0, .ref (G.2.1 51)), (1, .int l1), (2, .int l2), (3, .int l3), (4, .int l4)] → W p l e (headSpec (ws_Model_resource) rm_Model_resource).room s m ([.ref (G.2.1 51)] : List Value).toArray below meth c s.heap [] 0 0 (MQ below (xRd (some (.int r))) ([.ref (G.2.1 51)] : List Value).toArray s 0 0 (fun _ => False)) (F0 m 9 ls [])) (ls : Array Slot) (l1 : Int32) (l2 : Int32) (l4 : Int32) (l5 : Int32) (k0 : Int32), x_Model_resource_116 σ bk9 l1 l2 l4 l5 k0 = some r → lv_has ls 7 [(0, .ref (G.2.1 51)), (1, .int l1), (2, .int l2), (4, .int l4), (5, .int l5)] → W p l e (headSpec (ws_Model_resource) rm_Model_resource).room s m ([.ref (G.2.1 51)] : List Value).toArray below meth c s.heap [] 0 0 (MQ below (xRd (some (.int r))) ([.ref (G.2.1 51)] : List Value).toArray s 0 0 (fun _ => False)) (F0 m 116 ls [.int k0]) := by
    intro bk9 hbk9 ls l1 l2 l4 l5 k0 hE hl
    unfold x_Model_resource_116 at hE
    refine lv_istore_n hx hb d_Model_resource_116 rfl hl (by decide) rfl (fun ls hl => ?_)
    have hl : lv_has ls 7 [(3, .int k0), (0, .ref (G.2.1 51)), (1, .int l1), (2, .int l2), (4, .int l4), (5, .int l5)] := hl
    obtain ⟨v117, e117, hE⟩ := x_letE hE
    refine lv_iinc hx hb d_Model_resource_117 hl (k := 2) rfl (x_inc v117 e117 (by decide)) (by decide) rfl (fun ls hl => ?_)
    have hl : lv_has ls 7 [(1, .int v117), (3, .int k0), (0, .ref (G.2.1 51)), (2, .int l2), (4, .int l4), (5, .int l5)] := hl
    refine lv_iload hx hb d_Model_resource_120 (lv_at hl 5 rfl) ?_
    refine lv_if_eq (tgt := 132) hx hb d_Model_resource_122 (by decide) (fun hc122 => ?_) (fun hc122 => ?_)
    · rw [if_pos hc122] at hE
      refine lv_iload hx hb d_Model_resource_132 (lv_at hl 4 rfl) ?_
      refine lv_iconst (v := (1 : Int32)) hx hb d_Model_resource_134 (by decide) ?_
      refine lv_iadd hx hb d_Model_resource_135 ?_
      exact jn136 _ hbk9 _ _ _ _ _ hE (lv_sub hl [2, 0, 3, 1] rfl)
    · rw [if_neg hc122] at hE
      refine lv_iload hx hb d_Model_resource_125 (lv_at hl 4 rfl) ?_
      refine lv_iconst (v := (3 : Int32)) hx hb d_Model_resource_127 (by decide) ?_
      refine lv_iadd hx hb d_Model_resource_128 ?_
      refine lv_goto (tgt := 136) hx hb d_Model_resource_129 (by decide) ?_
      exact jn136 _ hbk9 _ _ _ _ _ hE (lv_sub hl [2, 0, 3, 1] rfl)
  have jn104 : ∀ (bk9 : Int32 → Int32 → Int32 → Int32 → Option Int32) (hbk9 : ∀ (ls : Array Slot) (l1 : Int32) (l2 : Int32) (l3 : Int32) (l4 : Int32), bk9 l1 l2 l3 l4 = some r → lv_has ls 7 [(0, .ref (G.2.1 51)), (1, .int l1), (2, .int l2), (3, .int l3), (4, .int l4)] → W p l e (headSpec (ws_Model_resource) rm_Model_resource).room s m ([.ref (G.2.1 51)] : List Value).toArray below meth c s.heap [] 0 0 (MQ below (xRd (some (.int r))) ([.ref (G.2.1 51)] : List Value).toArray s 0 0 (fun _ => False)) (F0 m 9 ls [])) (ls : Array Slot) (l1 : Int32) (l3 : Int32) (l4 : Int32) (l5 : Int32) (l6 : Int32) (k0 : Int32), x_Model_resource_104 σ bk9 l1 l3 l4 l5 l6 k0 = some r → lv_has ls 7 [(0, .ref (G.2.1 51)), (1, .int l1), (3, .int l3), (4, .int l4), (5, .int l5), (6, .int l6)] → W p l e (headSpec (ws_Model_resource) rm_Model_resource).room s m ([.ref (G.2.1 51)] : List Value).toArray below meth c s.heap [] 0 0 (MQ below (xRd (some (.int r))) ([.ref (G.2.1 51)] : List Value).toArray s 0 0 (fun _ => False)) (F0 m 104 ls [.int k0]) := by
    intro bk9 hbk9 ls l1 l3 l4 l5 l6 k0 hE hl
    unfold x_Model_resource_104 at hE
    refine lv_istore_n hx hb d_Model_resource_104 rfl hl (by decide) rfl (fun ls hl => ?_)
    have hl : lv_has ls 7 [(2, .int k0), (0, .ref (G.2.1 51)), (1, .int l1), (3, .int l3), (4, .int l4), (5, .int l5), (6, .int l6)] := hl
    refine lv_iload_n hx hb d_Model_resource_105 rfl (lv_at hl 2 rfl) ?_
    refine lv_iconst (v := (1 : Int32)) hx hb d_Model_resource_106 (by decide) ?_
    refine lv_icmp_ne (tgt := 115) hx hb d_Model_resource_107 (by decide) (fun hc107 => ?_) (fun hc107 => ?_)
    · rw [if_neg hc107] at hE
      refine lv_iload_n hx hb d_Model_resource_115 rfl (lv_at hl 3 rfl) ?_
      exact jn116 _ hbk9 _ _ _ _ _ _ hE (lv_sub hl [1, 2, 0, 4, 5] rfl)
    · rw [if_pos hc107] at hE
      refine lv_iload hx hb d_Model_resource_110 (lv_at hl 6 rfl) ?_
      refine lv_goto (tgt := 116) hx hb d_Model_resource_112 (by decide) ?_
      exact jn116 _ hbk9 _ _ _ _ _ _ hE (lv_sub hl [1, 2, 0, 4, 5] rfl)
  have jn92 : ∀ (bk9 : Int32 → Int32 → Int32 → Int32 → Option Int32) (hbk9 : ∀ (ls : Array Slot) (l1 : Int32) (l2 : Int32) (l3 : Int32) (l4 : Int32), bk9 l1 l2 l3 l4 = some r → lv_has ls 7 [(0, .ref (G.2.1 51)), (1, .int l1), (2, .int l2), (3, .int l3), (4, .int l4)] → W p l e (headSpec (ws_Model_resource) rm_Model_resource).room s m ([.ref (G.2.1 51)] : List Value).toArray below meth c s.heap [] 0 0 (MQ below (xRd (some (.int r))) ([.ref (G.2.1 51)] : List Value).toArray s 0 0 (fun _ => False)) (F0 m 9 ls [])) (ls : Array Slot) (l1 : Int32) (l2 : Int32) (l3 : Int32) (l4 : Int32) (l5 : Int32) (k0 : Int32), x_Model_resource_92 σ bk9 l1 l2 l3 l4 l5 k0 = some r → lv_has ls 7 [(0, .ref (G.2.1 51)), (1, .int l1), (2, .int l2), (3, .int l3), (4, .int l4), (5, .int l5)] → W p l e (headSpec (ws_Model_resource) rm_Model_resource).room s m ([.ref (G.2.1 51)] : List Value).toArray below meth c s.heap [] 0 0 (MQ below (xRd (some (.int r))) ([.ref (G.2.1 51)] : List Value).toArray s 0 0 (fun _ => False)) (F0 m 92 ls [.int k0]) := by
    intro bk9 hbk9 ls l1 l2 l3 l4 l5 k0 hE hl
    unfold x_Model_resource_92 at hE
    refine lv_istore hx hb d_Model_resource_92 hl (by decide) rfl (fun ls hl => ?_)
    have hl : lv_has ls 7 [(6, .int k0), (0, .ref (G.2.1 51)), (1, .int l1), (2, .int l2), (3, .int l3), (4, .int l4), (5, .int l5)] := hl
    refine lv_iload_n hx hb d_Model_resource_94 rfl (lv_at hl 2 rfl) ?_
    refine lv_if_ne (tgt := 103) hx hb d_Model_resource_95 (by decide) (fun hc95 => ?_) (fun hc95 => ?_)
    · rw [if_neg hc95] at hE
      refine lv_iload_n hx hb d_Model_resource_103 rfl (lv_at hl 3 rfl) ?_
      exact jn104 _ hbk9 _ _ _ _ _ _ _ hE (lv_sub hl [1, 2, 4, 5, 6, 0] rfl)
    · rw [if_pos hc95] at hE
      refine lv_iload hx hb d_Model_resource_98 (lv_at hl 0 rfl) ?_
      refine lv_goto (tgt := 104) hx hb d_Model_resource_100 (by decide) ?_
      exact jn104 _ hbk9 _ _ _ _ _ _ _ hE (lv_sub hl [1, 2, 4, 5, 6, 0] rfl)
  have jn47 : ∀ (bk9 : Int32 → Int32 → Int32 → Int32 → Option Int32) (hbk9 : ∀ (ls : Array Slot) (l1 : Int32) (l2 : Int32) (l3 : Int32) (l4 : Int32), bk9 l1 l2 l3 l4 = some r → lv_has ls 7 [(0, .ref (G.2.1 51)), (1, .int l1), (2, .int l2), (3, .int l3), (4, .int l4)] → W p l e (headSpec (ws_Model_resource) rm_Model_resource).room s m ([.ref (G.2.1 51)] : List Value).toArray below meth c s.heap [] 0 0 (MQ below (xRd (some (.int r))) ([.ref (G.2.1 51)] : List Value).toArray s 0 0 (fun _ => False)) (F0 m 9 ls [])) (ls : Array Slot) (l1 : Int32) (l2 : Int32) (l3 : Int32) (l4 : Int32) (k0 : Int32), x_Model_resource_47 σ bk9 l1 l2 l3 l4 k0 = some r → lv_has ls 7 [(0, .ref (G.2.1 51)), (1, .int l1), (2, .int l2), (3, .int l3), (4, .int l4)] → W p l e (headSpec (ws_Model_resource) rm_Model_resource).room s m ([.ref (G.2.1 51)] : List Value).toArray below meth c s.heap [] 0 0 (MQ below (xRd (some (.int r))) ([.ref (G.2.1 51)] : List Value).toArray s 0 0 (fun _ => False)) (F0 m 47 ls [.int k0]) := by
    intro bk9 hbk9 ls l1 l2 l3 l4 k0 hE hl
    unfold x_Model_resource_47 at hE
    refine lv_istore hx hb d_Model_resource_47 hl (by decide) rfl (fun ls hl => ?_)
    have hl : lv_has ls 7 [(5, .int k0), (0, .ref (G.2.1 51)), (1, .int l1), (2, .int l2), (3, .int l3), (4, .int l4)] := hl
    refine lv_iload hx hb d_Model_resource_49 (lv_at hl 0 rfl) ?_
    refine lv_if_eq (tgt := 85) hx hb d_Model_resource_51 (by decide) (fun hc51 => ?_) (fun hc51 => ?_)
    · rw [if_pos hc51] at hE
      refine lv_aload_n hx hb d_Model_resource_85 rfl (lv_at hl 1 rfl) ?_
      refine va_get (D := G.1) (cl := xCl) (ci := 10) (v := .ref (G.2.1 58)) (C := R_Model) (T := T_Model) (N := 33) hx hb hu fi_Model hown hK hw 51 (x_at (by decide) (xcl_51 G σ)) rfl 14 (by decide) (hu _ mw_1082) (fun _ h9 => h9) rfl d_Model_resource_86 ?_
      refine lv_iload hx hb d_Model_resource_89 (lv_at hl 5 rfl) ?_
      obtain ⟨g91, hE⟩ := x_guard hE
      refine va_iald hx hb hK hw 58 0 (x_at (by decide) (xcl_58 G σ)) rfl g91 d_Model_resource_91 ?_
      exact jn92 _ hbk9 _ _ _ _ _ _ _ hE (lv_sub hl [1, 2, 3, 4, 5, 0] rfl)
    · rw [if_neg hc51] at hE
      refine lv_bipush (v := (16 : Int32)) hx hb d_Model_resource_54 (by decide) ?_
      refine lv_aload_n hx hb d_Model_resource_56 rfl (lv_at hl 1 rfl) ?_
      refine va_get (D := G.1) (cl := xCl) (ci := 10) (v := .ref (G.2.1 58)) (C := R_Model) (T := T_Model) (N := 33) hx hb hu fi_Model hown hK hw 51 (x_at (by decide) (xcl_51 G σ)) rfl 14 (by decide) (hu _ mw_1082) (fun _ h9 => h9) rfl d_Model_resource_57 ?_
      refine lv_iload hx hb d_Model_resource_60 (lv_at hl 5 rfl) ?_
      refine lv_iconst (v := (1 : Int32)) hx hb d_Model_resource_62 (by decide) ?_
      refine lv_iadd hx hb d_Model_resource_63 ?_
      obtain ⟨g64, hE⟩ := x_guard hE
      refine va_iald hx hb hK hw 58 0 (x_at (by decide) (xcl_58 G σ)) rfl g64 d_Model_resource_64 ?_
      obtain ⟨r65, hC65, hE⟩ := x_bind hE
      refine x_callR (W.runS (As := [.int (σ.2.1 58 (l4 + (1 : Int32)).toNatClampNeg)]) (rest := [.int (16 : Int32)]) ⟨hx, hb, hml, hown, hu⟩ (t_Model_hexOf l G σ (σ.2.1 58 (l4 + (1 : Int32)).toNatClampNeg) r65 hC65) (va_cwS 1 hu (uw_S mw_1194 mw_1195 mw_70 mw_1196) rfl rfl rfl hd_Model_hexOf ⟨Nat.le_of_ble_eq_true rfl, Nat.le_of_ble_eq_true rfl⟩) (x_preS hC hS hw) rfl rfl hl.1 rfl (lv_room (Nat.le_of_ble_eq_true rfl)) d_Model_resource_65 ⟨Nat.le_of_ble_eq_true rfl, Nat.le_of_ble_eq_true rfl⟩) ?_
      refine lv_imul hx hb d_Model_resource_68 ?_
      refine lv_aload_n hx hb d_Model_resource_69 rfl (lv_at hl 1 rfl) ?_
      refine va_get (D := G.1) (cl := xCl) (ci := 10) (v := .ref (G.2.1 58)) (C := R_Model) (T := T_Model) (N := 33) hx hb hu fi_Model hown hK hw 51 (x_at (by decide) (xcl_51 G σ)) rfl 14 (by decide) (hu _ mw_1082) (fun _ h9 => h9) rfl d_Model_resource_70 ?_
      refine lv_iload hx hb d_Model_resource_73 (lv_at hl 5 rfl) ?_
      refine lv_iconst (v := (2 : Int32)) hx hb d_Model_resource_75 (by decide) ?_
      refine lv_iadd hx hb d_Model_resource_76 ?_
      obtain ⟨g77, hE⟩ := x_guard hE
      refine va_iald hx hb hK hw 58 0 (x_at (by decide) (xcl_58 G σ)) rfl g77 d_Model_resource_77 ?_
      obtain ⟨r78, hC78, hE⟩ := x_bind hE
      refine x_callR (W.runS (As := [.int (σ.2.1 58 (l4 + (2 : Int32)).toNatClampNeg)]) (rest := [.int ((16 : Int32) * r65)]) ⟨hx, hb, hml, hown, hu⟩ (t_Model_hexOf l G σ (σ.2.1 58 (l4 + (2 : Int32)).toNatClampNeg) r78 hC78) (va_cwS 1 hu (uw_S mw_1194 mw_1195 mw_70 mw_1196) rfl rfl rfl hd_Model_hexOf ⟨Nat.le_of_ble_eq_true rfl, Nat.le_of_ble_eq_true rfl⟩) (x_preS hC hS hw) rfl rfl hl.1 rfl (lv_room (Nat.le_of_ble_eq_true rfl)) d_Model_resource_78 ⟨Nat.le_of_ble_eq_true rfl, Nat.le_of_ble_eq_true rfl⟩) ?_
      refine lv_iadd hx hb d_Model_resource_81 ?_
      refine lv_goto (tgt := 92) hx hb d_Model_resource_82 (by decide) ?_
      exact jn92 _ hbk9 _ _ _ _ _ _ _ hE (lv_sub hl [1, 2, 3, 4, 5, 0] rfl)
  have jn9 : ∀ (n : Nat) (ls : Array Slot) (l1 : Int32) (l2 : Int32) (l3 : Int32) (l4 : Int32), x_Model_resource_9 σ n l1 l2 l3 l4 = some r → lv_has ls 7 [(0, .ref (G.2.1 51)), (1, .int l1), (2, .int l2), (3, .int l3), (4, .int l4)] → W p l e (headSpec (ws_Model_resource) rm_Model_resource).room s m ([.ref (G.2.1 51)] : List Value).toArray below meth c s.heap [] 0 0 (MQ below (xRd (some (.int r))) ([.ref (G.2.1 51)] : List Value).toArray s 0 0 (fun _ => False)) (F0 m 9 ls []) := by
    intro n
    induction n with
    | zero => intro ls l1 l2 l3 l4 hE; rw [x_Model_resource_9] at hE; cases hE
    | succ n ih =>
      intro ls l1 l2 l3 l4 hE hl
      rw [x_Model_resource_9] at hE
      refine lv_iload hx hb d_Model_resource_9 (lv_at hl 4 rfl) ?_
      refine lv_aload_n hx hb d_Model_resource_11 rfl (lv_at hl 0 rfl) ?_
      refine va_get (D := G.1) (cl := xCl) (ci := 10) (v := .int (σ.1 51 13)) (C := R_Model) (T := T_Model) (N := 33) hx hb hu fi_Model hown hK hw 51 (x_at (by decide) (xcl_51 G σ)) rfl 13 (by decide) (hu _ mw_1081) (fun _ h9 => h9) rfl d_Model_resource_12 ?_
      refine lv_icmp_ge (tgt := 141) hx hb d_Model_resource_15 (by decide) (fun hc15 => ?_) (fun hc15 => ?_)
      · rw [if_pos hc15] at hE
        exact jn141 _ _ _ _ hE (lv_sub hl [0, 1, 2, 3] rfl)
      · rw [if_neg hc15] at hE
        refine lv_aload_n hx hb d_Model_resource_18 rfl (lv_at hl 0 rfl) ?_
        refine va_get (D := G.1) (cl := xCl) (ci := 10) (v := .ref (G.2.1 58)) (C := R_Model) (T := T_Model) (N := 33) hx hb hu fi_Model hown hK hw 51 (x_at (by decide) (xcl_51 G σ)) rfl 14 (by decide) (hu _ mw_1082) (fun _ h9 => h9) rfl d_Model_resource_19 ?_
        refine lv_iload hx hb d_Model_resource_22 (lv_at hl 4 rfl) ?_
        obtain ⟨g24, hE⟩ := x_guard hE
        refine va_iald hx hb hK hw 58 0 (x_at (by decide) (xcl_58 G σ)) rfl g24 d_Model_resource_24 ?_
        refine lv_bipush (v := (63 : Int32)) hx hb d_Model_resource_25 (by decide) ?_
        refine lv_icmp_eq (tgt := 141) hx hb d_Model_resource_27 (by decide) (fun hc27 => ?_) (fun hc27 => ?_)
        · rw [if_pos hc27] at hE
          exact jn141 _ _ _ _ hE (lv_sub hl [0, 1, 2, 3] rfl)
        · rw [if_neg hc27] at hE
          refine lv_aload_n hx hb d_Model_resource_30 rfl (lv_at hl 0 rfl) ?_
          refine va_get (D := G.1) (cl := xCl) (ci := 10) (v := .ref (G.2.1 58)) (C := R_Model) (T := T_Model) (N := 33) hx hb hu fi_Model hown hK hw 51 (x_at (by decide) (xcl_51 G σ)) rfl 14 (by decide) (hu _ mw_1082) (fun _ h9 => h9) rfl d_Model_resource_31 ?_
          refine lv_iload hx hb d_Model_resource_34 (lv_at hl 4 rfl) ?_
          obtain ⟨g36, hE⟩ := x_guard hE
          refine va_iald hx hb hK hw 58 0 (x_at (by decide) (xcl_58 G σ)) rfl g36 d_Model_resource_36 ?_
          refine lv_bipush (v := (37 : Int32)) hx hb d_Model_resource_37 (by decide) ?_
          refine lv_icmp_ne (tgt := 46) hx hb d_Model_resource_39 (by decide) (fun hc39 => ?_) (fun hc39 => ?_)
          · rw [if_neg hc39] at hE
            refine lv_iconst (v := (0 : Int32)) hx hb d_Model_resource_46 (by decide) ?_
            exact jn47 _ ih _ _ _ _ _ _ hE (lv_sub hl [0, 1, 2, 3, 4] rfl)
          · rw [if_pos hc39] at hE
            refine lv_iconst (v := (1 : Int32)) hx hb d_Model_resource_42 (by decide) ?_
            refine lv_goto (tgt := 47) hx hb d_Model_resource_43 (by decide) ?_
            exact jn47 _ ih _ _ _ _ _ _ hE (lv_sub hl [0, 1, 2, 3, 4] rfl)
  have hl := lv_entry ([.ref (G.2.1 51)]) (n := 7) (Nat.le_of_ble_eq_true rfl)
  rw [lg_entry_eq]
  generalize (lg_sl ([.ref (G.2.1 51)]) ++ List.replicate (7 - (lg_sl ([.ref (G.2.1 51)])).length) Slot.unset).toArray = ls at hl ⊢
  have hl : lv_has ls 7 [(0, .ref (G.2.1 51))] := hl
  unfold x_Model_resource at hE
  refine lv_iconst (v := (0 : Int32)) hx hb d_Model_resource_0 (by decide) ?_
  refine lv_istore_n hx hb d_Model_resource_1 rfl hl (by decide) rfl (fun ls hl => ?_)
  have hl : lv_has ls 7 [(1, .int (0 : Int32)), (0, .ref (G.2.1 51))] := hl
  refine lv_iconst (v := (0 : Int32)) hx hb d_Model_resource_2 (by decide) ?_
  refine lv_istore_n hx hb d_Model_resource_3 rfl hl (by decide) rfl (fun ls hl => ?_)
  have hl : lv_has ls 7 [(2, .int (0 : Int32)), (1, .int (0 : Int32)), (0, .ref (G.2.1 51))] := hl
  refine lv_iconst (v := (0 : Int32)) hx hb d_Model_resource_4 (by decide) ?_
  refine lv_istore_n hx hb d_Model_resource_5 rfl hl (by decide) rfl (fun ls hl => ?_)
  have hl : lv_has ls 7 [(3, .int (0 : Int32)), (2, .int (0 : Int32)), (1, .int (0 : Int32)), (0, .ref (G.2.1 51))] := hl
  refine lv_iconst (v := (0 : Int32)) hx hb d_Model_resource_6 (by decide) ?_
  refine lv_istore hx hb d_Model_resource_7 hl (by decide) rfl (fun ls hl => ?_)
  have hl : lv_has ls 7 [(4, .int (0 : Int32)), (3, .int (0 : Int32)), (2, .int (0 : Int32)), (1, .int (0 : Int32)), (0, .ref (G.2.1 51))] := hl
  exact jn9 x_fuel _ _ _ _ _ hE (lv_sub hl [4, 3, 2, 1, 0] rfl)

def y_Model_tellSite : MethodName := ⟨"PlainOriginModel", "tellSite", "()V"⟩
def ws_Model_tellSite : List Cond := Cond.code y_Model_tellSite prog_14_method_43_code 3 none :: UW
theorem hd_Model_tellSite : y_Model_tellSite.cls = R_Model ∧ y_Model_tellSite.cls ≠ "java/lang/invoke/MethodHandle" ∧ y_Model_tellSite.cls ≠ "java/lang/invoke/VarHandle" ∧ (parseMethodDescriptor y_Model_tellSite.desc).map (fun d => d.parameters.length) = some 0 := by decide +kernel
theorem d_Model_tellSite_0 : decode prog_14_method_43_code 0 = .ok (.iconst 0, 1) := by decide +kernel
theorem d_Model_tellSite_1 : decode prog_14_method_43_code 1 = .ok (.istore_n 1, 1) := by decide +kernel
theorem d_Model_tellSite_2 : decode prog_14_method_43_code 2 = .ok (.iconst 0, 1) := by decide +kernel
theorem d_Model_tellSite_3 : decode prog_14_method_43_code 3 = .ok (.istore_n 2, 1) := by decide +kernel
theorem d_Model_tellSite_4 : decode prog_14_method_43_code 4 = .ok (.iload_n 2, 1) := by decide +kernel
theorem d_Model_tellSite_5 : decode prog_14_method_43_code 5 = .ok (.bipush (8), 2) := by decide +kernel
theorem d_Model_tellSite_7 : decode prog_14_method_43_code 7 = .ok (.if_icmp .ge (26), 3) := by decide +kernel
theorem d_Model_tellSite_10 : decode prog_14_method_43_code 10 = .ok (.aload_n 0, 1) := by decide +kernel
theorem d_Model_tellSite_11 : decode prog_14_method_43_code 11 = .ok (.getfield 87, 3) := by decide +kernel
theorem d_Model_tellSite_14 : decode prog_14_method_43_code 14 = .ok (.iload_n 2, 1) := by decide +kernel
theorem d_Model_tellSite_15 : decode prog_14_method_43_code 15 = .ok (.baload, 1) := by decide +kernel
theorem d_Model_tellSite_16 : decode prog_14_method_43_code 16 = .ok (.ifCond .eq (9), 3) := by decide +kernel
theorem d_Model_tellSite_19 : decode prog_14_method_43_code 19 = .ok (.iload_n 1, 1) := by decide +kernel
theorem d_Model_tellSite_20 : decode prog_14_method_43_code 20 = .ok (.iconst 1, 1) := by decide +kernel
theorem d_Model_tellSite_21 : decode prog_14_method_43_code 21 = .ok (.iadd, 1) := by decide +kernel
theorem d_Model_tellSite_22 : decode prog_14_method_43_code 22 = .ok (.goto (4), 3) := by decide +kernel
theorem d_Model_tellSite_25 : decode prog_14_method_43_code 25 = .ok (.iload_n 1, 1) := by decide +kernel
theorem d_Model_tellSite_26 : decode prog_14_method_43_code 26 = .ok (.istore_n 1, 1) := by decide +kernel
theorem d_Model_tellSite_27 : decode prog_14_method_43_code 27 = .ok (.iinc 2 (1), 3) := by decide +kernel
theorem d_Model_tellSite_30 : decode prog_14_method_43_code 30 = .ok (.goto (-26), 3) := by decide +kernel
theorem d_Model_tellSite_33 : decode prog_14_method_43_code 33 = .ok (.aload_n 0, 1) := by decide +kernel
theorem d_Model_tellSite_34 : decode prog_14_method_43_code 34 = .ok (.sipush (200), 3) := by decide +kernel
theorem d_Model_tellSite_37 : decode prog_14_method_43_code 37 = .ok (.iload_n 1, 1) := by decide +kernel
theorem d_Model_tellSite_38 : decode prog_14_method_43_code 38 = .ok (.iconst (-1), 1) := by decide +kernel
theorem d_Model_tellSite_39 : decode prog_14_method_43_code 39 = .ok (.iconst (-1), 1) := by decide +kernel
theorem d_Model_tellSite_40 : decode prog_14_method_43_code 40 = .ok (.iconst 0, 1) := by decide +kernel
theorem d_Model_tellSite_41 : decode prog_14_method_43_code 41 = .ok (.iconst 0, 1) := by decide +kernel
theorem d_Model_tellSite_42 : decode prog_14_method_43_code 42 = .ok (.invokevirtual 175, 3) := by decide +kernel
theorem d_Model_tellSite_45 : decode prog_14_method_43_code 45 = .ok (.iconst 0, 1) := by decide +kernel
theorem d_Model_tellSite_46 : decode prog_14_method_43_code 46 = .ok (.istore_n 2, 1) := by decide +kernel
theorem d_Model_tellSite_47 : decode prog_14_method_43_code 47 = .ok (.iload_n 2, 1) := by decide +kernel
theorem d_Model_tellSite_48 : decode prog_14_method_43_code 48 = .ok (.bipush (8), 2) := by decide +kernel
theorem d_Model_tellSite_50 : decode prog_14_method_43_code 50 = .ok (.if_icmp .ge (35), 3) := by decide +kernel
theorem d_Model_tellSite_53 : decode prog_14_method_43_code 53 = .ok (.aload_n 0, 1) := by decide +kernel
theorem d_Model_tellSite_54 : decode prog_14_method_43_code 54 = .ok (.getfield 87, 3) := by decide +kernel
theorem d_Model_tellSite_57 : decode prog_14_method_43_code 57 = .ok (.iload_n 2, 1) := by decide +kernel
theorem d_Model_tellSite_58 : decode prog_14_method_43_code 58 = .ok (.baload, 1) := by decide +kernel
theorem d_Model_tellSite_59 : decode prog_14_method_43_code 59 = .ok (.ifCond .eq (20), 3) := by decide +kernel
theorem d_Model_tellSite_62 : decode prog_14_method_43_code 62 = .ok (.aload_n 0, 1) := by decide +kernel
theorem d_Model_tellSite_63 : decode prog_14_method_43_code 63 = .ok (.getfield 108, 3) := by decide +kernel
theorem d_Model_tellSite_66 : decode prog_14_method_43_code 66 = .ok (.bipush (121), 2) := by decide +kernel
theorem d_Model_tellSite_68 : decode prog_14_method_43_code 68 = .ok (.if_icmp .ne (11), 3) := by decide +kernel
theorem d_Model_tellSite_71 : decode prog_14_method_43_code 71 = .ok (.aload_n 0, 1) := by decide +kernel
theorem d_Model_tellSite_72 : decode prog_14_method_43_code 72 = .ok (.bipush (97), 2) := by decide +kernel
theorem d_Model_tellSite_74 : decode prog_14_method_43_code 74 = .ok (.iload_n 2, 1) := by decide +kernel
theorem d_Model_tellSite_75 : decode prog_14_method_43_code 75 = .ok (.iadd, 1) := by decide +kernel
theorem d_Model_tellSite_76 : decode prog_14_method_43_code 76 = .ok (.invokevirtual 294, 3) := by decide +kernel
theorem d_Model_tellSite_79 : decode prog_14_method_43_code 79 = .ok (.iinc 2 (1), 3) := by decide +kernel
theorem d_Model_tellSite_82 : decode prog_14_method_43_code 82 = .ok (.goto (-35), 3) := by decide +kernel
theorem d_Model_tellSite_85 : decode prog_14_method_43_code 85 = .ok (.return_, 1) := by decide +kernel
def x_Model_tellSite_79 (bk47 : Int32 → St → Option St) (l2 : Int32) (σ : St) : Option St := (x_let (l2 + (1 : Int32)) (fun (v79 : Int32) => bk47 v79 σ))
def x_Model_tellSite_47 : Nat → Int32 → St → Option St
  | 0, _, _ => none
  | n + 1, l2, σ => (if (8 : Int32) ≤ l2 then some σ else (if x_in l2 8 then (if (σ.2.1 53 l2.toNatClampNeg) = 0 then x_Model_tellSite_79 (x_Model_tellSite_47 n) l2 σ else (if (σ.1 51 12) = (121 : Int32) then (Option.bind (x_Model_say ((97 : Int32) + l2) σ) (fun s76 => x_Model_tellSite_79 (x_Model_tellSite_47 n) l2 s76)) else x_Model_tellSite_79 (x_Model_tellSite_47 n) l2 σ)) else none))
def x_Model_tellSite_26 (bk4 : Int32 → Int32 → St → Option St) (l2 : Int32) (k0 : Int32) (σ : St) : Option St := (x_let (l2 + (1 : Int32)) (fun (v27 : Int32) => bk4 k0 v27 σ))
def x_Model_tellSite_4 : Nat → Int32 → Int32 → St → Option St
  | 0, _, _, _ => none
  | n + 1, l1, l2, σ => (if (8 : Int32) ≤ l2 then (Option.bind (x_Model_respond (200 : Int32) l1 ((-1) : Int32) ((-1) : Int32) (0 : Int32) (0 : Int32) σ) (fun s42 => x_Model_tellSite_47 x_fuel (0 : Int32) s42)) else (if x_in l2 8 then (if (σ.2.1 53 l2.toNatClampNeg) = 0 then x_Model_tellSite_26 (x_Model_tellSite_4 n) l2 l1 σ else x_Model_tellSite_26 (x_Model_tellSite_4 n) l2 (l1 + (1 : Int32)) σ) else none))
def x_Model_tellSite (σ : St) : Option St := x_Model_tellSite_4 x_fuel (0 : Int32) (0 : Int32) σ
abbrev rm_Model_tellSite : Room := { frames := 4, cells := 0, slots := 0, locals := 90 }
set_option maxHeartbeats 4000000 in
set_option maxRecDepth 100000 in
theorem t_Model_tellSite (l : Launch) (G : xG) (σ : St) (σ' : St) (hE : x_Model_tellSite σ = some σ') : Met l y_Model_tellSite (ws_Model_tellSite) rm_Model_tellSite (xP G σ [.ref (G.2.1 51)]) (xQ G none σ') 0 0 (xA G) := by
  refine Met.ofW (cc := prog_14_method_43_code) (maxL := 3) (ret := none) (by decide) rfl ?_
  intro p e s m args below meth c s₁ B hml hv
  obtain ⟨rfl, hw, hC⟩ := hv
  have hx := B.exec
  have hb := B.bytes
  have hr := B.returns
  have hu : ∀ w ∈ UW, w.before _ s = true := fun w h => atoms_spec B.pre w (List.mem_cons_of_mem _ h)
  have hown : s.vm.findClass R_Model = some m.cls := findClass_of_methodNamed B.named
  have hlocks := B.notSynchronized
  have hK := hC.1
  have hI := hC.2.1
  have hG := hC.2.2.1
  have hN := hC.2.2.2
  have hS : va_S (xA G) s.heap s.heap [] := va_S.rf
  have jn79 : ∀ (bk47 : Int32 → St → Option St) (hbk47 : ∀ (ls : Array Slot) (H : Heap) (locs : List Loc) (σ : St) (l2 : Int32), bk47 l2 σ = some σ' → lv_has ls 3 [(0, .ref (G.2.1 51)), (2, .int l2)] → xw G σ H → va_S (xA G) s.heap H locs → W p l e (headSpec (ws_Model_tellSite) rm_Model_tellSite).room s m ([.ref (G.2.1 51)] : List Value).toArray below meth c H locs 0 0 (MQ below (xQ G none σ') ([.ref (G.2.1 51)] : List Value).toArray s 0 0 (xA G)) (F0 m 47 ls [])) (ls : Array Slot) (H : Heap) (locs : List Loc) (σ : St) (l2 : Int32), x_Model_tellSite_79 bk47 l2 σ = some σ' → lv_has ls 3 [(0, .ref (G.2.1 51)), (2, .int l2)] → xw G σ H → va_S (xA G) s.heap H locs → W p l e (headSpec (ws_Model_tellSite) rm_Model_tellSite).room s m ([.ref (G.2.1 51)] : List Value).toArray below meth c H locs 0 0 (MQ below (xQ G none σ') ([.ref (G.2.1 51)] : List Value).toArray s 0 0 (xA G)) (F0 m 79 ls []) := by
    intro bk47 hbk47 ls H locs σ l2 hE hl hw hS
    unfold x_Model_tellSite_79 at hE
    obtain ⟨v79, e79, hE⟩ := x_letE hE
    refine lv_iinc hx hb d_Model_tellSite_79 hl (k := 1) rfl (x_inc v79 e79 (by decide)) (by decide) rfl (fun ls hl => ?_)
    have hl : lv_has ls 3 [(2, .int v79), (0, .ref (G.2.1 51))] := hl
    refine lv_goto (tgt := 47) hx hb d_Model_tellSite_82 (by decide) ?_
    exact hbk47 _ _ _ _ _ hE (lv_sub hl [1, 0] rfl) hw hS
  have jn47 : ∀ (n : Nat) (ls : Array Slot) (H : Heap) (locs : List Loc) (σ : St) (l2 : Int32), x_Model_tellSite_47 n l2 σ = some σ' → lv_has ls 3 [(0, .ref (G.2.1 51)), (2, .int l2)] → xw G σ H → va_S (xA G) s.heap H locs → W p l e (headSpec (ws_Model_tellSite) rm_Model_tellSite).room s m ([.ref (G.2.1 51)] : List Value).toArray below meth c H locs 0 0 (MQ below (xQ G none σ') ([.ref (G.2.1 51)] : List Value).toArray s 0 0 (xA G)) (F0 m 47 ls []) := by
    intro n
    induction n with
    | zero => intro ls H locs σ l2 hE; rw [x_Model_tellSite_47] at hE; cases hE
    | succ n ih =>
      intro ls H locs σ l2 hE hl hw hS
      rw [x_Model_tellSite_47] at hE
      refine lv_iload_n hx hb d_Model_tellSite_47 rfl (lv_at hl 1 rfl) ?_
      refine lv_bipush (v := (8 : Int32)) hx hb d_Model_tellSite_48 (by decide) ?_
      refine lv_icmp_ge (tgt := 85) hx hb d_Model_tellSite_50 (by decide) (fun hc50 => ?_) (fun hc50 => ?_)
      · rw [if_pos hc50] at hE
        have e1 := Option.some.inj hE
        exact W.vret hx hb hr (fun t ht hW => ⟨rfl, by rw [ht, ← e1]; exact hw, hS.F ht⟩) hS.2.2 d_Model_tellSite_85
      · rw [if_neg hc50] at hE
        refine lv_aload_n hx hb d_Model_tellSite_53 rfl (lv_at hl 0 rfl) ?_
        refine va_get (D := G.1) (cl := xCl) (ci := 10) (v := .ref (G.2.1 53)) (C := R_Model) (T := T_Model) (N := 33) hx hb hu fi_Model hown hK hw 51 (x_at (by decide) (xcl_51 G σ)) rfl 2 (by decide) (hu _ mw_1070) (fun _ h9 => h9) rfl d_Model_tellSite_54 ?_
        refine lv_iload_n hx hb d_Model_tellSite_57 rfl (lv_at hl 1 rfl) ?_
        obtain ⟨g58, hE⟩ := x_guard hE
        refine va_zald hx hb hK hw 53 1 (x_at (by decide) (xcl_53 G σ)) rfl g58 d_Model_tellSite_58 ?_
        refine lv_if_eq (tgt := 79) hx hb d_Model_tellSite_59 (by decide) (fun hc59 => ?_) (fun hc59 => ?_)
        · rw [if_pos hc59] at hE
          exact jn79 _ ih _ _ _ _ _ hE (lv_sub hl [0, 1] rfl) hw hS
        · rw [if_neg hc59] at hE
          refine lv_aload_n hx hb d_Model_tellSite_62 rfl (lv_at hl 0 rfl) ?_
          refine va_get (D := G.1) (cl := xCl) (ci := 10) (v := .int (σ.1 51 12)) (C := R_Model) (T := T_Model) (N := 33) hx hb hu fi_Model hown hK hw 51 (x_at (by decide) (xcl_51 G σ)) rfl 12 (by decide) (hu _ mw_1080) (fun _ h9 => h9) rfl d_Model_tellSite_63 ?_
          refine lv_bipush (v := (121 : Int32)) hx hb d_Model_tellSite_66 (by decide) ?_
          refine lv_icmp_ne (tgt := 79) hx hb d_Model_tellSite_68 (by decide) (fun hc68 => ?_) (fun hc68 => ?_)
          · rw [if_neg hc68] at hE
            exact jn79 _ ih _ _ _ _ _ hE (lv_sub hl [0, 1] rfl) hw hS
          · rw [if_pos hc68] at hE
            refine lv_aload_n hx hb d_Model_tellSite_71 rfl (lv_at hl 0 rfl) ?_
            refine lv_bipush (v := (97 : Int32)) hx hb d_Model_tellSite_72 (by decide) ?_
            refine lv_iload_n hx hb d_Model_tellSite_74 rfl (lv_at hl 1 rfl) ?_
            refine lv_iadd hx hb d_Model_tellSite_75 ?_
            obtain ⟨s76, hC76, hE⟩ := x_bind hE
            refine x_callV hS (W.runV (As := [.int ((97 : Int32) + l2)]) (rest := []) ⟨hx, hb, hml, hown, hu⟩ (t_Model_say l G σ ((97 : Int32) + l2) s76 hC76) (cwV 1 hu (uw_V mw_1219 mw_1221 mw_30 mw_70 mw_1222) rfl rfl rfl hd_Model_say ⟨Nat.le_of_ble_eq_true rfl, Nat.le_of_ble_eq_true rfl⟩) (x_preV hC hS hw (va_recv hK hw (q := (R_Model, T_Model, 33)) (ci := 10) rfl (x_at (by decide) (xcl_51 G σ)))) rfl rfl hl.1 rfl (lv_room (Nat.le_of_ble_eq_true rfl)) d_Model_tellSite_76 ⟨Nat.le_of_ble_eq_true rfl, Nat.le_of_ble_eq_true rfl⟩) (fun H locs hw hS => ?_)
            exact jn79 _ ih _ _ _ _ _ hE (lv_sub hl [0, 1] rfl) hw hS
  have jn26 : ∀ (bk4 : Int32 → Int32 → St → Option St) (hbk4 : ∀ (ls : Array Slot) (H : Heap) (locs : List Loc) (σ : St) (l1 : Int32) (l2 : Int32), bk4 l1 l2 σ = some σ' → lv_has ls 3 [(0, .ref (G.2.1 51)), (1, .int l1), (2, .int l2)] → xw G σ H → va_S (xA G) s.heap H locs → W p l e (headSpec (ws_Model_tellSite) rm_Model_tellSite).room s m ([.ref (G.2.1 51)] : List Value).toArray below meth c H locs 0 0 (MQ below (xQ G none σ') ([.ref (G.2.1 51)] : List Value).toArray s 0 0 (xA G)) (F0 m 4 ls [])) (ls : Array Slot) (H : Heap) (locs : List Loc) (σ : St) (l2 : Int32) (k0 : Int32), x_Model_tellSite_26 bk4 l2 k0 σ = some σ' → lv_has ls 3 [(0, .ref (G.2.1 51)), (2, .int l2)] → xw G σ H → va_S (xA G) s.heap H locs → W p l e (headSpec (ws_Model_tellSite) rm_Model_tellSite).room s m ([.ref (G.2.1 51)] : List Value).toArray below meth c H locs 0 0 (MQ below (xQ G none σ') ([.ref (G.2.1 51)] : List Value).toArray s 0 0 (xA G)) (F0 m 26 ls [.int k0]) := by
    intro bk4 hbk4 ls H locs σ l2 k0 hE hl hw hS
    unfold x_Model_tellSite_26 at hE
    refine lv_istore_n hx hb d_Model_tellSite_26 rfl hl (by decide) rfl (fun ls hl => ?_)
    have hl : lv_has ls 3 [(1, .int k0), (0, .ref (G.2.1 51)), (2, .int l2)] := hl
    obtain ⟨v27, e27, hE⟩ := x_letE hE
    refine lv_iinc hx hb d_Model_tellSite_27 hl (k := 2) rfl (x_inc v27 e27 (by decide)) (by decide) rfl (fun ls hl => ?_)
    have hl : lv_has ls 3 [(2, .int v27), (1, .int k0), (0, .ref (G.2.1 51))] := hl
    refine lv_goto (tgt := 4) hx hb d_Model_tellSite_30 (by decide) ?_
    exact hbk4 _ _ _ _ _ _ hE (lv_sub hl [2, 1, 0] rfl) hw hS
  have jn4 : ∀ (n : Nat) (ls : Array Slot) (H : Heap) (locs : List Loc) (σ : St) (l1 : Int32) (l2 : Int32), x_Model_tellSite_4 n l1 l2 σ = some σ' → lv_has ls 3 [(0, .ref (G.2.1 51)), (1, .int l1), (2, .int l2)] → xw G σ H → va_S (xA G) s.heap H locs → W p l e (headSpec (ws_Model_tellSite) rm_Model_tellSite).room s m ([.ref (G.2.1 51)] : List Value).toArray below meth c H locs 0 0 (MQ below (xQ G none σ') ([.ref (G.2.1 51)] : List Value).toArray s 0 0 (xA G)) (F0 m 4 ls []) := by
    intro n
    induction n with
    | zero => intro ls H locs σ l1 l2 hE; rw [x_Model_tellSite_4] at hE; cases hE
    | succ n ih =>
      intro ls H locs σ l1 l2 hE hl hw hS
      rw [x_Model_tellSite_4] at hE
      refine lv_iload_n hx hb d_Model_tellSite_4 rfl (lv_at hl 2 rfl) ?_
      refine lv_bipush (v := (8 : Int32)) hx hb d_Model_tellSite_5 (by decide) ?_
      refine lv_icmp_ge (tgt := 33) hx hb d_Model_tellSite_7 (by decide) (fun hc7 => ?_) (fun hc7 => ?_)
      · rw [if_pos hc7] at hE
        refine lv_aload_n hx hb d_Model_tellSite_33 rfl (lv_at hl 0 rfl) ?_
        refine lv_sipush (v := (200 : Int32)) hx hb d_Model_tellSite_34 (by decide) ?_
        refine lv_iload_n hx hb d_Model_tellSite_37 rfl (lv_at hl 1 rfl) ?_
        refine lv_iconst (v := ((-1) : Int32)) hx hb d_Model_tellSite_38 (by decide) ?_
        refine lv_iconst (v := ((-1) : Int32)) hx hb d_Model_tellSite_39 (by decide) ?_
        refine lv_iconst (v := (0 : Int32)) hx hb d_Model_tellSite_40 (by decide) ?_
        refine lv_iconst (v := (0 : Int32)) hx hb d_Model_tellSite_41 (by decide) ?_
        obtain ⟨s42, hC42, hE⟩ := x_bind hE
        refine x_callV hS (W.runV (As := [.int (200 : Int32), .int l1, .int ((-1) : Int32), .int ((-1) : Int32), .int (0 : Int32), .int (0 : Int32)]) (rest := []) ⟨hx, hb, hml, hown, hu⟩ (t_Model_respond l G σ (200 : Int32) l1 ((-1) : Int32) ((-1) : Int32) (0 : Int32) (0 : Int32) s42 hC42) (cwV 6 hu (uw_V mw_1203 mw_1205 mw_26 mw_70 mw_1206) rfl rfl rfl hd_Model_respond ⟨Nat.le_of_ble_eq_true rfl, Nat.le_of_ble_eq_true rfl⟩) (x_preV hC hS hw (va_recv hK hw (q := (R_Model, T_Model, 33)) (ci := 10) rfl (x_at (by decide) (xcl_51 G σ)))) rfl rfl hl.1 rfl (lv_room (Nat.le_of_ble_eq_true rfl)) d_Model_tellSite_42 ⟨Nat.le_of_ble_eq_true rfl, Nat.le_of_ble_eq_true rfl⟩) (fun H locs hw hS => ?_)
        refine lv_iconst (v := (0 : Int32)) hx hb d_Model_tellSite_45 (by decide) ?_
        refine lv_istore_n hx hb d_Model_tellSite_46 rfl hl (by decide) rfl (fun ls hl => ?_)
        have hl : lv_has ls 3 [(2, .int (0 : Int32)), (0, .ref (G.2.1 51)), (1, .int l1)] := hl
        exact jn47 x_fuel _ _ _ _ _ hE (lv_sub hl [1, 0] rfl) hw hS
      · rw [if_neg hc7] at hE
        refine lv_aload_n hx hb d_Model_tellSite_10 rfl (lv_at hl 0 rfl) ?_
        refine va_get (D := G.1) (cl := xCl) (ci := 10) (v := .ref (G.2.1 53)) (C := R_Model) (T := T_Model) (N := 33) hx hb hu fi_Model hown hK hw 51 (x_at (by decide) (xcl_51 G σ)) rfl 2 (by decide) (hu _ mw_1070) (fun _ h9 => h9) rfl d_Model_tellSite_11 ?_
        refine lv_iload_n hx hb d_Model_tellSite_14 rfl (lv_at hl 2 rfl) ?_
        obtain ⟨g15, hE⟩ := x_guard hE
        refine va_zald hx hb hK hw 53 1 (x_at (by decide) (xcl_53 G σ)) rfl g15 d_Model_tellSite_15 ?_
        refine lv_if_eq (tgt := 25) hx hb d_Model_tellSite_16 (by decide) (fun hc16 => ?_) (fun hc16 => ?_)
        · rw [if_pos hc16] at hE
          refine lv_iload_n hx hb d_Model_tellSite_25 rfl (lv_at hl 1 rfl) ?_
          exact jn26 _ ih _ _ _ _ _ _ hE (lv_sub hl [0, 2] rfl) hw hS
        · rw [if_neg hc16] at hE
          refine lv_iload_n hx hb d_Model_tellSite_19 rfl (lv_at hl 1 rfl) ?_
          refine lv_iconst (v := (1 : Int32)) hx hb d_Model_tellSite_20 (by decide) ?_
          refine lv_iadd hx hb d_Model_tellSite_21 ?_
          refine lv_goto (tgt := 26) hx hb d_Model_tellSite_22 (by decide) ?_
          exact jn26 _ ih _ _ _ _ _ _ hE (lv_sub hl [0, 2] rfl) hw hS
  have hl := lv_entry ([.ref (G.2.1 51)]) (n := 3) (Nat.le_of_ble_eq_true rfl)
  rw [lg_entry_eq]
  generalize (lg_sl ([.ref (G.2.1 51)]) ++ List.replicate (3 - (lg_sl ([.ref (G.2.1 51)])).length) Slot.unset).toArray = ls at hl ⊢
  have hl : lv_has ls 3 [(0, .ref (G.2.1 51))] := hl
  unfold x_Model_tellSite at hE
  refine lv_iconst (v := (0 : Int32)) hx hb d_Model_tellSite_0 (by decide) ?_
  refine lv_istore_n hx hb d_Model_tellSite_1 rfl hl (by decide) rfl (fun ls hl => ?_)
  have hl : lv_has ls 3 [(1, .int (0 : Int32)), (0, .ref (G.2.1 51))] := hl
  refine lv_iconst (v := (0 : Int32)) hx hb d_Model_tellSite_2 (by decide) ?_
  refine lv_istore_n hx hb d_Model_tellSite_3 rfl hl (by decide) rfl (fun ls hl => ?_)
  have hl : lv_has ls 3 [(2, .int (0 : Int32)), (1, .int (0 : Int32)), (0, .ref (G.2.1 51))] := hl
  exact jn4 x_fuel _ _ _ _ _ _ hE (lv_sub hl [2, 1, 0] rfl) hw hS

def y_Model_isKnown : MethodName := ⟨"PlainOriginModel", "isKnown", "(I)Z"⟩
def ws_Model_isKnown : List Cond := Cond.code y_Model_isKnown prog_14_method_44_code 8 (some .boolean) :: UW
theorem hd_Model_isKnown : y_Model_isKnown.cls = R_Model ∧ y_Model_isKnown.cls ≠ "java/lang/invoke/MethodHandle" ∧ y_Model_isKnown.cls ≠ "java/lang/invoke/VarHandle" ∧ (parseMethodDescriptor y_Model_isKnown.desc).map (fun d => d.parameters.length) = some 1 := by decide +kernel
theorem d_Model_isKnown_0 : decode prog_14_method_44_code 0 = .ok (.aload_n 0, 1) := by decide +kernel
theorem d_Model_isKnown_1 : decode prog_14_method_44_code 1 = .ok (.bipush (56), 2) := by decide +kernel
theorem d_Model_isKnown_3 : decode prog_14_method_44_code 3 = .ok (.invokevirtual 270, 3) := by decide +kernel
theorem d_Model_isKnown_6 : decode prog_14_method_44_code 6 = .ok (.iconst 0, 1) := by decide +kernel
theorem d_Model_isKnown_7 : decode prog_14_method_44_code 7 = .ok (.istore_n 2, 1) := by decide +kernel
theorem d_Model_isKnown_8 : decode prog_14_method_44_code 8 = .ok (.iconst 0, 1) := by decide +kernel
theorem d_Model_isKnown_9 : decode prog_14_method_44_code 9 = .ok (.istore_n 3, 1) := by decide +kernel
theorem d_Model_isKnown_10 : decode prog_14_method_44_code 10 = .ok (.iload_n 3, 1) := by decide +kernel
theorem d_Model_isKnown_11 : decode prog_14_method_44_code 11 = .ok (.aload_n 0, 1) := by decide +kernel
theorem d_Model_isKnown_12 : decode prog_14_method_44_code 12 = .ok (.getfield 263, 3) := by decide +kernel
theorem d_Model_isKnown_15 : decode prog_14_method_44_code 15 = .ok (.if_icmp .ge (150), 3) := by decide +kernel
theorem d_Model_isKnown_18 : decode prog_14_method_44_code 18 = .ok (.aload_n 0, 1) := by decide +kernel
theorem d_Model_isKnown_19 : decode prog_14_method_44_code 19 = .ok (.getfield 130, 3) := by decide +kernel
theorem d_Model_isKnown_22 : decode prog_14_method_44_code 22 = .ok (.iload_n 3, 1) := by decide +kernel
theorem d_Model_isKnown_23 : decode prog_14_method_44_code 23 = .ok (.iaload, 1) := by decide +kernel
theorem d_Model_isKnown_24 : decode prog_14_method_44_code 24 = .ok (.istore 4, 2) := by decide +kernel
theorem d_Model_isKnown_26 : decode prog_14_method_44_code 26 = .ok (.aload_n 0, 1) := by decide +kernel
theorem d_Model_isKnown_27 : decode prog_14_method_44_code 27 = .ok (.getfield 133, 3) := by decide +kernel
theorem d_Model_isKnown_30 : decode prog_14_method_44_code 30 = .ok (.iload_n 3, 1) := by decide +kernel
theorem d_Model_isKnown_31 : decode prog_14_method_44_code 31 = .ok (.iaload, 1) := by decide +kernel
theorem d_Model_isKnown_32 : decode prog_14_method_44_code 32 = .ok (.istore 5, 2) := by decide +kernel
theorem d_Model_isKnown_34 : decode prog_14_method_44_code 34 = .ok (.iload 5, 2) := by decide +kernel
theorem d_Model_isKnown_36 : decode prog_14_method_44_code 36 = .ok (.iload 4, 2) := by decide +kernel
theorem d_Model_isKnown_38 : decode prog_14_method_44_code 38 = .ok (.isub, 1) := by decide +kernel
theorem d_Model_isKnown_39 : decode prog_14_method_44_code 39 = .ok (.iconst 1, 1) := by decide +kernel
theorem d_Model_isKnown_40 : decode prog_14_method_44_code 40 = .ok (.if_icmp .ne (19), 3) := by decide +kernel
theorem d_Model_isKnown_43 : decode prog_14_method_44_code 43 = .ok (.aload_n 0, 1) := by decide +kernel
theorem d_Model_isKnown_44 : decode prog_14_method_44_code 44 = .ok (.getfield 118, 3) := by decide +kernel
theorem d_Model_isKnown_47 : decode prog_14_method_44_code 47 = .ok (.iload 4, 2) := by decide +kernel
theorem d_Model_isKnown_49 : decode prog_14_method_44_code 49 = .ok (.iaload, 1) := by decide +kernel
theorem d_Model_isKnown_50 : decode prog_14_method_44_code 50 = .ok (.bipush (42), 2) := by decide +kernel
theorem d_Model_isKnown_52 : decode prog_14_method_44_code 52 = .ok (.if_icmp .ne (7), 3) := by decide +kernel
theorem d_Model_isKnown_55 : decode prog_14_method_44_code 55 = .ok (.iconst 1, 1) := by decide +kernel
theorem d_Model_isKnown_56 : decode prog_14_method_44_code 56 = .ok (.goto (4), 3) := by decide +kernel
theorem d_Model_isKnown_59 : decode prog_14_method_44_code 59 = .ok (.iconst 0, 1) := by decide +kernel
theorem d_Model_isKnown_60 : decode prog_14_method_44_code 60 = .ok (.istore 6, 2) := by decide +kernel
theorem d_Model_isKnown_62 : decode prog_14_method_44_code 62 = .ok (.iload 5, 2) := by decide +kernel
theorem d_Model_isKnown_64 : decode prog_14_method_44_code 64 = .ok (.iload 4, 2) := by decide +kernel
theorem d_Model_isKnown_66 : decode prog_14_method_44_code 66 = .ok (.isub, 1) := by decide +kernel
theorem d_Model_isKnown_67 : decode prog_14_method_44_code 67 = .ok (.iconst 2, 1) := by decide +kernel
theorem d_Model_isKnown_68 : decode prog_14_method_44_code 68 = .ok (.if_icmp .le (68), 3) := by decide +kernel
theorem d_Model_isKnown_71 : decode prog_14_method_44_code 71 = .ok (.aload_n 0, 1) := by decide +kernel
theorem d_Model_isKnown_72 : decode prog_14_method_44_code 72 = .ok (.getfield 118, 3) := by decide +kernel
theorem d_Model_isKnown_75 : decode prog_14_method_44_code 75 = .ok (.iload 4, 2) := by decide +kernel
theorem d_Model_isKnown_77 : decode prog_14_method_44_code 77 = .ok (.iaload, 1) := by decide +kernel
theorem d_Model_isKnown_78 : decode prog_14_method_44_code 78 = .ok (.bipush (34), 2) := by decide +kernel
theorem d_Model_isKnown_80 : decode prog_14_method_44_code 80 = .ok (.if_icmp .ne (56), 3) := by decide +kernel
theorem d_Model_isKnown_83 : decode prog_14_method_44_code 83 = .ok (.aload_n 0, 1) := by decide +kernel
theorem d_Model_isKnown_84 : decode prog_14_method_44_code 84 = .ok (.getfield 118, 3) := by decide +kernel
theorem d_Model_isKnown_87 : decode prog_14_method_44_code 87 = .ok (.iload 5, 2) := by decide +kernel
theorem d_Model_isKnown_89 : decode prog_14_method_44_code 89 = .ok (.iconst 1, 1) := by decide +kernel
theorem d_Model_isKnown_90 : decode prog_14_method_44_code 90 = .ok (.isub, 1) := by decide +kernel
theorem d_Model_isKnown_91 : decode prog_14_method_44_code 91 = .ok (.iaload, 1) := by decide +kernel
theorem d_Model_isKnown_92 : decode prog_14_method_44_code 92 = .ok (.bipush (34), 2) := by decide +kernel
theorem d_Model_isKnown_94 : decode prog_14_method_44_code 94 = .ok (.if_icmp .ne (42), 3) := by decide +kernel
theorem d_Model_isKnown_97 : decode prog_14_method_44_code 97 = .ok (.aload_n 0, 1) := by decide +kernel
theorem d_Model_isKnown_98 : decode prog_14_method_44_code 98 = .ok (.getfield 118, 3) := by decide +kernel
theorem d_Model_isKnown_101 : decode prog_14_method_44_code 101 = .ok (.iload 4, 2) := by decide +kernel
theorem d_Model_isKnown_103 : decode prog_14_method_44_code 103 = .ok (.iconst 1, 1) := by decide +kernel
theorem d_Model_isKnown_104 : decode prog_14_method_44_code 104 = .ok (.iadd, 1) := by decide +kernel
theorem d_Model_isKnown_105 : decode prog_14_method_44_code 105 = .ok (.iaload, 1) := by decide +kernel
theorem d_Model_isKnown_106 : decode prog_14_method_44_code 106 = .ok (.bipush (48), 2) := by decide +kernel
theorem d_Model_isKnown_108 : decode prog_14_method_44_code 108 = .ok (.if_icmp .eq (28), 3) := by decide +kernel
theorem d_Model_isKnown_111 : decode prog_14_method_44_code 111 = .ok (.aload_n 0, 1) := by decide +kernel
theorem d_Model_isKnown_112 : decode prog_14_method_44_code 112 = .ok (.iload 4, 2) := by decide +kernel
theorem d_Model_isKnown_114 : decode prog_14_method_44_code 114 = .ok (.iconst 1, 1) := by decide +kernel
theorem d_Model_isKnown_115 : decode prog_14_method_44_code 115 = .ok (.iadd, 1) := by decide +kernel
theorem d_Model_isKnown_116 : decode prog_14_method_44_code 116 = .ok (.iload 5, 2) := by decide +kernel
theorem d_Model_isKnown_118 : decode prog_14_method_44_code 118 = .ok (.iconst 1, 1) := by decide +kernel
theorem d_Model_isKnown_119 : decode prog_14_method_44_code 119 = .ok (.isub, 1) := by decide +kernel
theorem d_Model_isKnown_120 : decode prog_14_method_44_code 120 = .ok (.invokevirtual 276, 3) := by decide +kernel
theorem d_Model_isKnown_123 : decode prog_14_method_44_code 123 = .ok (.aload_n 0, 1) := by decide +kernel
theorem d_Model_isKnown_124 : decode prog_14_method_44_code 124 = .ok (.getfield 91, 3) := by decide +kernel
theorem d_Model_isKnown_127 : decode prog_14_method_44_code 127 = .ok (.iload_n 1, 1) := by decide +kernel
theorem d_Model_isKnown_128 : decode prog_14_method_44_code 128 = .ok (.iaload, 1) := by decide +kernel
theorem d_Model_isKnown_129 : decode prog_14_method_44_code 129 = .ok (.if_icmp .ne (7), 3) := by decide +kernel
theorem d_Model_isKnown_132 : decode prog_14_method_44_code 132 = .ok (.iconst 1, 1) := by decide +kernel
theorem d_Model_isKnown_133 : decode prog_14_method_44_code 133 = .ok (.goto (4), 3) := by decide +kernel
theorem d_Model_isKnown_136 : decode prog_14_method_44_code 136 = .ok (.iconst 0, 1) := by decide +kernel
theorem d_Model_isKnown_137 : decode prog_14_method_44_code 137 = .ok (.istore 7, 2) := by decide +kernel
theorem d_Model_isKnown_139 : decode prog_14_method_44_code 139 = .ok (.iload_n 2, 1) := by decide +kernel
theorem d_Model_isKnown_140 : decode prog_14_method_44_code 140 = .ok (.ifCond .ne (13), 3) := by decide +kernel
theorem d_Model_isKnown_143 : decode prog_14_method_44_code 143 = .ok (.iload 6, 2) := by decide +kernel
theorem d_Model_isKnown_145 : decode prog_14_method_44_code 145 = .ok (.ifCond .ne (8), 3) := by decide +kernel
theorem d_Model_isKnown_148 : decode prog_14_method_44_code 148 = .ok (.iload 7, 2) := by decide +kernel
theorem d_Model_isKnown_150 : decode prog_14_method_44_code 150 = .ok (.ifCond .eq (7), 3) := by decide +kernel
theorem d_Model_isKnown_153 : decode prog_14_method_44_code 153 = .ok (.iconst 1, 1) := by decide +kernel
theorem d_Model_isKnown_154 : decode prog_14_method_44_code 154 = .ok (.goto (4), 3) := by decide +kernel
theorem d_Model_isKnown_157 : decode prog_14_method_44_code 157 = .ok (.iconst 0, 1) := by decide +kernel
theorem d_Model_isKnown_158 : decode prog_14_method_44_code 158 = .ok (.istore_n 2, 1) := by decide +kernel
theorem d_Model_isKnown_159 : decode prog_14_method_44_code 159 = .ok (.iinc 3 (1), 3) := by decide +kernel
theorem d_Model_isKnown_162 : decode prog_14_method_44_code 162 = .ok (.goto (-152), 3) := by decide +kernel
theorem d_Model_isKnown_165 : decode prog_14_method_44_code 165 = .ok (.iload_n 2, 1) := by decide +kernel
theorem d_Model_isKnown_166 : decode prog_14_method_44_code 166 = .ok (.ireturn, 1) := by decide +kernel
def x_Model_isKnown_158 (a1 : Int32) (bk10 : Int32 → Int32 → St → Option (Int32 × St)) (l3 : Int32) (k0 : Int32) (σ : St) : Option (Int32 × St) := (x_let (l3 + (1 : Int32)) (fun (v159 : Int32) => bk10 k0 v159 σ))
def x_Model_isKnown_153 (a1 : Int32) (bk10 : Int32 → Int32 → St → Option (Int32 × St)) (l3 : Int32) (σ : St) : Option (Int32 × St) := x_Model_isKnown_158 a1 bk10 l3 (1 : Int32) σ
def x_Model_isKnown_137 (a1 : Int32) (bk10 : Int32 → Int32 → St → Option (Int32 × St)) (l2 : Int32) (l3 : Int32) (l6 : Int32) (k0 : Int32) (σ : St) : Option (Int32 × St) := (if l2 = 0 then (if l6 = 0 then (if k0 = 0 then x_Model_isKnown_158 a1 bk10 l3 (0 : Int32) σ else x_Model_isKnown_153 a1 bk10 l3 σ) else x_Model_isKnown_153 a1 bk10 l3 σ) else x_Model_isKnown_153 a1 bk10 l3 σ)
def x_Model_isKnown_136 (a1 : Int32) (bk10 : Int32 → Int32 → St → Option (Int32 × St)) (l2 : Int32) (l3 : Int32) (l6 : Int32) (σ : St) : Option (Int32 × St) := x_Model_isKnown_137 a1 bk10 l2 l3 l6 (0 : Int32) σ
def x_Model_isKnown_60 (a1 : Int32) (bk10 : Int32 → Int32 → St → Option (Int32 × St)) (l2 : Int32) (l3 : Int32) (l4 : Int32) (l5 : Int32) (k0 : Int32) (σ : St) : Option (Int32 × St) := (if (l5 - l4) ≤ (2 : Int32) then x_Model_isKnown_136 a1 bk10 l2 l3 k0 σ else (if x_in l4 960 then (if (σ.2.1 59 l4.toNatClampNeg) = (34 : Int32) then (if x_in (l5 - (1 : Int32)) 960 then (if (σ.2.1 59 (l5 - (1 : Int32)).toNatClampNeg) = (34 : Int32) then (if x_in (l4 + (1 : Int32)) 960 then (if (σ.2.1 59 (l4 + (1 : Int32)).toNatClampNeg) = (48 : Int32) then x_Model_isKnown_136 a1 bk10 l2 l3 k0 σ else (Option.bind (x_Model_numberAt (l4 + (1 : Int32)) (l5 - (1 : Int32)) σ) (fun r120 => (if x_in a1 8 then (if r120 = (σ.2.1 54 a1.toNatClampNeg) then x_Model_isKnown_137 a1 bk10 l2 l3 k0 (1 : Int32) σ else x_Model_isKnown_136 a1 bk10 l2 l3 k0 σ) else none)))) else none) else x_Model_isKnown_136 a1 bk10 l2 l3 k0 σ) else none) else x_Model_isKnown_136 a1 bk10 l2 l3 k0 σ) else none))
def x_Model_isKnown_59 (a1 : Int32) (bk10 : Int32 → Int32 → St → Option (Int32 × St)) (l2 : Int32) (l3 : Int32) (l4 : Int32) (l5 : Int32) (σ : St) : Option (Int32 × St) := x_Model_isKnown_60 a1 bk10 l2 l3 l4 l5 (0 : Int32) σ
def x_Model_isKnown_10 (a1 : Int32) : Nat → Int32 → Int32 → St → Option (Int32 × St)
  | 0, _, _, _ => none
  | n + 1, l2, l3, σ => (if (σ.1 51 26) ≤ l3 then (if x_bit l2 then some (l2, σ) else none) else (if x_in l3 512 then (x_let (σ.2.1 63 l3.toNatClampNeg) (fun (v24 : Int32) => (if x_in l3 512 then (x_let (σ.2.1 64 l3.toNatClampNeg) (fun (v32 : Int32) => (if (v32 - v24) = (1 : Int32) then (if x_in v24 960 then (if (σ.2.1 59 v24.toNatClampNeg) = (42 : Int32) then x_Model_isKnown_60 a1 (x_Model_isKnown_10 a1 n) l2 l3 v24 v32 (1 : Int32) σ else x_Model_isKnown_59 a1 (x_Model_isKnown_10 a1 n) l2 l3 v24 v32 σ) else none) else x_Model_isKnown_59 a1 (x_Model_isKnown_10 a1 n) l2 l3 v24 v32 σ))) else none))) else none))
def x_Model_isKnown (a1 : Int32) (σ : St) : Option (Int32 × St) := (Option.bind (x_Model_list (56 : Int32) σ) (fun s3 => x_Model_isKnown_10 a1 x_fuel (0 : Int32) (0 : Int32) s3))
abbrev rm_Model_isKnown : Room := { frames := 5, cells := 0, slots := 0, locals := 113 }
set_option maxHeartbeats 4000000 in
set_option maxRecDepth 100000 in
theorem t_Model_isKnown (l : Launch) (G : xG) (σ : St) (a1 : Int32) (r : Int32) (σ' : St) (hE : x_Model_isKnown a1 σ = some (r, σ')) : Met l y_Model_isKnown (ws_Model_isKnown) rm_Model_isKnown (xP G σ [.ref (G.2.1 51), .int a1]) (xQ G (some (.int r)) σ') 0 0 (xA G) := by
  refine Met.ofW (cc := prog_14_method_44_code) (maxL := 8) (ret := (some .boolean)) (by decide) rfl ?_
  intro p e s m args below meth c s₁ B hml hv
  obtain ⟨rfl, hw, hC⟩ := hv
  have hx := B.exec
  have hb := B.bytes
  have hr := B.returns
  have hu : ∀ w ∈ UW, w.before _ s = true := fun w h => atoms_spec B.pre w (List.mem_cons_of_mem _ h)
  have hown : s.vm.findClass R_Model = some m.cls := findClass_of_methodNamed B.named
  have hlocks := B.notSynchronized
  have hK := hC.1
  have hI := hC.2.1
  have hG := hC.2.2.1
  have hN := hC.2.2.2
  have hS : va_S (xA G) s.heap s.heap [] := va_S.rf
  have jn158 : ∀ (bk10 : Int32 → Int32 → St → Option (Int32 × St)) (hbk10 : ∀ (ls : Array Slot) (H : Heap) (locs : List Loc) (σ : St) (l2 : Int32) (l3 : Int32), bk10 l2 l3 σ = some (r, σ') → lv_has ls 8 [(0, .ref (G.2.1 51)), (1, .int a1), (2, .int l2), (3, .int l3)] → xw G σ H → va_S (xA G) s.heap H locs → W p l e (headSpec (ws_Model_isKnown) rm_Model_isKnown).room s m ([.ref (G.2.1 51), .int a1] : List Value).toArray below meth c H locs 0 0 (MQ below (xQ G (some (.int r)) σ') ([.ref (G.2.1 51), .int a1] : List Value).toArray s 0 0 (xA G)) (F0 m 10 ls [])) (ls : Array Slot) (H : Heap) (locs : List Loc) (σ : St) (l3 : Int32) (k0 : Int32), x_Model_isKnown_158 a1 bk10 l3 k0 σ = some (r, σ') → lv_has ls 8 [(0, .ref (G.2.1 51)), (1, .int a1), (3, .int l3)] → xw G σ H → va_S (xA G) s.heap H locs → W p l e (headSpec (ws_Model_isKnown) rm_Model_isKnown).room s m ([.ref (G.2.1 51), .int a1] : List Value).toArray below meth c H locs 0 0 (MQ below (xQ G (some (.int r)) σ') ([.ref (G.2.1 51), .int a1] : List Value).toArray s 0 0 (xA G)) (F0 m 158 ls [.int k0]) := by
    intro bk10 hbk10 ls H locs σ l3 k0 hE hl hw hS
    unfold x_Model_isKnown_158 at hE
    refine lv_istore_n hx hb d_Model_isKnown_158 rfl hl (by decide) rfl (fun ls hl => ?_)
    have hl : lv_has ls 8 [(2, .int k0), (0, .ref (G.2.1 51)), (1, .int a1), (3, .int l3)] := hl
    obtain ⟨v159, e159, hE⟩ := x_letE hE
    refine lv_iinc hx hb d_Model_isKnown_159 hl (k := 3) rfl (x_inc v159 e159 (by decide)) (by decide) rfl (fun ls hl => ?_)
    have hl : lv_has ls 8 [(3, .int v159), (2, .int k0), (0, .ref (G.2.1 51)), (1, .int a1)] := hl
    refine lv_goto (tgt := 10) hx hb d_Model_isKnown_162 (by decide) ?_
    exact hbk10 _ _ _ _ _ _ hE (lv_sub hl [2, 3, 1, 0] rfl) hw hS
  have jn153 : ∀ (bk10 : Int32 → Int32 → St → Option (Int32 × St)) (hbk10 : ∀ (ls : Array Slot) (H : Heap) (locs : List Loc) (σ : St) (l2 : Int32) (l3 : Int32), bk10 l2 l3 σ = some (r, σ') → lv_has ls 8 [(0, .ref (G.2.1 51)), (1, .int a1), (2, .int l2), (3, .int l3)] → xw G σ H → va_S (xA G) s.heap H locs → W p l e (headSpec (ws_Model_isKnown) rm_Model_isKnown).room s m ([.ref (G.2.1 51), .int a1] : List Value).toArray below meth c H locs 0 0 (MQ below (xQ G (some (.int r)) σ') ([.ref (G.2.1 51), .int a1] : List Value).toArray s 0 0 (xA G)) (F0 m 10 ls [])) (ls : Array Slot) (H : Heap) (locs : List Loc) (σ : St) (l3 : Int32), x_Model_isKnown_153 a1 bk10 l3 σ = some (r, σ') → lv_has ls 8 [(0, .ref (G.2.1 51)), (1, .int a1), (3, .int l3)] → xw G σ H → va_S (xA G) s.heap H locs → W p l e (headSpec (ws_Model_isKnown) rm_Model_isKnown).room s m ([.ref (G.2.1 51), .int a1] : List Value).toArray below meth c H locs 0 0 (MQ below (xQ G (some (.int r)) σ') ([.ref (G.2.1 51), .int a1] : List Value).toArray s 0 0 (xA G)) (F0 m 153 ls []) := by
    intro bk10 hbk10 ls H locs σ l3 hE hl hw hS
    unfold x_Model_isKnown_153 at hE
    refine lv_iconst (v := (1 : Int32)) hx hb d_Model_isKnown_153 (by decide) ?_
    refine lv_goto (tgt := 158) hx hb d_Model_isKnown_154 (by decide) ?_
    exact jn158 _ hbk10 _ _ _ _ _ _ hE (lv_sub hl [0, 1, 2] rfl) hw hS
  have jn137 : ∀ (bk10 : Int32 → Int32 → St → Option (Int32 × St)) (hbk10 : ∀ (ls : Array Slot) (H : Heap) (locs : List Loc) (σ : St) (l2 : Int32) (l3 : Int32), bk10 l2 l3 σ = some (r, σ') → lv_has ls 8 [(0, .ref (G.2.1 51)), (1, .int a1), (2, .int l2), (3, .int l3)] → xw G σ H → va_S (xA G) s.heap H locs → W p l e (headSpec (ws_Model_isKnown) rm_Model_isKnown).room s m ([.ref (G.2.1 51), .int a1] : List Value).toArray below meth c H locs 0 0 (MQ below (xQ G (some (.int r)) σ') ([.ref (G.2.1 51), .int a1] : List Value).toArray s 0 0 (xA G)) (F0 m 10 ls [])) (ls : Array Slot) (H : Heap) (locs : List Loc) (σ : St) (l2 : Int32) (l3 : Int32) (l6 : Int32) (k0 : Int32), x_Model_isKnown_137 a1 bk10 l2 l3 l6 k0 σ = some (r, σ') → lv_has ls 8 [(0, .ref (G.2.1 51)), (1, .int a1), (2, .int l2), (3, .int l3), (6, .int l6)] → xw G σ H → va_S (xA G) s.heap H locs → W p l e (headSpec (ws_Model_isKnown) rm_Model_isKnown).room s m ([.ref (G.2.1 51), .int a1] : List Value).toArray below meth c H locs 0 0 (MQ below (xQ G (some (.int r)) σ') ([.ref (G.2.1 51), .int a1] : List Value).toArray s 0 0 (xA G)) (F0 m 137 ls [.int k0]) := by
    intro bk10 hbk10 ls H locs σ l2 l3 l6 k0 hE hl hw hS
    unfold x_Model_isKnown_137 at hE
    refine lv_istore hx hb d_Model_isKnown_137 hl (by decide) rfl (fun ls hl => ?_)
    have hl : lv_has ls 8 [(7, .int k0), (0, .ref (G.2.1 51)), (1, .int a1), (2, .int l2), (3, .int l3), (6, .int l6)] := hl
    refine lv_iload_n hx hb d_Model_isKnown_139 rfl (lv_at hl 3 rfl) ?_
    refine lv_if_ne (tgt := 153) hx hb d_Model_isKnown_140 (by decide) (fun hc140 => ?_) (fun hc140 => ?_)
    · rw [if_neg hc140] at hE
      exact jn153 _ hbk10 _ _ _ _ _ hE (lv_sub hl [1, 2, 4] rfl) hw hS
    · rw [if_pos hc140] at hE
      refine lv_iload hx hb d_Model_isKnown_143 (lv_at hl 5 rfl) ?_
      refine lv_if_ne (tgt := 153) hx hb d_Model_isKnown_145 (by decide) (fun hc145 => ?_) (fun hc145 => ?_)
      · rw [if_neg hc145] at hE
        exact jn153 _ hbk10 _ _ _ _ _ hE (lv_sub hl [1, 2, 4] rfl) hw hS
      · rw [if_pos hc145] at hE
        refine lv_iload hx hb d_Model_isKnown_148 (lv_at hl 0 rfl) ?_
        refine lv_if_eq (tgt := 157) hx hb d_Model_isKnown_150 (by decide) (fun hc150 => ?_) (fun hc150 => ?_)
        · rw [if_pos hc150] at hE
          refine lv_iconst (v := (0 : Int32)) hx hb d_Model_isKnown_157 (by decide) ?_
          exact jn158 _ hbk10 _ _ _ _ _ _ hE (lv_sub hl [1, 2, 4] rfl) hw hS
        · rw [if_neg hc150] at hE
          exact jn153 _ hbk10 _ _ _ _ _ hE (lv_sub hl [1, 2, 4] rfl) hw hS
  have jn136 : ∀ (bk10 : Int32 → Int32 → St → Option (Int32 × St)) (hbk10 : ∀ (ls : Array Slot) (H : Heap) (locs : List Loc) (σ : St) (l2 : Int32) (l3 : Int32), bk10 l2 l3 σ = some (r, σ') → lv_has ls 8 [(0, .ref (G.2.1 51)), (1, .int a1), (2, .int l2), (3, .int l3)] → xw G σ H → va_S (xA G) s.heap H locs → W p l e (headSpec (ws_Model_isKnown) rm_Model_isKnown).room s m ([.ref (G.2.1 51), .int a1] : List Value).toArray below meth c H locs 0 0 (MQ below (xQ G (some (.int r)) σ') ([.ref (G.2.1 51), .int a1] : List Value).toArray s 0 0 (xA G)) (F0 m 10 ls [])) (ls : Array Slot) (H : Heap) (locs : List Loc) (σ : St) (l2 : Int32) (l3 : Int32) (l6 : Int32), x_Model_isKnown_136 a1 bk10 l2 l3 l6 σ = some (r, σ') → lv_has ls 8 [(0, .ref (G.2.1 51)), (1, .int a1), (2, .int l2), (3, .int l3), (6, .int l6)] → xw G σ H → va_S (xA G) s.heap H locs → W p l e (headSpec (ws_Model_isKnown) rm_Model_isKnown).room s m ([.ref (G.2.1 51), .int a1] : List Value).toArray below meth c H locs 0 0 (MQ below (xQ G (some (.int r)) σ') ([.ref (G.2.1 51), .int a1] : List Value).toArray s 0 0 (xA G)) (F0 m 136 ls []) := by
    intro bk10 hbk10 ls H locs σ l2 l3 l6 hE hl hw hS
    unfold x_Model_isKnown_136 at hE
    refine lv_iconst (v := (0 : Int32)) hx hb d_Model_isKnown_136 (by decide) ?_
    exact jn137 _ hbk10 _ _ _ _ _ _ _ _ hE (lv_sub hl [0, 1, 2, 3, 4] rfl) hw hS
  have jn60 : ∀ (bk10 : Int32 → Int32 → St → Option (Int32 × St)) (hbk10 : ∀ (ls : Array Slot) (H : Heap) (locs : List Loc) (σ : St) (l2 : Int32) (l3 : Int32), bk10 l2 l3 σ = some (r, σ') → lv_has ls 8 [(0, .ref (G.2.1 51)), (1, .int a1), (2, .int l2), (3, .int l3)] → xw G σ H → va_S (xA G) s.heap H locs → W p l e (headSpec (ws_Model_isKnown) rm_Model_isKnown).room s m ([.ref (G.2.1 51), .int a1] : List Value).toArray below meth c H locs 0 0 (MQ below (xQ G (some (.int r)) σ') ([.ref (G.2.1 51), .int a1] : List Value).toArray s 0 0 (xA G)) (F0 m 10 ls [])) (ls : Array Slot) (H : Heap) (locs : List Loc) (σ : St) (l2 : Int32) (l3 : Int32) (l4 : Int32) (l5 : Int32) (k0 : Int32), x_Model_isKnown_60 a1 bk10 l2 l3 l4 l5 k0 σ = some (r, σ') → lv_has ls 8 [(0, .ref (G.2.1 51)), (1, .int a1), (2, .int l2), (3, .int l3), (4, .int l4), (5, .int l5)] → xw G σ H → va_S (xA G) s.heap H locs → W p l e (headSpec (ws_Model_isKnown) rm_Model_isKnown).room s m ([.ref (G.2.1 51), .int a1] : List Value).toArray below meth c H locs 0 0 (MQ below (xQ G (some (.int r)) σ') ([.ref (G.2.1 51), .int a1] : List Value).toArray s 0 0 (xA G)) (F0 m 60 ls [.int k0]) := by
    intro bk10 hbk10 ls H locs σ l2 l3 l4 l5 k0 hE hl hw hS
    unfold x_Model_isKnown_60 at hE
    refine lv_istore hx hb d_Model_isKnown_60 hl (by decide) rfl (fun ls hl => ?_)
    have hl : lv_has ls 8 [(6, .int k0), (0, .ref (G.2.1 51)), (1, .int a1), (2, .int l2), (3, .int l3), (4, .int l4), (5, .int l5)] := hl
    refine lv_iload hx hb d_Model_isKnown_62 (lv_at hl 6 rfl) ?_
    refine lv_iload hx hb d_Model_isKnown_64 (lv_at hl 5 rfl) ?_
    refine lv_isub hx hb d_Model_isKnown_66 ?_
    refine lv_iconst (v := (2 : Int32)) hx hb d_Model_isKnown_67 (by decide) ?_
    refine lv_icmp_le (tgt := 136) hx hb d_Model_isKnown_68 (by decide) (fun hc68 => ?_) (fun hc68 => ?_)
    · rw [if_pos hc68] at hE
      exact jn136 _ hbk10 _ _ _ _ _ _ _ hE (lv_sub hl [1, 2, 3, 4, 0] rfl) hw hS
    · rw [if_neg hc68] at hE
      refine lv_aload_n hx hb d_Model_isKnown_71 rfl (lv_at hl 1 rfl) ?_
      refine va_get (D := G.1) (cl := xCl) (ci := 10) (v := .ref (G.2.1 59)) (C := R_Model) (T := T_Model) (N := 33) hx hb hu fi_Model hown hK hw 51 (x_at (by decide) (xcl_51 G σ)) rfl 18 (by decide) (hu _ mw_1086) (fun _ h9 => h9) rfl d_Model_isKnown_72 ?_
      refine lv_iload hx hb d_Model_isKnown_75 (lv_at hl 5 rfl) ?_
      obtain ⟨g77, hE⟩ := x_guard hE
      refine va_iald hx hb hK hw 59 0 (x_at (by decide) (xcl_59 G σ)) rfl g77 d_Model_isKnown_77 ?_
      refine lv_bipush (v := (34 : Int32)) hx hb d_Model_isKnown_78 (by decide) ?_
      refine lv_icmp_ne (tgt := 136) hx hb d_Model_isKnown_80 (by decide) (fun hc80 => ?_) (fun hc80 => ?_)
      · rw [if_neg hc80] at hE
        exact jn136 _ hbk10 _ _ _ _ _ _ _ hE (lv_sub hl [1, 2, 3, 4, 0] rfl) hw hS
      · rw [if_pos hc80] at hE
        refine lv_aload_n hx hb d_Model_isKnown_83 rfl (lv_at hl 1 rfl) ?_
        refine va_get (D := G.1) (cl := xCl) (ci := 10) (v := .ref (G.2.1 59)) (C := R_Model) (T := T_Model) (N := 33) hx hb hu fi_Model hown hK hw 51 (x_at (by decide) (xcl_51 G σ)) rfl 18 (by decide) (hu _ mw_1086) (fun _ h9 => h9) rfl d_Model_isKnown_84 ?_
        refine lv_iload hx hb d_Model_isKnown_87 (lv_at hl 6 rfl) ?_
        refine lv_iconst (v := (1 : Int32)) hx hb d_Model_isKnown_89 (by decide) ?_
        refine lv_isub hx hb d_Model_isKnown_90 ?_
        obtain ⟨g91, hE⟩ := x_guard hE
        refine va_iald hx hb hK hw 59 0 (x_at (by decide) (xcl_59 G σ)) rfl g91 d_Model_isKnown_91 ?_
        refine lv_bipush (v := (34 : Int32)) hx hb d_Model_isKnown_92 (by decide) ?_
        refine lv_icmp_ne (tgt := 136) hx hb d_Model_isKnown_94 (by decide) (fun hc94 => ?_) (fun hc94 => ?_)
        · rw [if_neg hc94] at hE
          exact jn136 _ hbk10 _ _ _ _ _ _ _ hE (lv_sub hl [1, 2, 3, 4, 0] rfl) hw hS
        · rw [if_pos hc94] at hE
          refine lv_aload_n hx hb d_Model_isKnown_97 rfl (lv_at hl 1 rfl) ?_
          refine va_get (D := G.1) (cl := xCl) (ci := 10) (v := .ref (G.2.1 59)) (C := R_Model) (T := T_Model) (N := 33) hx hb hu fi_Model hown hK hw 51 (x_at (by decide) (xcl_51 G σ)) rfl 18 (by decide) (hu _ mw_1086) (fun _ h9 => h9) rfl d_Model_isKnown_98 ?_
          refine lv_iload hx hb d_Model_isKnown_101 (lv_at hl 5 rfl) ?_
          refine lv_iconst (v := (1 : Int32)) hx hb d_Model_isKnown_103 (by decide) ?_
          refine lv_iadd hx hb d_Model_isKnown_104 ?_
          obtain ⟨g105, hE⟩ := x_guard hE
          refine va_iald hx hb hK hw 59 0 (x_at (by decide) (xcl_59 G σ)) rfl g105 d_Model_isKnown_105 ?_
          refine lv_bipush (v := (48 : Int32)) hx hb d_Model_isKnown_106 (by decide) ?_
          refine lv_icmp_eq (tgt := 136) hx hb d_Model_isKnown_108 (by decide) (fun hc108 => ?_) (fun hc108 => ?_)
          · rw [if_pos hc108] at hE
            exact jn136 _ hbk10 _ _ _ _ _ _ _ hE (lv_sub hl [1, 2, 3, 4, 0] rfl) hw hS
          · rw [if_neg hc108] at hE
            refine lv_aload_n hx hb d_Model_isKnown_111 rfl (lv_at hl 1 rfl) ?_
            refine lv_iload hx hb d_Model_isKnown_112 (lv_at hl 5 rfl) ?_
            refine lv_iconst (v := (1 : Int32)) hx hb d_Model_isKnown_114 (by decide) ?_
            refine lv_iadd hx hb d_Model_isKnown_115 ?_
            refine lv_iload hx hb d_Model_isKnown_116 (lv_at hl 6 rfl) ?_
            refine lv_iconst (v := (1 : Int32)) hx hb d_Model_isKnown_118 (by decide) ?_
            refine lv_isub hx hb d_Model_isKnown_119 ?_
            obtain ⟨r120, hC120, hE⟩ := x_bind hE
            refine x_callR (W.runV (As := [.int (l4 + (1 : Int32)), .int (l5 - (1 : Int32))]) (rest := []) ⟨hx, hb, hml, hown, hu⟩ (t_Model_numberAt l G σ (l4 + (1 : Int32)) (l5 - (1 : Int32)) r120 hC120) (cwV 2 hu (uw_V mw_1263 mw_1265 mw_41 mw_70 mw_1266) rfl rfl rfl hd_Model_numberAt ⟨Nat.le_of_ble_eq_true rfl, Nat.le_of_ble_eq_true rfl⟩) (x_preV hC hS hw (va_recv hK hw (q := (R_Model, T_Model, 33)) (ci := 10) rfl (x_at (by decide) (xcl_51 G σ)))) rfl rfl hl.1 rfl (lv_room (Nat.le_of_ble_eq_true rfl)) d_Model_isKnown_120 ⟨Nat.le_of_ble_eq_true rfl, Nat.le_of_ble_eq_true rfl⟩) ?_
            refine lv_aload_n hx hb d_Model_isKnown_123 rfl (lv_at hl 1 rfl) ?_
            refine va_get (D := G.1) (cl := xCl) (ci := 10) (v := .ref (G.2.1 54)) (C := R_Model) (T := T_Model) (N := 33) hx hb hu fi_Model hown hK hw 51 (x_at (by decide) (xcl_51 G σ)) rfl 3 (by decide) (hu _ mw_1071) (fun _ h9 => h9) rfl d_Model_isKnown_124 ?_
            refine lv_iload_n hx hb d_Model_isKnown_127 rfl (lv_at hl 2 rfl) ?_
            obtain ⟨g128, hE⟩ := x_guard hE
            refine va_iald hx hb hK hw 54 0 (x_at (by decide) (xcl_54 G σ)) rfl g128 d_Model_isKnown_128 ?_
            refine lv_icmp_ne (tgt := 136) hx hb d_Model_isKnown_129 (by decide) (fun hc129 => ?_) (fun hc129 => ?_)
            · rw [if_neg hc129] at hE
              exact jn136 _ hbk10 _ _ _ _ _ _ _ hE (lv_sub hl [1, 2, 3, 4, 0] rfl) hw hS
            · rw [if_pos hc129] at hE
              refine lv_iconst (v := (1 : Int32)) hx hb d_Model_isKnown_132 (by decide) ?_
              refine lv_goto (tgt := 137) hx hb d_Model_isKnown_133 (by decide) ?_
              exact jn137 _ hbk10 _ _ _ _ _ _ _ _ hE (lv_sub hl [1, 2, 3, 4, 0] rfl) hw hS
  have jn59 : ∀ (bk10 : Int32 → Int32 → St → Option (Int32 × St)) (hbk10 : ∀ (ls : Array Slot) (H : Heap) (locs : List Loc) (σ : St) (l2 : Int32) (l3 : Int32), bk10 l2 l3 σ = some (r, σ') → lv_has ls 8 [(0, .ref (G.2.1 51)), (1, .int a1), (2, .int l2), (3, .int l3)] → xw G σ H → va_S (xA G) s.heap H locs → W p l e (headSpec (ws_Model_isKnown) rm_Model_isKnown).room s m ([.ref (G.2.1 51), .int a1] : List Value).toArray below meth c H locs 0 0 (MQ below (xQ G (some (.int r)) σ') ([.ref (G.2.1 51), .int a1] : List Value).toArray s 0 0 (xA G)) (F0 m 10 ls [])) (ls : Array Slot) (H : Heap) (locs : List Loc) (σ : St) (l2 : Int32) (l3 : Int32) (l4 : Int32) (l5 : Int32), x_Model_isKnown_59 a1 bk10 l2 l3 l4 l5 σ = some (r, σ') → lv_has ls 8 [(0, .ref (G.2.1 51)), (1, .int a1), (2, .int l2), (3, .int l3), (4, .int l4), (5, .int l5)] → xw G σ H → va_S (xA G) s.heap H locs → W p l e (headSpec (ws_Model_isKnown) rm_Model_isKnown).room s m ([.ref (G.2.1 51), .int a1] : List Value).toArray below meth c H locs 0 0 (MQ below (xQ G (some (.int r)) σ') ([.ref (G.2.1 51), .int a1] : List Value).toArray s 0 0 (xA G)) (F0 m 59 ls []) := by
    intro bk10 hbk10 ls H locs σ l2 l3 l4 l5 hE hl hw hS
    unfold x_Model_isKnown_59 at hE
    refine lv_iconst (v := (0 : Int32)) hx hb d_Model_isKnown_59 (by decide) ?_
    exact jn60 _ hbk10 _ _ _ _ _ _ _ _ _ hE (lv_sub hl [0, 1, 2, 3, 4, 5] rfl) hw hS
  have jn10 : ∀ (n : Nat) (ls : Array Slot) (H : Heap) (locs : List Loc) (σ : St) (l2 : Int32) (l3 : Int32), x_Model_isKnown_10 a1 n l2 l3 σ = some (r, σ') → lv_has ls 8 [(0, .ref (G.2.1 51)), (1, .int a1), (2, .int l2), (3, .int l3)] → xw G σ H → va_S (xA G) s.heap H locs → W p l e (headSpec (ws_Model_isKnown) rm_Model_isKnown).room s m ([.ref (G.2.1 51), .int a1] : List Value).toArray below meth c H locs 0 0 (MQ below (xQ G (some (.int r)) σ') ([.ref (G.2.1 51), .int a1] : List Value).toArray s 0 0 (xA G)) (F0 m 10 ls []) := by
    intro n
    induction n with
    | zero => intro ls H locs σ l2 l3 hE; rw [x_Model_isKnown_10] at hE; cases hE
    | succ n ih =>
      intro ls H locs σ l2 l3 hE hl hw hS
      rw [x_Model_isKnown_10] at hE
      refine lv_iload_n hx hb d_Model_isKnown_10 rfl (lv_at hl 3 rfl) ?_
      refine lv_aload_n hx hb d_Model_isKnown_11 rfl (lv_at hl 0 rfl) ?_
      refine va_get (D := G.1) (cl := xCl) (ci := 10) (v := .int (σ.1 51 26)) (C := R_Model) (T := T_Model) (N := 33) hx hb hu fi_Model hown hK hw 51 (x_at (by decide) (xcl_51 G σ)) rfl 26 (by decide) (hu _ mw_1094) (fun _ h9 => h9) rfl d_Model_isKnown_12 ?_
      refine lv_icmp_ge (tgt := 165) hx hb d_Model_isKnown_15 (by decide) (fun hc15 => ?_) (fun hc15 => ?_)
      · rw [if_pos hc15] at hE
        refine lv_iload_n hx hb d_Model_isKnown_165 rfl (lv_at hl 2 rfl) ?_
        obtain ⟨g166, hE⟩ := x_guard hE
        obtain ⟨e1, e2⟩ := x_pair hE
        exact W.zret (v := l2) hx hb hr (x_nz g166) (fun t ht hW => ⟨by rw [e1], by rw [ht, ← e2]; exact hw, hS.F ht⟩) hS.2.2 d_Model_isKnown_166
      · rw [if_neg hc15] at hE
        refine lv_aload_n hx hb d_Model_isKnown_18 rfl (lv_at hl 0 rfl) ?_
        refine va_get (D := G.1) (cl := xCl) (ci := 10) (v := .ref (G.2.1 63)) (C := R_Model) (T := T_Model) (N := 33) hx hb hu fi_Model hown hK hw 51 (x_at (by decide) (xcl_51 G σ)) rfl 27 (by decide) (hu _ mw_1095) (fun _ h9 => h9) rfl d_Model_isKnown_19 ?_
        refine lv_iload_n hx hb d_Model_isKnown_22 rfl (lv_at hl 3 rfl) ?_
        obtain ⟨g23, hE⟩ := x_guard hE
        refine va_iald hx hb hK hw 63 0 (x_at (by decide) (xcl_63 G σ)) rfl g23 d_Model_isKnown_23 ?_
        refine lv_topi (fun v24 e24 => ?_)
        replace hE := x_letT e24 hE
        refine lv_istore hx hb d_Model_isKnown_24 hl (by decide) rfl (fun ls hl => ?_)
        have hl : lv_has ls 8 [(4, .int v24), (0, .ref (G.2.1 51)), (1, .int a1), (2, .int l2), (3, .int l3)] := hl
        refine lv_aload_n hx hb d_Model_isKnown_26 rfl (lv_at hl 1 rfl) ?_
        refine va_get (D := G.1) (cl := xCl) (ci := 10) (v := .ref (G.2.1 64)) (C := R_Model) (T := T_Model) (N := 33) hx hb hu fi_Model hown hK hw 51 (x_at (by decide) (xcl_51 G σ)) rfl 28 (by decide) (hu _ mw_1096) (fun _ h9 => h9) rfl d_Model_isKnown_27 ?_
        refine lv_iload_n hx hb d_Model_isKnown_30 rfl (lv_at hl 4 rfl) ?_
        obtain ⟨g31, hE⟩ := x_guard hE
        refine va_iald hx hb hK hw 64 0 (x_at (by decide) (xcl_64 G σ)) rfl g31 d_Model_isKnown_31 ?_
        refine lv_topi (fun v32 e32 => ?_)
        replace hE := x_letT e32 hE
        refine lv_istore hx hb d_Model_isKnown_32 hl (by decide) rfl (fun ls hl => ?_)
        have hl : lv_has ls 8 [(5, .int v32), (4, .int v24), (0, .ref (G.2.1 51)), (1, .int a1), (2, .int l2), (3, .int l3)] := hl
        refine lv_iload hx hb d_Model_isKnown_34 (lv_at hl 0 rfl) ?_
        refine lv_iload hx hb d_Model_isKnown_36 (lv_at hl 1 rfl) ?_
        refine lv_isub hx hb d_Model_isKnown_38 ?_
        refine lv_iconst (v := (1 : Int32)) hx hb d_Model_isKnown_39 (by decide) ?_
        refine lv_icmp_ne (tgt := 59) hx hb d_Model_isKnown_40 (by decide) (fun hc40 => ?_) (fun hc40 => ?_)
        · rw [if_neg hc40] at hE
          exact jn59 _ ih _ _ _ _ _ _ _ _ hE (lv_sub hl [2, 3, 4, 5, 1, 0] rfl) hw hS
        · rw [if_pos hc40] at hE
          refine lv_aload_n hx hb d_Model_isKnown_43 rfl (lv_at hl 2 rfl) ?_
          refine va_get (D := G.1) (cl := xCl) (ci := 10) (v := .ref (G.2.1 59)) (C := R_Model) (T := T_Model) (N := 33) hx hb hu fi_Model hown hK hw 51 (x_at (by decide) (xcl_51 G σ)) rfl 18 (by decide) (hu _ mw_1086) (fun _ h9 => h9) rfl d_Model_isKnown_44 ?_
          refine lv_iload hx hb d_Model_isKnown_47 (lv_at hl 1 rfl) ?_
          obtain ⟨g49, hE⟩ := x_guard hE
          refine va_iald hx hb hK hw 59 0 (x_at (by decide) (xcl_59 G σ)) rfl g49 d_Model_isKnown_49 ?_
          refine lv_bipush (v := (42 : Int32)) hx hb d_Model_isKnown_50 (by decide) ?_
          refine lv_icmp_ne (tgt := 59) hx hb d_Model_isKnown_52 (by decide) (fun hc52 => ?_) (fun hc52 => ?_)
          · rw [if_neg hc52] at hE
            exact jn59 _ ih _ _ _ _ _ _ _ _ hE (lv_sub hl [2, 3, 4, 5, 1, 0] rfl) hw hS
          · rw [if_pos hc52] at hE
            refine lv_iconst (v := (1 : Int32)) hx hb d_Model_isKnown_55 (by decide) ?_
            refine lv_goto (tgt := 60) hx hb d_Model_isKnown_56 (by decide) ?_
            exact jn60 _ ih _ _ _ _ _ _ _ _ _ hE (lv_sub hl [2, 3, 4, 5, 1, 0] rfl) hw hS
  have hl := lv_entry ([.ref (G.2.1 51), .int a1]) (n := 8) (Nat.le_of_ble_eq_true rfl)
  rw [lg_entry_eq]
  generalize (lg_sl ([.ref (G.2.1 51), .int a1]) ++ List.replicate (8 - (lg_sl ([.ref (G.2.1 51), .int a1])).length) Slot.unset).toArray = ls at hl ⊢
  have hl : lv_has ls 8 [(0, .ref (G.2.1 51)), (1, .int a1)] := hl
  unfold x_Model_isKnown at hE
  refine lv_aload_n hx hb d_Model_isKnown_0 rfl (lv_at hl 0 rfl) ?_
  refine lv_bipush (v := (56 : Int32)) hx hb d_Model_isKnown_1 (by decide) ?_
  obtain ⟨s3, hC3, hE⟩ := x_bind hE
  refine x_callV hS (W.runV (As := [.int (56 : Int32)]) (rest := []) ⟨hx, hb, hml, hown, hu⟩ (t_Model_list l G σ (56 : Int32) s3 hC3) (cwV 1 hu (uw_V mw_1243 mw_1245 mw_36 mw_70 mw_1246) rfl rfl rfl hd_Model_list ⟨Nat.le_of_ble_eq_true rfl, Nat.le_of_ble_eq_true rfl⟩) (x_preV hC hS hw (va_recv hK hw (q := (R_Model, T_Model, 33)) (ci := 10) rfl (x_at (by decide) (xcl_51 G σ)))) rfl rfl hl.1 rfl (lv_room (Nat.le_of_ble_eq_true rfl)) d_Model_isKnown_3 ⟨Nat.le_of_ble_eq_true rfl, Nat.le_of_ble_eq_true rfl⟩) (fun H locs hw hS => ?_)
  refine lv_iconst (v := (0 : Int32)) hx hb d_Model_isKnown_6 (by decide) ?_
  refine lv_istore_n hx hb d_Model_isKnown_7 rfl hl (by decide) rfl (fun ls hl => ?_)
  have hl : lv_has ls 8 [(2, .int (0 : Int32)), (0, .ref (G.2.1 51)), (1, .int a1)] := hl
  refine lv_iconst (v := (0 : Int32)) hx hb d_Model_isKnown_8 (by decide) ?_
  refine lv_istore_n hx hb d_Model_isKnown_9 rfl hl (by decide) rfl (fun ls hl => ?_)
  have hl : lv_has ls 8 [(3, .int (0 : Int32)), (2, .int (0 : Int32)), (0, .ref (G.2.1 51)), (1, .int a1)] := hl
  exact jn10 x_fuel _ _ _ _ _ _ hE (lv_sub hl [2, 3, 1, 0] rfl) hw hS

def y_Model_tell : MethodName := ⟨"PlainOriginModel", "tell", "(I)V"⟩
def ws_Model_tell : List Cond := Cond.code y_Model_tell prog_14_method_45_code 15 none :: UW
theorem hd_Model_tell : y_Model_tell.cls = R_Model ∧ y_Model_tell.cls ≠ "java/lang/invoke/MethodHandle" ∧ y_Model_tell.cls ≠ "java/lang/invoke/VarHandle" ∧ (parseMethodDescriptor y_Model_tell.desc).map (fun d => d.parameters.length) = some 1 := by decide +kernel
theorem d_Model_tell_0 : decode prog_14_method_45_code 0 = .ok (.aload_n 0, 1) := by decide +kernel
theorem d_Model_tell_1 : decode prog_14_method_45_code 1 = .ok (.getfield 87, 3) := by decide +kernel
theorem d_Model_tell_4 : decode prog_14_method_45_code 4 = .ok (.iload_n 1, 1) := by decide +kernel
theorem d_Model_tell_5 : decode prog_14_method_45_code 5 = .ok (.baload, 1) := by decide +kernel
theorem d_Model_tell_6 : decode prog_14_method_45_code 6 = .ok (.ifCond .ne (16), 3) := by decide +kernel
theorem d_Model_tell_9 : decode prog_14_method_45_code 9 = .ok (.aload_n 0, 1) := by decide +kernel
theorem d_Model_tell_10 : decode prog_14_method_45_code 10 = .ok (.sipush (404), 3) := by decide +kernel
theorem d_Model_tell_13 : decode prog_14_method_45_code 13 = .ok (.iconst 0, 1) := by decide +kernel
theorem d_Model_tell_14 : decode prog_14_method_45_code 14 = .ok (.iconst (-1), 1) := by decide +kernel
theorem d_Model_tell_15 : decode prog_14_method_45_code 15 = .ok (.iconst (-1), 1) := by decide +kernel
theorem d_Model_tell_16 : decode prog_14_method_45_code 16 = .ok (.iconst 0, 1) := by decide +kernel
theorem d_Model_tell_17 : decode prog_14_method_45_code 17 = .ok (.iconst 0, 1) := by decide +kernel
theorem d_Model_tell_18 : decode prog_14_method_45_code 18 = .ok (.invokevirtual 175, 3) := by decide +kernel
theorem d_Model_tell_21 : decode prog_14_method_45_code 21 = .ok (.return_, 1) := by decide +kernel
theorem d_Model_tell_22 : decode prog_14_method_45_code 22 = .ok (.aload_n 0, 1) := by decide +kernel
theorem d_Model_tell_23 : decode prog_14_method_45_code 23 = .ok (.iload_n 1, 1) := by decide +kernel
theorem d_Model_tell_24 : decode prog_14_method_45_code 24 = .ok (.invokevirtual 322, 3) := by decide +kernel
theorem d_Model_tell_27 : decode prog_14_method_45_code 27 = .ok (.ifCond .eq (21), 3) := by decide +kernel
theorem d_Model_tell_30 : decode prog_14_method_45_code 30 = .ok (.aload_n 0, 1) := by decide +kernel
theorem d_Model_tell_31 : decode prog_14_method_45_code 31 = .ok (.sipush (304), 3) := by decide +kernel
theorem d_Model_tell_34 : decode prog_14_method_45_code 34 = .ok (.iconst 0, 1) := by decide +kernel
theorem d_Model_tell_35 : decode prog_14_method_45_code 35 = .ok (.aload_n 0, 1) := by decide +kernel
theorem d_Model_tell_36 : decode prog_14_method_45_code 36 = .ok (.getfield 91, 3) := by decide +kernel
theorem d_Model_tell_39 : decode prog_14_method_45_code 39 = .ok (.iload_n 1, 1) := by decide +kernel
theorem d_Model_tell_40 : decode prog_14_method_45_code 40 = .ok (.iaload, 1) := by decide +kernel
theorem d_Model_tell_41 : decode prog_14_method_45_code 41 = .ok (.iconst (-1), 1) := by decide +kernel
theorem d_Model_tell_42 : decode prog_14_method_45_code 42 = .ok (.iconst 0, 1) := by decide +kernel
theorem d_Model_tell_43 : decode prog_14_method_45_code 43 = .ok (.iconst 0, 1) := by decide +kernel
theorem d_Model_tell_44 : decode prog_14_method_45_code 44 = .ok (.invokevirtual 175, 3) := by decide +kernel
theorem d_Model_tell_47 : decode prog_14_method_45_code 47 = .ok (.return_, 1) := by decide +kernel
theorem d_Model_tell_48 : decode prog_14_method_45_code 48 = .ok (.aload_n 0, 1) := by decide +kernel
theorem d_Model_tell_49 : decode prog_14_method_45_code 49 = .ok (.getfield 95, 3) := by decide +kernel
theorem d_Model_tell_52 : decode prog_14_method_45_code 52 = .ok (.iload_n 1, 1) := by decide +kernel
theorem d_Model_tell_53 : decode prog_14_method_45_code 53 = .ok (.iaload, 1) := by decide +kernel
theorem d_Model_tell_54 : decode prog_14_method_45_code 54 = .ok (.istore_n 2, 1) := by decide +kernel
theorem d_Model_tell_55 : decode prog_14_method_45_code 55 = .ok (.iconst 0, 1) := by decide +kernel
theorem d_Model_tell_56 : decode prog_14_method_45_code 56 = .ok (.istore_n 3, 1) := by decide +kernel
theorem d_Model_tell_57 : decode prog_14_method_45_code 57 = .ok (.iload_n 2, 1) := by decide +kernel
theorem d_Model_tell_58 : decode prog_14_method_45_code 58 = .ok (.istore 4, 2) := by decide +kernel
theorem d_Model_tell_60 : decode prog_14_method_45_code 60 = .ok (.sipush (200), 3) := by decide +kernel
theorem d_Model_tell_63 : decode prog_14_method_45_code 63 = .ok (.istore 5, 2) := by decide +kernel
theorem d_Model_tell_65 : decode prog_14_method_45_code 65 = .ok (.aload_n 0, 1) := by decide +kernel
theorem d_Model_tell_66 : decode prog_14_method_45_code 66 = .ok (.getfield 108, 3) := by decide +kernel
theorem d_Model_tell_69 : decode prog_14_method_45_code 69 = .ok (.bipush (121), 2) := by decide +kernel
theorem d_Model_tell_71 : decode prog_14_method_45_code 71 = .ok (.if_icmp .ne (394), 3) := by decide +kernel
theorem d_Model_tell_74 : decode prog_14_method_45_code 74 = .ok (.aload_n 0, 1) := by decide +kernel
theorem d_Model_tell_75 : decode prog_14_method_45_code 75 = .ok (.bipush (70), 2) := by decide +kernel
theorem d_Model_tell_77 : decode prog_14_method_45_code 77 = .ok (.invokevirtual 273, 3) := by decide +kernel
theorem d_Model_tell_80 : decode prog_14_method_45_code 80 = .ok (.iconst 1, 1) := by decide +kernel
theorem d_Model_tell_81 : decode prog_14_method_45_code 81 = .ok (.if_icmp .ne (384), 3) := by decide +kernel
theorem d_Model_tell_84 : decode prog_14_method_45_code 84 = .ok (.iconst 0, 1) := by decide +kernel
theorem d_Model_tell_85 : decode prog_14_method_45_code 85 = .ok (.istore 6, 2) := by decide +kernel
theorem d_Model_tell_87 : decode prog_14_method_45_code 87 = .ok (.aload_n 0, 1) := by decide +kernel
theorem d_Model_tell_88 : decode prog_14_method_45_code 88 = .ok (.iload 6, 2) := by decide +kernel
theorem d_Model_tell_90 : decode prog_14_method_45_code 90 = .ok (.bipush (70), 2) := by decide +kernel
theorem d_Model_tell_92 : decode prog_14_method_45_code 92 = .ok (.invokevirtual 257, 3) := by decide +kernel
theorem d_Model_tell_95 : decode prog_14_method_45_code 95 = .ok (.ifCond .ne (9), 3) := by decide +kernel
theorem d_Model_tell_98 : decode prog_14_method_45_code 98 = .ok (.iinc 6 (1), 3) := by decide +kernel
theorem d_Model_tell_101 : decode prog_14_method_45_code 101 = .ok (.goto (-14), 3) := by decide +kernel
theorem d_Model_tell_104 : decode prog_14_method_45_code 104 = .ok (.aload_n 0, 1) := by decide +kernel
theorem d_Model_tell_105 : decode prog_14_method_45_code 105 = .ok (.iconst 0, 1) := by decide +kernel
theorem d_Model_tell_106 : decode prog_14_method_45_code 106 = .ok (.putfield 263, 3) := by decide +kernel
theorem d_Model_tell_109 : decode prog_14_method_45_code 109 = .ok (.aload_n 0, 1) := by decide +kernel
theorem d_Model_tell_110 : decode prog_14_method_45_code 110 = .ok (.bipush (80), 2) := by decide +kernel
theorem d_Model_tell_112 : decode prog_14_method_45_code 112 = .ok (.iload 6, 2) := by decide +kernel
theorem d_Model_tell_114 : decode prog_14_method_45_code 114 = .ok (.imul, 1) := by decide +kernel
theorem d_Model_tell_115 : decode prog_14_method_45_code 115 = .ok (.aload_n 0, 1) := by decide +kernel
theorem d_Model_tell_116 : decode prog_14_method_45_code 116 = .ok (.getfield 121, 3) := by decide +kernel
theorem d_Model_tell_119 : decode prog_14_method_45_code 119 = .ok (.iload 6, 2) := by decide +kernel
theorem d_Model_tell_121 : decode prog_14_method_45_code 121 = .ok (.iaload, 1) := by decide +kernel
theorem d_Model_tell_122 : decode prog_14_method_45_code 122 = .ok (.iadd, 1) := by decide +kernel
theorem d_Model_tell_123 : decode prog_14_method_45_code 123 = .ok (.iconst 1, 1) := by decide +kernel
theorem d_Model_tell_124 : decode prog_14_method_45_code 124 = .ok (.iadd, 1) := by decide +kernel
theorem d_Model_tell_125 : decode prog_14_method_45_code 125 = .ok (.bipush (80), 2) := by decide +kernel
theorem d_Model_tell_127 : decode prog_14_method_45_code 127 = .ok (.iload 6, 2) := by decide +kernel
theorem d_Model_tell_129 : decode prog_14_method_45_code 129 = .ok (.imul, 1) := by decide +kernel
theorem d_Model_tell_130 : decode prog_14_method_45_code 130 = .ok (.aload_n 0, 1) := by decide +kernel
theorem d_Model_tell_131 : decode prog_14_method_45_code 131 = .ok (.getfield 124, 3) := by decide +kernel
theorem d_Model_tell_134 : decode prog_14_method_45_code 134 = .ok (.iload 6, 2) := by decide +kernel
theorem d_Model_tell_136 : decode prog_14_method_45_code 136 = .ok (.iaload, 1) := by decide +kernel
theorem d_Model_tell_137 : decode prog_14_method_45_code 137 = .ok (.iadd, 1) := by decide +kernel
theorem d_Model_tell_138 : decode prog_14_method_45_code 138 = .ok (.invokevirtual 266, 3) := by decide +kernel
theorem d_Model_tell_141 : decode prog_14_method_45_code 141 = .ok (.aload_n 0, 1) := by decide +kernel
theorem d_Model_tell_142 : decode prog_14_method_45_code 142 = .ok (.getfield 263, 3) := by decide +kernel
theorem d_Model_tell_145 : decode prog_14_method_45_code 145 = .ok (.ifCond .le (12), 3) := by decide +kernel
theorem d_Model_tell_148 : decode prog_14_method_45_code 148 = .ok (.aload_n 0, 1) := by decide +kernel
theorem d_Model_tell_149 : decode prog_14_method_45_code 149 = .ok (.getfield 130, 3) := by decide +kernel
theorem d_Model_tell_152 : decode prog_14_method_45_code 152 = .ok (.iconst 0, 1) := by decide +kernel
theorem d_Model_tell_153 : decode prog_14_method_45_code 153 = .ok (.iaload, 1) := by decide +kernel
theorem d_Model_tell_154 : decode prog_14_method_45_code 154 = .ok (.goto (4), 3) := by decide +kernel
theorem d_Model_tell_157 : decode prog_14_method_45_code 157 = .ok (.iconst 0, 1) := by decide +kernel
theorem d_Model_tell_158 : decode prog_14_method_45_code 158 = .ok (.istore 7, 2) := by decide +kernel
theorem d_Model_tell_160 : decode prog_14_method_45_code 160 = .ok (.aload_n 0, 1) := by decide +kernel
theorem d_Model_tell_161 : decode prog_14_method_45_code 161 = .ok (.getfield 263, 3) := by decide +kernel
theorem d_Model_tell_164 : decode prog_14_method_45_code 164 = .ok (.ifCond .le (12), 3) := by decide +kernel
theorem d_Model_tell_167 : decode prog_14_method_45_code 167 = .ok (.aload_n 0, 1) := by decide +kernel
theorem d_Model_tell_168 : decode prog_14_method_45_code 168 = .ok (.getfield 133, 3) := by decide +kernel
theorem d_Model_tell_171 : decode prog_14_method_45_code 171 = .ok (.iconst 0, 1) := by decide +kernel
theorem d_Model_tell_172 : decode prog_14_method_45_code 172 = .ok (.iaload, 1) := by decide +kernel
theorem d_Model_tell_173 : decode prog_14_method_45_code 173 = .ok (.goto (4), 3) := by decide +kernel
theorem d_Model_tell_176 : decode prog_14_method_45_code 176 = .ok (.iconst 0, 1) := by decide +kernel
theorem d_Model_tell_177 : decode prog_14_method_45_code 177 = .ok (.istore 8, 2) := by decide +kernel
theorem d_Model_tell_179 : decode prog_14_method_45_code 179 = .ok (.iload 7, 2) := by decide +kernel
theorem d_Model_tell_181 : decode prog_14_method_45_code 181 = .ok (.istore 9, 2) := by decide +kernel
theorem d_Model_tell_183 : decode prog_14_method_45_code 183 = .ok (.iload 9, 2) := by decide +kernel
theorem d_Model_tell_185 : decode prog_14_method_45_code 185 = .ok (.iload 8, 2) := by decide +kernel
theorem d_Model_tell_187 : decode prog_14_method_45_code 187 = .ok (.if_icmp .ge (21), 3) := by decide +kernel
theorem d_Model_tell_190 : decode prog_14_method_45_code 190 = .ok (.aload_n 0, 1) := by decide +kernel
theorem d_Model_tell_191 : decode prog_14_method_45_code 191 = .ok (.getfield 118, 3) := by decide +kernel
theorem d_Model_tell_194 : decode prog_14_method_45_code 194 = .ok (.iload 9, 2) := by decide +kernel
theorem d_Model_tell_196 : decode prog_14_method_45_code 196 = .ok (.iaload, 1) := by decide +kernel
theorem d_Model_tell_197 : decode prog_14_method_45_code 197 = .ok (.bipush (45), 2) := by decide +kernel
theorem d_Model_tell_199 : decode prog_14_method_45_code 199 = .ok (.if_icmp .eq (9), 3) := by decide +kernel
theorem d_Model_tell_202 : decode prog_14_method_45_code 202 = .ok (.iinc 9 (1), 3) := by decide +kernel
theorem d_Model_tell_205 : decode prog_14_method_45_code 205 = .ok (.goto (-22), 3) := by decide +kernel
theorem d_Model_tell_208 : decode prog_14_method_45_code 208 = .ok (.iload 9, 2) := by decide +kernel
theorem d_Model_tell_210 : decode prog_14_method_45_code 210 = .ok (.iload 8, 2) := by decide +kernel
theorem d_Model_tell_212 : decode prog_14_method_45_code 212 = .ok (.if_icmp .ge (32), 3) := by decide +kernel
theorem d_Model_tell_215 : decode prog_14_method_45_code 215 = .ok (.iload 9, 2) := by decide +kernel
theorem d_Model_tell_217 : decode prog_14_method_45_code 217 = .ok (.iload 7, 2) := by decide +kernel
theorem d_Model_tell_219 : decode prog_14_method_45_code 219 = .ok (.isub, 1) := by decide +kernel
theorem d_Model_tell_220 : decode prog_14_method_45_code 220 = .ok (.iconst 5, 1) := by decide +kernel
theorem d_Model_tell_221 : decode prog_14_method_45_code 221 = .ok (.if_icmp .le (23), 3) := by decide +kernel
theorem d_Model_tell_224 : decode prog_14_method_45_code 224 = .ok (.aload_n 0, 1) := by decide +kernel
theorem d_Model_tell_225 : decode prog_14_method_45_code 225 = .ok (.iload 7, 2) := by decide +kernel
theorem d_Model_tell_227 : decode prog_14_method_45_code 227 = .ok (.iload 7, 2) := by decide +kernel
theorem d_Model_tell_229 : decode prog_14_method_45_code 229 = .ok (.bipush (6), 2) := by decide +kernel
theorem d_Model_tell_231 : decode prog_14_method_45_code 231 = .ok (.iadd, 1) := by decide +kernel
theorem d_Model_tell_232 : decode prog_14_method_45_code 232 = .ok (.bipush (114), 2) := by decide +kernel
theorem d_Model_tell_234 : decode prog_14_method_45_code 234 = .ok (.invokevirtual 254, 3) := by decide +kernel
theorem d_Model_tell_237 : decode prog_14_method_45_code 237 = .ok (.ifCond .eq (7), 3) := by decide +kernel
theorem d_Model_tell_240 : decode prog_14_method_45_code 240 = .ok (.iconst 1, 1) := by decide +kernel
theorem d_Model_tell_241 : decode prog_14_method_45_code 241 = .ok (.goto (4), 3) := by decide +kernel
theorem d_Model_tell_244 : decode prog_14_method_45_code 244 = .ok (.iconst 0, 1) := by decide +kernel
theorem d_Model_tell_245 : decode prog_14_method_45_code 245 = .ok (.istore 10, 2) := by decide +kernel
theorem d_Model_tell_247 : decode prog_14_method_45_code 247 = .ok (.iload 9, 2) := by decide +kernel
theorem d_Model_tell_249 : decode prog_14_method_45_code 249 = .ok (.iload 7, 2) := by decide +kernel
theorem d_Model_tell_251 : decode prog_14_method_45_code 251 = .ok (.bipush (6), 2) := by decide +kernel
theorem d_Model_tell_253 : decode prog_14_method_45_code 253 = .ok (.iadd, 1) := by decide +kernel
theorem d_Model_tell_254 : decode prog_14_method_45_code 254 = .ok (.if_icmp .le (7), 3) := by decide +kernel
theorem d_Model_tell_257 : decode prog_14_method_45_code 257 = .ok (.iconst 1, 1) := by decide +kernel
theorem d_Model_tell_258 : decode prog_14_method_45_code 258 = .ok (.goto (4), 3) := by decide +kernel
theorem d_Model_tell_261 : decode prog_14_method_45_code 261 = .ok (.iconst 0, 1) := by decide +kernel
theorem d_Model_tell_262 : decode prog_14_method_45_code 262 = .ok (.istore 11, 2) := by decide +kernel
theorem d_Model_tell_264 : decode prog_14_method_45_code 264 = .ok (.iload 9, 2) := by decide +kernel
theorem d_Model_tell_266 : decode prog_14_method_45_code 266 = .ok (.iconst 1, 1) := by decide +kernel
theorem d_Model_tell_267 : decode prog_14_method_45_code 267 = .ok (.iadd, 1) := by decide +kernel
theorem d_Model_tell_268 : decode prog_14_method_45_code 268 = .ok (.iload 8, 2) := by decide +kernel
theorem d_Model_tell_270 : decode prog_14_method_45_code 270 = .ok (.if_icmp .ge (7), 3) := by decide +kernel
theorem d_Model_tell_273 : decode prog_14_method_45_code 273 = .ok (.iconst 1, 1) := by decide +kernel
theorem d_Model_tell_274 : decode prog_14_method_45_code 274 = .ok (.goto (4), 3) := by decide +kernel
theorem d_Model_tell_277 : decode prog_14_method_45_code 277 = .ok (.iconst 0, 1) := by decide +kernel
theorem d_Model_tell_278 : decode prog_14_method_45_code 278 = .ok (.istore 12, 2) := by decide +kernel
theorem d_Model_tell_280 : decode prog_14_method_45_code 280 = .ok (.iload 10, 2) := by decide +kernel
theorem d_Model_tell_282 : decode prog_14_method_45_code 282 = .ok (.ifCond .eq (22), 3) := by decide +kernel
theorem d_Model_tell_285 : decode prog_14_method_45_code 285 = .ok (.iload 11, 2) := by decide +kernel
theorem d_Model_tell_287 : decode prog_14_method_45_code 287 = .ok (.ifCond .eq (17), 3) := by decide +kernel
theorem d_Model_tell_290 : decode prog_14_method_45_code 290 = .ok (.aload_n 0, 1) := by decide +kernel
theorem d_Model_tell_291 : decode prog_14_method_45_code 291 = .ok (.iload 7, 2) := by decide +kernel
theorem d_Model_tell_293 : decode prog_14_method_45_code 293 = .ok (.bipush (6), 2) := by decide +kernel
theorem d_Model_tell_295 : decode prog_14_method_45_code 295 = .ok (.iadd, 1) := by decide +kernel
theorem d_Model_tell_296 : decode prog_14_method_45_code 296 = .ok (.iload 9, 2) := by decide +kernel
theorem d_Model_tell_298 : decode prog_14_method_45_code 298 = .ok (.invokevirtual 276, 3) := by decide +kernel
theorem d_Model_tell_301 : decode prog_14_method_45_code 301 = .ok (.goto (4), 3) := by decide +kernel
theorem d_Model_tell_304 : decode prog_14_method_45_code 304 = .ok (.iconst 0, 1) := by decide +kernel
theorem d_Model_tell_305 : decode prog_14_method_45_code 305 = .ok (.istore 13, 2) := by decide +kernel
theorem d_Model_tell_307 : decode prog_14_method_45_code 307 = .ok (.iload 10, 2) := by decide +kernel
theorem d_Model_tell_309 : decode prog_14_method_45_code 309 = .ok (.ifCond .eq (21), 3) := by decide +kernel
theorem d_Model_tell_312 : decode prog_14_method_45_code 312 = .ok (.iload 12, 2) := by decide +kernel
theorem d_Model_tell_314 : decode prog_14_method_45_code 314 = .ok (.ifCond .eq (16), 3) := by decide +kernel
theorem d_Model_tell_317 : decode prog_14_method_45_code 317 = .ok (.aload_n 0, 1) := by decide +kernel
theorem d_Model_tell_318 : decode prog_14_method_45_code 318 = .ok (.iload 9, 2) := by decide +kernel
theorem d_Model_tell_320 : decode prog_14_method_45_code 320 = .ok (.iconst 1, 1) := by decide +kernel
theorem d_Model_tell_321 : decode prog_14_method_45_code 321 = .ok (.iadd, 1) := by decide +kernel
theorem d_Model_tell_322 : decode prog_14_method_45_code 322 = .ok (.iload 8, 2) := by decide +kernel
theorem d_Model_tell_324 : decode prog_14_method_45_code 324 = .ok (.invokevirtual 276, 3) := by decide +kernel
theorem d_Model_tell_327 : decode prog_14_method_45_code 327 = .ok (.goto (4), 3) := by decide +kernel
theorem d_Model_tell_330 : decode prog_14_method_45_code 330 = .ok (.iconst 0, 1) := by decide +kernel
theorem d_Model_tell_331 : decode prog_14_method_45_code 331 = .ok (.istore 14, 2) := by decide +kernel
theorem d_Model_tell_333 : decode prog_14_method_45_code 333 = .ok (.iload 10, 2) := by decide +kernel
theorem d_Model_tell_335 : decode prog_14_method_45_code 335 = .ok (.ifCond .eq (42), 3) := by decide +kernel
theorem d_Model_tell_338 : decode prog_14_method_45_code 338 = .ok (.iload 13, 2) := by decide +kernel
theorem d_Model_tell_340 : decode prog_14_method_45_code 340 = .ok (.ifCond .lt (37), 3) := by decide +kernel
theorem d_Model_tell_343 : decode prog_14_method_45_code 343 = .ok (.iload 14, 2) := by decide +kernel
theorem d_Model_tell_345 : decode prog_14_method_45_code 345 = .ok (.ifCond .lt (32), 3) := by decide +kernel
theorem d_Model_tell_348 : decode prog_14_method_45_code 348 = .ok (.iload 11, 2) := by decide +kernel
theorem d_Model_tell_350 : decode prog_14_method_45_code 350 = .ok (.ifCond .eq (18), 3) := by decide +kernel
theorem d_Model_tell_353 : decode prog_14_method_45_code 353 = .ok (.iload 12, 2) := by decide +kernel
theorem d_Model_tell_355 : decode prog_14_method_45_code 355 = .ok (.ifCond .eq (18), 3) := by decide +kernel
theorem d_Model_tell_358 : decode prog_14_method_45_code 358 = .ok (.iload 13, 2) := by decide +kernel
theorem d_Model_tell_360 : decode prog_14_method_45_code 360 = .ok (.iload 14, 2) := by decide +kernel
theorem d_Model_tell_362 : decode prog_14_method_45_code 362 = .ok (.if_icmp .gt (15), 3) := by decide +kernel
theorem d_Model_tell_365 : decode prog_14_method_45_code 365 = .ok (.goto (8), 3) := by decide +kernel
theorem d_Model_tell_368 : decode prog_14_method_45_code 368 = .ok (.iload 14, 2) := by decide +kernel
theorem d_Model_tell_370 : decode prog_14_method_45_code 370 = .ok (.ifCond .le (7), 3) := by decide +kernel
theorem d_Model_tell_373 : decode prog_14_method_45_code 373 = .ok (.iconst 1, 1) := by decide +kernel
theorem d_Model_tell_374 : decode prog_14_method_45_code 374 = .ok (.goto (4), 3) := by decide +kernel
theorem d_Model_tell_377 : decode prog_14_method_45_code 377 = .ok (.iconst 0, 1) := by decide +kernel
theorem d_Model_tell_378 : decode prog_14_method_45_code 378 = .ok (.istore 10, 2) := by decide +kernel
theorem d_Model_tell_380 : decode prog_14_method_45_code 380 = .ok (.iload 10, 2) := by decide +kernel
theorem d_Model_tell_382 : decode prog_14_method_45_code 382 = .ok (.ifCond .eq (83), 3) := by decide +kernel
theorem d_Model_tell_385 : decode prog_14_method_45_code 385 = .ok (.iload_n 2, 1) := by decide +kernel
theorem d_Model_tell_386 : decode prog_14_method_45_code 386 = .ok (.ifCond .eq (14), 3) := by decide +kernel
theorem d_Model_tell_389 : decode prog_14_method_45_code 389 = .ok (.iload 11, 2) := by decide +kernel
theorem d_Model_tell_391 : decode prog_14_method_45_code 391 = .ok (.ifCond .eq (15), 3) := by decide +kernel
theorem d_Model_tell_394 : decode prog_14_method_45_code 394 = .ok (.iload 13, 2) := by decide +kernel
theorem d_Model_tell_396 : decode prog_14_method_45_code 396 = .ok (.iload_n 2, 1) := by decide +kernel
theorem d_Model_tell_397 : decode prog_14_method_45_code 397 = .ok (.if_icmp .lt (9), 3) := by decide +kernel
theorem d_Model_tell_400 : decode prog_14_method_45_code 400 = .ok (.sipush (416), 3) := by decide +kernel
theorem d_Model_tell_403 : decode prog_14_method_45_code 403 = .ok (.goto (6), 3) := by decide +kernel
theorem d_Model_tell_406 : decode prog_14_method_45_code 406 = .ok (.sipush (206), 3) := by decide +kernel
theorem d_Model_tell_409 : decode prog_14_method_45_code 409 = .ok (.istore 5, 2) := by decide +kernel
theorem d_Model_tell_411 : decode prog_14_method_45_code 411 = .ok (.iload 11, 2) := by decide +kernel
theorem d_Model_tell_413 : decode prog_14_method_45_code 413 = .ok (.ifCond .eq (8), 3) := by decide +kernel
theorem d_Model_tell_416 : decode prog_14_method_45_code 416 = .ok (.iload 13, 2) := by decide +kernel
theorem d_Model_tell_418 : decode prog_14_method_45_code 418 = .ok (.goto (18), 3) := by decide +kernel
theorem d_Model_tell_421 : decode prog_14_method_45_code 421 = .ok (.iload_n 2, 1) := by decide +kernel
theorem d_Model_tell_422 : decode prog_14_method_45_code 422 = .ok (.iload 14, 2) := by decide +kernel
theorem d_Model_tell_424 : decode prog_14_method_45_code 424 = .ok (.isub, 1) := by decide +kernel
theorem d_Model_tell_425 : decode prog_14_method_45_code 425 = .ok (.ifCond .le (10), 3) := by decide +kernel
theorem d_Model_tell_428 : decode prog_14_method_45_code 428 = .ok (.iload_n 2, 1) := by decide +kernel
theorem d_Model_tell_429 : decode prog_14_method_45_code 429 = .ok (.iload 14, 2) := by decide +kernel
theorem d_Model_tell_431 : decode prog_14_method_45_code 431 = .ok (.isub, 1) := by decide +kernel
theorem d_Model_tell_432 : decode prog_14_method_45_code 432 = .ok (.goto (4), 3) := by decide +kernel
theorem d_Model_tell_435 : decode prog_14_method_45_code 435 = .ok (.iconst 0, 1) := by decide +kernel
theorem d_Model_tell_436 : decode prog_14_method_45_code 436 = .ok (.istore_n 3, 1) := by decide +kernel
theorem d_Model_tell_437 : decode prog_14_method_45_code 437 = .ok (.iload 11, 2) := by decide +kernel
theorem d_Model_tell_439 : decode prog_14_method_45_code 439 = .ok (.ifCond .eq (23), 3) := by decide +kernel
theorem d_Model_tell_442 : decode prog_14_method_45_code 442 = .ok (.iload 12, 2) := by decide +kernel
theorem d_Model_tell_444 : decode prog_14_method_45_code 444 = .ok (.ifCond .eq (18), 3) := by decide +kernel
theorem d_Model_tell_447 : decode prog_14_method_45_code 447 = .ok (.iload 14, 2) := by decide +kernel
theorem d_Model_tell_449 : decode prog_14_method_45_code 449 = .ok (.iconst 1, 1) := by decide +kernel
theorem d_Model_tell_450 : decode prog_14_method_45_code 450 = .ok (.iadd, 1) := by decide +kernel
theorem d_Model_tell_451 : decode prog_14_method_45_code 451 = .ok (.iload_n 2, 1) := by decide +kernel
theorem d_Model_tell_452 : decode prog_14_method_45_code 452 = .ok (.if_icmp .ge (10), 3) := by decide +kernel
theorem d_Model_tell_455 : decode prog_14_method_45_code 455 = .ok (.iload 14, 2) := by decide +kernel
theorem d_Model_tell_457 : decode prog_14_method_45_code 457 = .ok (.iconst 1, 1) := by decide +kernel
theorem d_Model_tell_458 : decode prog_14_method_45_code 458 = .ok (.iadd, 1) := by decide +kernel
theorem d_Model_tell_459 : decode prog_14_method_45_code 459 = .ok (.goto (4), 3) := by decide +kernel
theorem d_Model_tell_462 : decode prog_14_method_45_code 462 = .ok (.iload_n 2, 1) := by decide +kernel
theorem d_Model_tell_463 : decode prog_14_method_45_code 463 = .ok (.istore 4, 2) := by decide +kernel
theorem d_Model_tell_465 : decode prog_14_method_45_code 465 = .ok (.iload 5, 2) := by decide +kernel
theorem d_Model_tell_467 : decode prog_14_method_45_code 467 = .ok (.sipush (416), 3) := by decide +kernel
theorem d_Model_tell_470 : decode prog_14_method_45_code 470 = .ok (.if_icmp .ne (16), 3) := by decide +kernel
theorem d_Model_tell_473 : decode prog_14_method_45_code 473 = .ok (.aload_n 0, 1) := by decide +kernel
theorem d_Model_tell_474 : decode prog_14_method_45_code 474 = .ok (.sipush (416), 3) := by decide +kernel
theorem d_Model_tell_477 : decode prog_14_method_45_code 477 = .ok (.iconst 0, 1) := by decide +kernel
theorem d_Model_tell_478 : decode prog_14_method_45_code 478 = .ok (.iconst (-1), 1) := by decide +kernel
theorem d_Model_tell_479 : decode prog_14_method_45_code 479 = .ok (.iconst (-1), 1) := by decide +kernel
theorem d_Model_tell_480 : decode prog_14_method_45_code 480 = .ok (.iconst 0, 1) := by decide +kernel
theorem d_Model_tell_481 : decode prog_14_method_45_code 481 = .ok (.iload_n 2, 1) := by decide +kernel
theorem d_Model_tell_482 : decode prog_14_method_45_code 482 = .ok (.invokevirtual 175, 3) := by decide +kernel
theorem d_Model_tell_485 : decode prog_14_method_45_code 485 = .ok (.return_, 1) := by decide +kernel
theorem d_Model_tell_486 : decode prog_14_method_45_code 486 = .ok (.aload_n 0, 1) := by decide +kernel
theorem d_Model_tell_487 : decode prog_14_method_45_code 487 = .ok (.iload 5, 2) := by decide +kernel
theorem d_Model_tell_489 : decode prog_14_method_45_code 489 = .ok (.iload 4, 2) := by decide +kernel
theorem d_Model_tell_491 : decode prog_14_method_45_code 491 = .ok (.iload_n 3, 1) := by decide +kernel
theorem d_Model_tell_492 : decode prog_14_method_45_code 492 = .ok (.isub, 1) := by decide +kernel
theorem d_Model_tell_493 : decode prog_14_method_45_code 493 = .ok (.aload_n 0, 1) := by decide +kernel
theorem d_Model_tell_494 : decode prog_14_method_45_code 494 = .ok (.getfield 91, 3) := by decide +kernel
theorem d_Model_tell_497 : decode prog_14_method_45_code 497 = .ok (.iload_n 1, 1) := by decide +kernel
theorem d_Model_tell_498 : decode prog_14_method_45_code 498 = .ok (.iaload, 1) := by decide +kernel
theorem d_Model_tell_499 : decode prog_14_method_45_code 499 = .ok (.iload_n 3, 1) := by decide +kernel
theorem d_Model_tell_500 : decode prog_14_method_45_code 500 = .ok (.iload 4, 2) := by decide +kernel
theorem d_Model_tell_502 : decode prog_14_method_45_code 502 = .ok (.iload_n 2, 1) := by decide +kernel
theorem d_Model_tell_503 : decode prog_14_method_45_code 503 = .ok (.invokevirtual 175, 3) := by decide +kernel
theorem d_Model_tell_506 : decode prog_14_method_45_code 506 = .ok (.iload_n 3, 1) := by decide +kernel
theorem d_Model_tell_507 : decode prog_14_method_45_code 507 = .ok (.istore 6, 2) := by decide +kernel
theorem d_Model_tell_509 : decode prog_14_method_45_code 509 = .ok (.iload 6, 2) := by decide +kernel
theorem d_Model_tell_511 : decode prog_14_method_45_code 511 = .ok (.iload 4, 2) := by decide +kernel
theorem d_Model_tell_513 : decode prog_14_method_45_code 513 = .ok (.if_icmp .ge (35), 3) := by decide +kernel
theorem d_Model_tell_516 : decode prog_14_method_45_code 516 = .ok (.aload_n 0, 1) := by decide +kernel
theorem d_Model_tell_517 : decode prog_14_method_45_code 517 = .ok (.getfield 108, 3) := by decide +kernel
theorem d_Model_tell_520 : decode prog_14_method_45_code 520 = .ok (.bipush (121), 2) := by decide +kernel
theorem d_Model_tell_522 : decode prog_14_method_45_code 522 = .ok (.if_icmp .ne (26), 3) := by decide +kernel
theorem d_Model_tell_525 : decode prog_14_method_45_code 525 = .ok (.aload_n 0, 1) := by decide +kernel
theorem d_Model_tell_526 : decode prog_14_method_45_code 526 = .ok (.aload_n 0, 1) := by decide +kernel
theorem d_Model_tell_527 : decode prog_14_method_45_code 527 = .ok (.getfield 98, 3) := by decide +kernel
theorem d_Model_tell_530 : decode prog_14_method_45_code 530 = .ok (.sipush (200), 3) := by decide +kernel
theorem d_Model_tell_533 : decode prog_14_method_45_code 533 = .ok (.iload_n 1, 1) := by decide +kernel
theorem d_Model_tell_534 : decode prog_14_method_45_code 534 = .ok (.imul, 1) := by decide +kernel
theorem d_Model_tell_535 : decode prog_14_method_45_code 535 = .ok (.iload 6, 2) := by decide +kernel
theorem d_Model_tell_537 : decode prog_14_method_45_code 537 = .ok (.iadd, 1) := by decide +kernel
theorem d_Model_tell_538 : decode prog_14_method_45_code 538 = .ok (.iaload, 1) := by decide +kernel
theorem d_Model_tell_539 : decode prog_14_method_45_code 539 = .ok (.invokevirtual 294, 3) := by decide +kernel
theorem d_Model_tell_542 : decode prog_14_method_45_code 542 = .ok (.iinc 6 (1), 3) := by decide +kernel
theorem d_Model_tell_545 : decode prog_14_method_45_code 545 = .ok (.goto (-36), 3) := by decide +kernel
theorem d_Model_tell_548 : decode prog_14_method_45_code 548 = .ok (.return_, 1) := by decide +kernel
def x_Model_tell_509 (a1 : Int32) : Nat → Int32 → Int32 → St → Option St
  | 0, _, _, _ => none
  | n + 1, l4, l6, σ => (if l4 ≤ l6 then some σ else (if (σ.1 51 12) = (121 : Int32) then (if x_in (((200 : Int32) * a1) + l6) 1600 then (Option.bind (x_Model_say (σ.2.1 56 (((200 : Int32) * a1) + l6).toNatClampNeg) σ) (fun s539 => (x_let (l6 + (1 : Int32)) (fun (v542 : Int32) => x_Model_tell_509 a1 n l4 v542 s539)))) else none) else some σ))
def x_Model_tell_465 (a1 : Int32) (l2 : Int32) (l3 : Int32) (l4 : Int32) (l5 : Int32) (σ : St) : Option St := (if l5 = (416 : Int32) then (Option.bind (x_Model_respond (416 : Int32) (0 : Int32) ((-1) : Int32) ((-1) : Int32) (0 : Int32) l2 σ) (fun s482 => some s482)) else (if x_in a1 8 then (Option.bind (x_Model_respond l5 (l4 - l3) (σ.2.1 54 a1.toNatClampNeg) l3 l4 l2 σ) (fun s503 => x_Model_tell_509 a1 x_fuel l4 l3 s503)) else none))
def x_Model_tell_463 (a1 : Int32) (l2 : Int32) (l3 : Int32) (l5 : Int32) (k0 : Int32) (σ : St) : Option St := x_Model_tell_465 a1 l2 l3 k0 l5 σ
def x_Model_tell_462 (a1 : Int32) (l2 : Int32) (l3 : Int32) (l5 : Int32) (σ : St) : Option St := x_Model_tell_463 a1 l2 l3 l5 l2 σ
def x_Model_tell_436 (a1 : Int32) (l2 : Int32) (l5 : Int32) (l11 : Int32) (l12 : Int32) (l14 : Int32) (k0 : Int32) (σ : St) : Option St := (if l11 = 0 then x_Model_tell_462 a1 l2 k0 l5 σ else (if l12 = 0 then x_Model_tell_462 a1 l2 k0 l5 σ else (if l2 ≤ (l14 + (1 : Int32)) then x_Model_tell_462 a1 l2 k0 l5 σ else x_Model_tell_463 a1 l2 k0 l5 (l14 + (1 : Int32)) σ)))
def x_Model_tell_409 (a1 : Int32) (l2 : Int32) (l11 : Int32) (l12 : Int32) (l13 : Int32) (l14 : Int32) (k0 : Int32) (σ : St) : Option St := (if l11 = 0 then (if (l2 - l14) ≤ 0 then x_Model_tell_436 a1 l2 k0 l11 l12 l14 (0 : Int32) σ else x_Model_tell_436 a1 l2 k0 l11 l12 l14 (l2 - l14) σ) else x_Model_tell_436 a1 l2 k0 l11 l12 l14 l13 σ)
def x_Model_tell_400 (a1 : Int32) (l2 : Int32) (l11 : Int32) (l12 : Int32) (l13 : Int32) (l14 : Int32) (σ : St) : Option St := x_Model_tell_409 a1 l2 l11 l12 l13 l14 (416 : Int32) σ
def x_Model_tell_406 (a1 : Int32) (l2 : Int32) (l11 : Int32) (l12 : Int32) (l13 : Int32) (l14 : Int32) (σ : St) : Option St := x_Model_tell_409 a1 l2 l11 l12 l13 l14 (206 : Int32) σ
def x_Model_tell_378 (a1 : Int32) (l2 : Int32) (l3 : Int32) (l4 : Int32) (l5 : Int32) (l11 : Int32) (l12 : Int32) (l13 : Int32) (l14 : Int32) (k0 : Int32) (σ : St) : Option St := (if k0 = 0 then x_Model_tell_465 a1 l2 l3 l4 l5 σ else (if l2 = 0 then x_Model_tell_400 a1 l2 l11 l12 l13 l14 σ else (if l11 = 0 then x_Model_tell_406 a1 l2 l11 l12 l13 l14 σ else (if l13 < l2 then x_Model_tell_406 a1 l2 l11 l12 l13 l14 σ else x_Model_tell_400 a1 l2 l11 l12 l13 l14 σ))))
def x_Model_tell_377 (a1 : Int32) (l2 : Int32) (l3 : Int32) (l4 : Int32) (l5 : Int32) (l11 : Int32) (l12 : Int32) (l13 : Int32) (l14 : Int32) (σ : St) : Option St := x_Model_tell_378 a1 l2 l3 l4 l5 l11 l12 l13 l14 (0 : Int32) σ
def x_Model_tell_373 (a1 : Int32) (l2 : Int32) (l3 : Int32) (l4 : Int32) (l5 : Int32) (l11 : Int32) (l12 : Int32) (l13 : Int32) (l14 : Int32) (σ : St) : Option St := x_Model_tell_378 a1 l2 l3 l4 l5 l11 l12 l13 l14 (1 : Int32) σ
def x_Model_tell_331 (a1 : Int32) (l2 : Int32) (l3 : Int32) (l4 : Int32) (l5 : Int32) (l10 : Int32) (l11 : Int32) (l12 : Int32) (l13 : Int32) (k0 : Int32) (σ : St) : Option St := (if l10 = 0 then x_Model_tell_377 a1 l2 l3 l4 l5 l11 l12 l13 k0 σ else (if l13 < 0 then x_Model_tell_377 a1 l2 l3 l4 l5 l11 l12 l13 k0 σ else (if k0 < 0 then x_Model_tell_377 a1 l2 l3 l4 l5 l11 l12 l13 k0 σ else (if l11 = 0 then (if k0 ≤ 0 then x_Model_tell_377 a1 l2 l3 l4 l5 l11 l12 l13 k0 σ else x_Model_tell_373 a1 l2 l3 l4 l5 l11 l12 l13 k0 σ) else (if l12 = 0 then x_Model_tell_373 a1 l2 l3 l4 l5 l11 l12 l13 k0 σ else (if k0 < l13 then x_Model_tell_377 a1 l2 l3 l4 l5 l11 l12 l13 k0 σ else x_Model_tell_373 a1 l2 l3 l4 l5 l11 l12 l13 k0 σ))))))
def x_Model_tell_330 (a1 : Int32) (l2 : Int32) (l3 : Int32) (l4 : Int32) (l5 : Int32) (l10 : Int32) (l11 : Int32) (l12 : Int32) (l13 : Int32) (σ : St) : Option St := x_Model_tell_331 a1 l2 l3 l4 l5 l10 l11 l12 l13 (0 : Int32) σ
def x_Model_tell_305 (a1 : Int32) (l2 : Int32) (l3 : Int32) (l4 : Int32) (l5 : Int32) (l8 : Int32) (l9 : Int32) (l10 : Int32) (l11 : Int32) (l12 : Int32) (k0 : Int32) (σ : St) : Option St := (if l10 = 0 then x_Model_tell_330 a1 l2 l3 l4 l5 l10 l11 l12 k0 σ else (if l12 = 0 then x_Model_tell_330 a1 l2 l3 l4 l5 l10 l11 l12 k0 σ else (Option.bind (x_Model_numberAt (l9 + (1 : Int32)) l8 σ) (fun r324 => x_Model_tell_331 a1 l2 l3 l4 l5 l10 l11 l12 k0 r324 σ))))
def x_Model_tell_304 (a1 : Int32) (l2 : Int32) (l3 : Int32) (l4 : Int32) (l5 : Int32) (l8 : Int32) (l9 : Int32) (l10 : Int32) (l11 : Int32) (l12 : Int32) (σ : St) : Option St := x_Model_tell_305 a1 l2 l3 l4 l5 l8 l9 l10 l11 l12 (0 : Int32) σ
def x_Model_tell_278 (a1 : Int32) (l2 : Int32) (l3 : Int32) (l4 : Int32) (l5 : Int32) (l7 : Int32) (l8 : Int32) (l9 : Int32) (l10 : Int32) (l11 : Int32) (k0 : Int32) (σ : St) : Option St := (if l10 = 0 then x_Model_tell_304 a1 l2 l3 l4 l5 l8 l9 l10 l11 k0 σ else (if l11 = 0 then x_Model_tell_304 a1 l2 l3 l4 l5 l8 l9 l10 l11 k0 σ else (Option.bind (x_Model_numberAt (l7 + (6 : Int32)) l9 σ) (fun r298 => x_Model_tell_305 a1 l2 l3 l4 l5 l8 l9 l10 l11 k0 r298 σ))))
def x_Model_tell_262 (a1 : Int32) (l2 : Int32) (l3 : Int32) (l4 : Int32) (l5 : Int32) (l7 : Int32) (l8 : Int32) (l9 : Int32) (l10 : Int32) (k0 : Int32) (σ : St) : Option St := (if l8 ≤ (l9 + (1 : Int32)) then x_Model_tell_278 a1 l2 l3 l4 l5 l7 l8 l9 l10 k0 (0 : Int32) σ else x_Model_tell_278 a1 l2 l3 l4 l5 l7 l8 l9 l10 k0 (1 : Int32) σ)
def x_Model_tell_245 (a1 : Int32) (l2 : Int32) (l3 : Int32) (l4 : Int32) (l5 : Int32) (l7 : Int32) (l8 : Int32) (l9 : Int32) (k0 : Int32) (σ : St) : Option St := (if l9 ≤ (l7 + (6 : Int32)) then x_Model_tell_262 a1 l2 l3 l4 l5 l7 l8 l9 k0 (0 : Int32) σ else x_Model_tell_262 a1 l2 l3 l4 l5 l7 l8 l9 k0 (1 : Int32) σ)
def x_Model_tell_244 (a1 : Int32) (l2 : Int32) (l3 : Int32) (l4 : Int32) (l5 : Int32) (l7 : Int32) (l8 : Int32) (l9 : Int32) (σ : St) : Option St := x_Model_tell_245 a1 l2 l3 l4 l5 l7 l8 l9 (0 : Int32) σ
def x_Model_tell_208 (a1 : Int32) (l2 : Int32) (l3 : Int32) (l4 : Int32) (l5 : Int32) (l7 : Int32) (l8 : Int32) (l9 : Int32) (σ : St) : Option St := (if l8 ≤ l9 then x_Model_tell_244 a1 l2 l3 l4 l5 l7 l8 l9 σ else (if (l9 - l7) ≤ (5 : Int32) then x_Model_tell_244 a1 l2 l3 l4 l5 l7 l8 l9 σ else (Option.bind (x_Model_isWord l7 (l7 + (6 : Int32)) (114 : Int32) σ) (fun r234 => (if r234 = 0 then x_Model_tell_244 a1 l2 l3 l4 l5 l7 l8 l9 σ else x_Model_tell_245 a1 l2 l3 l4 l5 l7 l8 l9 (1 : Int32) σ)))))
def x_Model_tell_183 (a1 : Int32) : Nat → Int32 → Int32 → Int32 → Int32 → Int32 → Int32 → Int32 → St → Option St
  | 0, _, _, _, _, _, _, _, _ => none
  | n + 1, l2, l3, l4, l5, l7, l8, l9, σ => (if l8 ≤ l9 then x_Model_tell_208 a1 l2 l3 l4 l5 l7 l8 l9 σ else (if x_in l9 960 then (if (σ.2.1 59 l9.toNatClampNeg) = (45 : Int32) then x_Model_tell_208 a1 l2 l3 l4 l5 l7 l8 l9 σ else (x_let (l9 + (1 : Int32)) (fun (v202 : Int32) => x_Model_tell_183 a1 n l2 l3 l4 l5 l7 l8 v202 σ))) else none))
def x_Model_tell_177 (a1 : Int32) (l2 : Int32) (l3 : Int32) (l4 : Int32) (l5 : Int32) (l7 : Int32) (k0 : Int32) (σ : St) : Option St := x_Model_tell_183 a1 x_fuel l2 l3 l4 l5 l7 k0 l7 σ
def x_Model_tell_158 (a1 : Int32) (l2 : Int32) (l3 : Int32) (l4 : Int32) (l5 : Int32) (k0 : Int32) (σ : St) : Option St := (if (σ.1 51 26) ≤ 0 then x_Model_tell_177 a1 l2 l3 l4 l5 k0 (0 : Int32) σ else (if x_in (0 : Int32) 512 then x_Model_tell_177 a1 l2 l3 l4 l5 k0 (σ.2.1 64 (0 : Int32).toNatClampNeg) σ else none))
def x_Model_tell_87 (a1 : Int32) : Nat → Int32 → Int32 → Int32 → Int32 → Int32 → St → Option St
  | 0, _, _, _, _, _, _ => none
  | n + 1, l2, l3, l4, l5, l6, σ => (Option.bind (x_Model_isNamed l6 (70 : Int32) σ) (fun r92 => (if r92 = 0 then (x_let (l6 + (1 : Int32)) (fun (v98 : Int32) => x_Model_tell_87 a1 n l2 l3 l4 l5 v98 σ)) else (x_let (x_updR σ 51 26 (0 : Int32)) (fun (s106 : St) => (if x_in l6 12 then (if x_in l6 12 then (Option.bind (x_Model_notice ((((80 : Int32) * l6) + (s106.2.1 60 l6.toNatClampNeg)) + (1 : Int32)) (((80 : Int32) * l6) + (s106.2.1 61 l6.toNatClampNeg)) s106) (fun s138 => (if (s138.1 51 26) ≤ 0 then x_Model_tell_158 a1 l2 l3 l4 l5 (0 : Int32) s138 else (if x_in (0 : Int32) 512 then x_Model_tell_158 a1 l2 l3 l4 l5 (s138.2.1 63 (0 : Int32).toNatClampNeg) s138 else none)))) else none) else none))))))
def x_Model_tell (a1 : Int32) (σ : St) : Option St := (if x_in a1 8 then (if (σ.2.1 53 a1.toNatClampNeg) = 0 then (Option.bind (x_Model_respond (404 : Int32) (0 : Int32) ((-1) : Int32) ((-1) : Int32) (0 : Int32) (0 : Int32) σ) (fun s18 => some s18)) else (x_bind2 (x_Model_isKnown a1 σ) (fun r24 s24 => (if r24 = 0 then (if x_in a1 8 then (x_let (s24.2.1 55 a1.toNatClampNeg) (fun (v54 : Int32) => (if (s24.1 51 12) = (121 : Int32) then (Option.bind (x_Model_count (70 : Int32) s24) (fun r77 => (if r77 = (1 : Int32) then x_Model_tell_87 a1 x_fuel v54 (0 : Int32) v54 (200 : Int32) (0 : Int32) s24 else x_Model_tell_465 a1 v54 (0 : Int32) v54 (200 : Int32) s24))) else x_Model_tell_465 a1 v54 (0 : Int32) v54 (200 : Int32) s24))) else none) else (if x_in a1 8 then (Option.bind (x_Model_respond (304 : Int32) (0 : Int32) (s24.2.1 54 a1.toNatClampNeg) ((-1) : Int32) (0 : Int32) (0 : Int32) s24) (fun s44 => some s44)) else none))))) else none)
abbrev rm_Model_tell : Room := { frames := 6, cells := 0, slots := 0, locals := 140 }
set_option maxHeartbeats 4000000 in
set_option maxRecDepth 100000 in
theorem t_Model_tell (l : Launch) (G : xG) (σ : St) (a1 : Int32) (σ' : St) (hE : x_Model_tell a1 σ = some σ') : Met l y_Model_tell (ws_Model_tell) rm_Model_tell (xP G σ [.ref (G.2.1 51), .int a1]) (xQ G none σ') 0 0 (xA G) := by
  refine Met.ofW (cc := prog_14_method_45_code) (maxL := 15) (ret := none) (by decide) rfl ?_
  intro p e s m args below meth c s₁ B hml hv
  obtain ⟨rfl, hw, hC⟩ := hv
  have hx := B.exec
  have hb := B.bytes
  have hr := B.returns
  have hu : ∀ w ∈ UW, w.before _ s = true := fun w h => atoms_spec B.pre w (List.mem_cons_of_mem _ h)
  have hown : s.vm.findClass R_Model = some m.cls := findClass_of_methodNamed B.named
  have hlocks := B.notSynchronized
  have hK := hC.1
  have hI := hC.2.1
  have hG := hC.2.2.1
  have hN := hC.2.2.2
  have hS : va_S (xA G) s.heap s.heap [] := va_S.rf
  have jn509 : ∀ (n : Nat) (ls : Array Slot) (H : Heap) (locs : List Loc) (σ : St) (l4 : Int32) (l6 : Int32), x_Model_tell_509 a1 n l4 l6 σ = some σ' → lv_has ls 15 [(0, .ref (G.2.1 51)), (1, .int a1), (4, .int l4), (6, .int l6)] → xw G σ H → va_S (xA G) s.heap H locs → W p l e (headSpec (ws_Model_tell) rm_Model_tell).room s m ([.ref (G.2.1 51), .int a1] : List Value).toArray below meth c H locs 0 0 (MQ below (xQ G none σ') ([.ref (G.2.1 51), .int a1] : List Value).toArray s 0 0 (xA G)) (F0 m 509 ls []) := by
    intro n
    induction n with
    | zero => intro ls H locs σ l4 l6 hE; rw [x_Model_tell_509] at hE; cases hE
    | succ n ih =>
      intro ls H locs σ l4 l6 hE hl hw hS
      rw [x_Model_tell_509] at hE
      refine lv_iload hx hb d_Model_tell_509 (lv_at hl 3 rfl) ?_
      refine lv_iload hx hb d_Model_tell_511 (lv_at hl 2 rfl) ?_
      refine lv_icmp_ge (tgt := 548) hx hb d_Model_tell_513 (by decide) (fun hc513 => ?_) (fun hc513 => ?_)
      · rw [if_pos hc513] at hE
        have e1 := Option.some.inj hE
        exact W.vret hx hb hr (fun t ht hW => ⟨rfl, by rw [ht, ← e1]; exact hw, hS.F ht⟩) hS.2.2 d_Model_tell_548
      · rw [if_neg hc513] at hE
        refine lv_aload_n hx hb d_Model_tell_516 rfl (lv_at hl 0 rfl) ?_
        refine va_get (D := G.1) (cl := xCl) (ci := 10) (v := .int (σ.1 51 12)) (C := R_Model) (T := T_Model) (N := 33) hx hb hu fi_Model hown hK hw 51 (x_at (by decide) (xcl_51 G σ)) rfl 12 (by decide) (hu _ mw_1080) (fun _ h9 => h9) rfl d_Model_tell_517 ?_
        refine lv_bipush (v := (121 : Int32)) hx hb d_Model_tell_520 (by decide) ?_
        refine lv_icmp_ne (tgt := 548) hx hb d_Model_tell_522 (by decide) (fun hc522 => ?_) (fun hc522 => ?_)
        · rw [if_neg hc522] at hE
          have e1 := Option.some.inj hE
          exact W.vret hx hb hr (fun t ht hW => ⟨rfl, by rw [ht, ← e1]; exact hw, hS.F ht⟩) hS.2.2 d_Model_tell_548
        · rw [if_pos hc522] at hE
          refine lv_aload_n hx hb d_Model_tell_525 rfl (lv_at hl 0 rfl) ?_
          refine lv_aload_n hx hb d_Model_tell_526 rfl (lv_at hl 0 rfl) ?_
          refine va_get (D := G.1) (cl := xCl) (ci := 10) (v := .ref (G.2.1 56)) (C := R_Model) (T := T_Model) (N := 33) hx hb hu fi_Model hown hK hw 51 (x_at (by decide) (xcl_51 G σ)) rfl 5 (by decide) (hu _ mw_1073) (fun _ h9 => h9) rfl d_Model_tell_527 ?_
          refine lv_sipush (v := (200 : Int32)) hx hb d_Model_tell_530 (by decide) ?_
          refine lv_iload_n hx hb d_Model_tell_533 rfl (lv_at hl 1 rfl) ?_
          refine lv_imul hx hb d_Model_tell_534 ?_
          refine lv_iload hx hb d_Model_tell_535 (lv_at hl 3 rfl) ?_
          refine lv_iadd hx hb d_Model_tell_537 ?_
          obtain ⟨g538, hE⟩ := x_guard hE
          refine va_iald hx hb hK hw 56 0 (x_at (by decide) (xcl_56 G σ)) rfl g538 d_Model_tell_538 ?_
          obtain ⟨s539, hC539, hE⟩ := x_bind hE
          refine x_callV hS (W.runV (As := [.int (σ.2.1 56 (((200 : Int32) * a1) + l6).toNatClampNeg)]) (rest := []) ⟨hx, hb, hml, hown, hu⟩ (t_Model_say l G σ (σ.2.1 56 (((200 : Int32) * a1) + l6).toNatClampNeg) s539 hC539) (cwV 1 hu (uw_V mw_1219 mw_1221 mw_30 mw_70 mw_1222) rfl rfl rfl hd_Model_say ⟨Nat.le_of_ble_eq_true rfl, Nat.le_of_ble_eq_true rfl⟩) (x_preV hC hS hw (va_recv hK hw (q := (R_Model, T_Model, 33)) (ci := 10) rfl (x_at (by decide) (xcl_51 G σ)))) rfl rfl hl.1 rfl (lv_room (Nat.le_of_ble_eq_true rfl)) d_Model_tell_539 ⟨Nat.le_of_ble_eq_true rfl, Nat.le_of_ble_eq_true rfl⟩) (fun H locs hw hS => ?_)
          obtain ⟨v542, e542, hE⟩ := x_letE hE
          refine lv_iinc hx hb d_Model_tell_542 hl (k := 3) rfl (x_inc v542 e542 (by decide)) (by decide) rfl (fun ls hl => ?_)
          have hl : lv_has ls 15 [(6, .int v542), (0, .ref (G.2.1 51)), (1, .int a1), (4, .int l4)] := hl
          refine lv_goto (tgt := 509) hx hb d_Model_tell_545 (by decide) ?_
          exact ih _ _ _ _ _ _ hE (lv_sub hl [1, 2, 3, 0] rfl) hw hS
  have jn465 : ∀ (ls : Array Slot) (H : Heap) (locs : List Loc) (σ : St) (l2 : Int32) (l3 : Int32) (l4 : Int32) (l5 : Int32), x_Model_tell_465 a1 l2 l3 l4 l5 σ = some σ' → lv_has ls 15 [(0, .ref (G.2.1 51)), (1, .int a1), (2, .int l2), (3, .int l3), (4, .int l4), (5, .int l5)] → xw G σ H → va_S (xA G) s.heap H locs → W p l e (headSpec (ws_Model_tell) rm_Model_tell).room s m ([.ref (G.2.1 51), .int a1] : List Value).toArray below meth c H locs 0 0 (MQ below (xQ G none σ') ([.ref (G.2.1 51), .int a1] : List Value).toArray s 0 0 (xA G)) (F0 m 465 ls []) := by
    intro ls H locs σ l2 l3 l4 l5 hE hl hw hS
    unfold x_Model_tell_465 at hE
    refine lv_iload hx hb d_Model_tell_465 (lv_at hl 5 rfl) ?_
    refine lv_sipush (v := (416 : Int32)) hx hb d_Model_tell_467 (by decide) ?_
    refine lv_icmp_ne (tgt := 486) hx hb d_Model_tell_470 (by decide) (fun hc470 => ?_) (fun hc470 => ?_)
    · rw [if_neg hc470] at hE
      refine lv_aload_n hx hb d_Model_tell_486 rfl (lv_at hl 0 rfl) ?_
      refine lv_iload hx hb d_Model_tell_487 (lv_at hl 5 rfl) ?_
      refine lv_iload hx hb d_Model_tell_489 (lv_at hl 4 rfl) ?_
      refine lv_iload_n hx hb d_Model_tell_491 rfl (lv_at hl 3 rfl) ?_
      refine lv_isub hx hb d_Model_tell_492 ?_
      refine lv_aload_n hx hb d_Model_tell_493 rfl (lv_at hl 0 rfl) ?_
      refine va_get (D := G.1) (cl := xCl) (ci := 10) (v := .ref (G.2.1 54)) (C := R_Model) (T := T_Model) (N := 33) hx hb hu fi_Model hown hK hw 51 (x_at (by decide) (xcl_51 G σ)) rfl 3 (by decide) (hu _ mw_1071) (fun _ h9 => h9) rfl d_Model_tell_494 ?_
      refine lv_iload_n hx hb d_Model_tell_497 rfl (lv_at hl 1 rfl) ?_
      obtain ⟨g498, hE⟩ := x_guard hE
      refine va_iald hx hb hK hw 54 0 (x_at (by decide) (xcl_54 G σ)) rfl g498 d_Model_tell_498 ?_
      refine lv_iload_n hx hb d_Model_tell_499 rfl (lv_at hl 3 rfl) ?_
      refine lv_iload hx hb d_Model_tell_500 (lv_at hl 4 rfl) ?_
      refine lv_iload_n hx hb d_Model_tell_502 rfl (lv_at hl 2 rfl) ?_
      obtain ⟨s503, hC503, hE⟩ := x_bind hE
      refine x_callV hS (W.runV (As := [.int l5, .int (l4 - l3), .int (σ.2.1 54 a1.toNatClampNeg), .int l3, .int l4, .int l2]) (rest := []) ⟨hx, hb, hml, hown, hu⟩ (t_Model_respond l G σ l5 (l4 - l3) (σ.2.1 54 a1.toNatClampNeg) l3 l4 l2 s503 hC503) (cwV 6 hu (uw_V mw_1203 mw_1205 mw_26 mw_70 mw_1206) rfl rfl rfl hd_Model_respond ⟨Nat.le_of_ble_eq_true rfl, Nat.le_of_ble_eq_true rfl⟩) (x_preV hC hS hw (va_recv hK hw (q := (R_Model, T_Model, 33)) (ci := 10) rfl (x_at (by decide) (xcl_51 G σ)))) rfl rfl hl.1 rfl (lv_room (Nat.le_of_ble_eq_true rfl)) d_Model_tell_503 ⟨Nat.le_of_ble_eq_true rfl, Nat.le_of_ble_eq_true rfl⟩) (fun H locs hw hS => ?_)
      refine lv_iload_n hx hb d_Model_tell_506 rfl (lv_at hl 3 rfl) ?_
      refine lv_istore hx hb d_Model_tell_507 hl (by decide) rfl (fun ls hl => ?_)
      have hl : lv_has ls 15 [(6, .int l3), (0, .ref (G.2.1 51)), (1, .int a1), (2, .int l2), (3, .int l3), (4, .int l4), (5, .int l5)] := hl
      exact jn509 x_fuel _ _ _ _ _ _ hE (lv_sub hl [1, 2, 5, 0] rfl) hw hS
    · rw [if_pos hc470] at hE
      refine lv_aload_n hx hb d_Model_tell_473 rfl (lv_at hl 0 rfl) ?_
      refine lv_sipush (v := (416 : Int32)) hx hb d_Model_tell_474 (by decide) ?_
      refine lv_iconst (v := (0 : Int32)) hx hb d_Model_tell_477 (by decide) ?_
      refine lv_iconst (v := ((-1) : Int32)) hx hb d_Model_tell_478 (by decide) ?_
      refine lv_iconst (v := ((-1) : Int32)) hx hb d_Model_tell_479 (by decide) ?_
      refine lv_iconst (v := (0 : Int32)) hx hb d_Model_tell_480 (by decide) ?_
      refine lv_iload_n hx hb d_Model_tell_481 rfl (lv_at hl 2 rfl) ?_
      obtain ⟨s482, hC482, hE⟩ := x_bind hE
      refine x_callV hS (W.runV (As := [.int (416 : Int32), .int (0 : Int32), .int ((-1) : Int32), .int ((-1) : Int32), .int (0 : Int32), .int l2]) (rest := []) ⟨hx, hb, hml, hown, hu⟩ (t_Model_respond l G σ (416 : Int32) (0 : Int32) ((-1) : Int32) ((-1) : Int32) (0 : Int32) l2 s482 hC482) (cwV 6 hu (uw_V mw_1203 mw_1205 mw_26 mw_70 mw_1206) rfl rfl rfl hd_Model_respond ⟨Nat.le_of_ble_eq_true rfl, Nat.le_of_ble_eq_true rfl⟩) (x_preV hC hS hw (va_recv hK hw (q := (R_Model, T_Model, 33)) (ci := 10) rfl (x_at (by decide) (xcl_51 G σ)))) rfl rfl hl.1 rfl (lv_room (Nat.le_of_ble_eq_true rfl)) d_Model_tell_482 ⟨Nat.le_of_ble_eq_true rfl, Nat.le_of_ble_eq_true rfl⟩) (fun H locs hw hS => ?_)
      have e1 := Option.some.inj hE
      exact W.vret hx hb hr (fun t ht hW => ⟨rfl, by rw [ht, ← e1]; exact hw, hS.F ht⟩) hS.2.2 d_Model_tell_485
  have jn463 : ∀ (ls : Array Slot) (H : Heap) (locs : List Loc) (σ : St) (l2 : Int32) (l3 : Int32) (l5 : Int32) (k0 : Int32), x_Model_tell_463 a1 l2 l3 l5 k0 σ = some σ' → lv_has ls 15 [(0, .ref (G.2.1 51)), (1, .int a1), (2, .int l2), (3, .int l3), (5, .int l5)] → xw G σ H → va_S (xA G) s.heap H locs → W p l e (headSpec (ws_Model_tell) rm_Model_tell).room s m ([.ref (G.2.1 51), .int a1] : List Value).toArray below meth c H locs 0 0 (MQ below (xQ G none σ') ([.ref (G.2.1 51), .int a1] : List Value).toArray s 0 0 (xA G)) (F0 m 463 ls [.int k0]) := by
    intro ls H locs σ l2 l3 l5 k0 hE hl hw hS
    unfold x_Model_tell_463 at hE
    refine lv_istore hx hb d_Model_tell_463 hl (by decide) rfl (fun ls hl => ?_)
    have hl : lv_has ls 15 [(4, .int k0), (0, .ref (G.2.1 51)), (1, .int a1), (2, .int l2), (3, .int l3), (5, .int l5)] := hl
    exact jn465 _ _ _ _ _ _ _ _ hE (lv_sub hl [1, 2, 3, 4, 0, 5] rfl) hw hS
  have jn462 : ∀ (ls : Array Slot) (H : Heap) (locs : List Loc) (σ : St) (l2 : Int32) (l3 : Int32) (l5 : Int32), x_Model_tell_462 a1 l2 l3 l5 σ = some σ' → lv_has ls 15 [(0, .ref (G.2.1 51)), (1, .int a1), (2, .int l2), (3, .int l3), (5, .int l5)] → xw G σ H → va_S (xA G) s.heap H locs → W p l e (headSpec (ws_Model_tell) rm_Model_tell).room s m ([.ref (G.2.1 51), .int a1] : List Value).toArray below meth c H locs 0 0 (MQ below (xQ G none σ') ([.ref (G.2.1 51), .int a1] : List Value).toArray s 0 0 (xA G)) (F0 m 462 ls []) := by
    intro ls H locs σ l2 l3 l5 hE hl hw hS
    unfold x_Model_tell_462 at hE
    refine lv_iload_n hx hb d_Model_tell_462 rfl (lv_at hl 2 rfl) ?_
    exact jn463 _ _ _ _ _ _ _ _ hE (lv_sub hl [0, 1, 2, 3, 4] rfl) hw hS
  have jn436 : ∀ (ls : Array Slot) (H : Heap) (locs : List Loc) (σ : St) (l2 : Int32) (l5 : Int32) (l11 : Int32) (l12 : Int32) (l14 : Int32) (k0 : Int32), x_Model_tell_436 a1 l2 l5 l11 l12 l14 k0 σ = some σ' → lv_has ls 15 [(0, .ref (G.2.1 51)), (1, .int a1), (2, .int l2), (5, .int l5), (11, .int l11), (12, .int l12), (14, .int l14)] → xw G σ H → va_S (xA G) s.heap H locs → W p l e (headSpec (ws_Model_tell) rm_Model_tell).room s m ([.ref (G.2.1 51), .int a1] : List Value).toArray below meth c H locs 0 0 (MQ below (xQ G none σ') ([.ref (G.2.1 51), .int a1] : List Value).toArray s 0 0 (xA G)) (F0 m 436 ls [.int k0]) := by
    intro ls H locs σ l2 l5 l11 l12 l14 k0 hE hl hw hS
    unfold x_Model_tell_436 at hE
    refine lv_istore_n hx hb d_Model_tell_436 rfl hl (by decide) rfl (fun ls hl => ?_)
    have hl : lv_has ls 15 [(3, .int k0), (0, .ref (G.2.1 51)), (1, .int a1), (2, .int l2), (5, .int l5), (11, .int l11), (12, .int l12), (14, .int l14)] := hl
    refine lv_iload hx hb d_Model_tell_437 (lv_at hl 5 rfl) ?_
    refine lv_if_eq (tgt := 462) hx hb d_Model_tell_439 (by decide) (fun hc439 => ?_) (fun hc439 => ?_)
    · rw [if_pos hc439] at hE
      exact jn462 _ _ _ _ _ _ _ hE (lv_sub hl [1, 2, 3, 0, 4] rfl) hw hS
    · rw [if_neg hc439] at hE
      refine lv_iload hx hb d_Model_tell_442 (lv_at hl 6 rfl) ?_
      refine lv_if_eq (tgt := 462) hx hb d_Model_tell_444 (by decide) (fun hc444 => ?_) (fun hc444 => ?_)
      · rw [if_pos hc444] at hE
        exact jn462 _ _ _ _ _ _ _ hE (lv_sub hl [1, 2, 3, 0, 4] rfl) hw hS
      · rw [if_neg hc444] at hE
        refine lv_iload hx hb d_Model_tell_447 (lv_at hl 7 rfl) ?_
        refine lv_iconst (v := (1 : Int32)) hx hb d_Model_tell_449 (by decide) ?_
        refine lv_iadd hx hb d_Model_tell_450 ?_
        refine lv_iload_n hx hb d_Model_tell_451 rfl (lv_at hl 3 rfl) ?_
        refine lv_icmp_ge (tgt := 462) hx hb d_Model_tell_452 (by decide) (fun hc452 => ?_) (fun hc452 => ?_)
        · rw [if_pos hc452] at hE
          exact jn462 _ _ _ _ _ _ _ hE (lv_sub hl [1, 2, 3, 0, 4] rfl) hw hS
        · rw [if_neg hc452] at hE
          refine lv_iload hx hb d_Model_tell_455 (lv_at hl 7 rfl) ?_
          refine lv_iconst (v := (1 : Int32)) hx hb d_Model_tell_457 (by decide) ?_
          refine lv_iadd hx hb d_Model_tell_458 ?_
          refine lv_goto (tgt := 463) hx hb d_Model_tell_459 (by decide) ?_
          exact jn463 _ _ _ _ _ _ _ _ hE (lv_sub hl [1, 2, 3, 0, 4] rfl) hw hS
  have jn409 : ∀ (ls : Array Slot) (H : Heap) (locs : List Loc) (σ : St) (l2 : Int32) (l11 : Int32) (l12 : Int32) (l13 : Int32) (l14 : Int32) (k0 : Int32), x_Model_tell_409 a1 l2 l11 l12 l13 l14 k0 σ = some σ' → lv_has ls 15 [(0, .ref (G.2.1 51)), (1, .int a1), (2, .int l2), (11, .int l11), (12, .int l12), (13, .int l13), (14, .int l14)] → xw G σ H → va_S (xA G) s.heap H locs → W p l e (headSpec (ws_Model_tell) rm_Model_tell).room s m ([.ref (G.2.1 51), .int a1] : List Value).toArray below meth c H locs 0 0 (MQ below (xQ G none σ') ([.ref (G.2.1 51), .int a1] : List Value).toArray s 0 0 (xA G)) (F0 m 409 ls [.int k0]) := by
    intro ls H locs σ l2 l11 l12 l13 l14 k0 hE hl hw hS
    unfold x_Model_tell_409 at hE
    refine lv_istore hx hb d_Model_tell_409 hl (by decide) rfl (fun ls hl => ?_)
    have hl : lv_has ls 15 [(5, .int k0), (0, .ref (G.2.1 51)), (1, .int a1), (2, .int l2), (11, .int l11), (12, .int l12), (13, .int l13), (14, .int l14)] := hl
    refine lv_iload hx hb d_Model_tell_411 (lv_at hl 4 rfl) ?_
    refine lv_if_eq (tgt := 421) hx hb d_Model_tell_413 (by decide) (fun hc413 => ?_) (fun hc413 => ?_)
    · rw [if_pos hc413] at hE
      refine lv_iload_n hx hb d_Model_tell_421 rfl (lv_at hl 3 rfl) ?_
      refine lv_iload hx hb d_Model_tell_422 (lv_at hl 7 rfl) ?_
      refine lv_isub hx hb d_Model_tell_424 ?_
      refine lv_if_le (tgt := 435) hx hb d_Model_tell_425 (by decide) (fun hc425 => ?_) (fun hc425 => ?_)
      · rw [if_pos hc425] at hE
        refine lv_iconst (v := (0 : Int32)) hx hb d_Model_tell_435 (by decide) ?_
        exact jn436 _ _ _ _ _ _ _ _ _ _ hE (lv_sub hl [1, 2, 3, 0, 4, 5, 7] rfl) hw hS
      · rw [if_neg hc425] at hE
        refine lv_iload_n hx hb d_Model_tell_428 rfl (lv_at hl 3 rfl) ?_
        refine lv_iload hx hb d_Model_tell_429 (lv_at hl 7 rfl) ?_
        refine lv_isub hx hb d_Model_tell_431 ?_
        refine lv_goto (tgt := 436) hx hb d_Model_tell_432 (by decide) ?_
        exact jn436 _ _ _ _ _ _ _ _ _ _ hE (lv_sub hl [1, 2, 3, 0, 4, 5, 7] rfl) hw hS
    · rw [if_neg hc413] at hE
      refine lv_iload hx hb d_Model_tell_416 (lv_at hl 6 rfl) ?_
      refine lv_goto (tgt := 436) hx hb d_Model_tell_418 (by decide) ?_
      exact jn436 _ _ _ _ _ _ _ _ _ _ hE (lv_sub hl [1, 2, 3, 0, 4, 5, 7] rfl) hw hS
  have jn400 : ∀ (ls : Array Slot) (H : Heap) (locs : List Loc) (σ : St) (l2 : Int32) (l11 : Int32) (l12 : Int32) (l13 : Int32) (l14 : Int32), x_Model_tell_400 a1 l2 l11 l12 l13 l14 σ = some σ' → lv_has ls 15 [(0, .ref (G.2.1 51)), (1, .int a1), (2, .int l2), (11, .int l11), (12, .int l12), (13, .int l13), (14, .int l14)] → xw G σ H → va_S (xA G) s.heap H locs → W p l e (headSpec (ws_Model_tell) rm_Model_tell).room s m ([.ref (G.2.1 51), .int a1] : List Value).toArray below meth c H locs 0 0 (MQ below (xQ G none σ') ([.ref (G.2.1 51), .int a1] : List Value).toArray s 0 0 (xA G)) (F0 m 400 ls []) := by
    intro ls H locs σ l2 l11 l12 l13 l14 hE hl hw hS
    unfold x_Model_tell_400 at hE
    refine lv_sipush (v := (416 : Int32)) hx hb d_Model_tell_400 (by decide) ?_
    refine lv_goto (tgt := 409) hx hb d_Model_tell_403 (by decide) ?_
    exact jn409 _ _ _ _ _ _ _ _ _ _ hE (lv_sub hl [0, 1, 2, 3, 4, 5, 6] rfl) hw hS
  have jn406 : ∀ (ls : Array Slot) (H : Heap) (locs : List Loc) (σ : St) (l2 : Int32) (l11 : Int32) (l12 : Int32) (l13 : Int32) (l14 : Int32), x_Model_tell_406 a1 l2 l11 l12 l13 l14 σ = some σ' → lv_has ls 15 [(0, .ref (G.2.1 51)), (1, .int a1), (2, .int l2), (11, .int l11), (12, .int l12), (13, .int l13), (14, .int l14)] → xw G σ H → va_S (xA G) s.heap H locs → W p l e (headSpec (ws_Model_tell) rm_Model_tell).room s m ([.ref (G.2.1 51), .int a1] : List Value).toArray below meth c H locs 0 0 (MQ below (xQ G none σ') ([.ref (G.2.1 51), .int a1] : List Value).toArray s 0 0 (xA G)) (F0 m 406 ls []) := by
    intro ls H locs σ l2 l11 l12 l13 l14 hE hl hw hS
    unfold x_Model_tell_406 at hE
    refine lv_sipush (v := (206 : Int32)) hx hb d_Model_tell_406 (by decide) ?_
    exact jn409 _ _ _ _ _ _ _ _ _ _ hE (lv_sub hl [0, 1, 2, 3, 4, 5, 6] rfl) hw hS
  have jn378 : ∀ (ls : Array Slot) (H : Heap) (locs : List Loc) (σ : St) (l2 : Int32) (l3 : Int32) (l4 : Int32) (l5 : Int32) (l11 : Int32) (l12 : Int32) (l13 : Int32) (l14 : Int32) (k0 : Int32), x_Model_tell_378 a1 l2 l3 l4 l5 l11 l12 l13 l14 k0 σ = some σ' → lv_has ls 15 [(0, .ref (G.2.1 51)), (1, .int a1), (2, .int l2), (3, .int l3), (4, .int l4), (5, .int l5), (11, .int l11), (12, .int l12), (13, .int l13), (14, .int l14)] → xw G σ H → va_S (xA G) s.heap H locs → W p l e (headSpec (ws_Model_tell) rm_Model_tell).room s m ([.ref (G.2.1 51), .int a1] : List Value).toArray below meth c H locs 0 0 (MQ below (xQ G none σ') ([.ref (G.2.1 51), .int a1] : List Value).toArray s 0 0 (xA G)) (F0 m 378 ls [.int k0]) := by
    intro ls H locs σ l2 l3 l4 l5 l11 l12 l13 l14 k0 hE hl hw hS
    unfold x_Model_tell_378 at hE
    refine lv_istore hx hb d_Model_tell_378 hl (by decide) rfl (fun ls hl => ?_)
    have hl : lv_has ls 15 [(10, .int k0), (0, .ref (G.2.1 51)), (1, .int a1), (2, .int l2), (3, .int l3), (4, .int l4), (5, .int l5), (11, .int l11), (12, .int l12), (13, .int l13), (14, .int l14)] := hl
    refine lv_iload hx hb d_Model_tell_380 (lv_at hl 0 rfl) ?_
    refine lv_if_eq (tgt := 465) hx hb d_Model_tell_382 (by decide) (fun hc382 => ?_) (fun hc382 => ?_)
    · rw [if_pos hc382] at hE
      exact jn465 _ _ _ _ _ _ _ _ hE (lv_sub hl [1, 2, 3, 4, 5, 6] rfl) hw hS
    · rw [if_neg hc382] at hE
      refine lv_iload_n hx hb d_Model_tell_385 rfl (lv_at hl 3 rfl) ?_
      refine lv_if_eq (tgt := 400) hx hb d_Model_tell_386 (by decide) (fun hc386 => ?_) (fun hc386 => ?_)
      · rw [if_pos hc386] at hE
        exact jn400 _ _ _ _ _ _ _ _ _ hE (lv_sub hl [1, 2, 3, 7, 8, 9, 10] rfl) hw hS
      · rw [if_neg hc386] at hE
        refine lv_iload hx hb d_Model_tell_389 (lv_at hl 7 rfl) ?_
        refine lv_if_eq (tgt := 406) hx hb d_Model_tell_391 (by decide) (fun hc391 => ?_) (fun hc391 => ?_)
        · rw [if_pos hc391] at hE
          exact jn406 _ _ _ _ _ _ _ _ _ hE (lv_sub hl [1, 2, 3, 7, 8, 9, 10] rfl) hw hS
        · rw [if_neg hc391] at hE
          refine lv_iload hx hb d_Model_tell_394 (lv_at hl 9 rfl) ?_
          refine lv_iload_n hx hb d_Model_tell_396 rfl (lv_at hl 3 rfl) ?_
          refine lv_icmp_lt (tgt := 406) hx hb d_Model_tell_397 (by decide) (fun hc397 => ?_) (fun hc397 => ?_)
          · rw [if_pos hc397] at hE
            exact jn406 _ _ _ _ _ _ _ _ _ hE (lv_sub hl [1, 2, 3, 7, 8, 9, 10] rfl) hw hS
          · rw [if_neg hc397] at hE
            exact jn400 _ _ _ _ _ _ _ _ _ hE (lv_sub hl [1, 2, 3, 7, 8, 9, 10] rfl) hw hS
  have jn377 : ∀ (ls : Array Slot) (H : Heap) (locs : List Loc) (σ : St) (l2 : Int32) (l3 : Int32) (l4 : Int32) (l5 : Int32) (l11 : Int32) (l12 : Int32) (l13 : Int32) (l14 : Int32), x_Model_tell_377 a1 l2 l3 l4 l5 l11 l12 l13 l14 σ = some σ' → lv_has ls 15 [(0, .ref (G.2.1 51)), (1, .int a1), (2, .int l2), (3, .int l3), (4, .int l4), (5, .int l5), (11, .int l11), (12, .int l12), (13, .int l13), (14, .int l14)] → xw G σ H → va_S (xA G) s.heap H locs → W p l e (headSpec (ws_Model_tell) rm_Model_tell).room s m ([.ref (G.2.1 51), .int a1] : List Value).toArray below meth c H locs 0 0 (MQ below (xQ G none σ') ([.ref (G.2.1 51), .int a1] : List Value).toArray s 0 0 (xA G)) (F0 m 377 ls []) := by
    intro ls H locs σ l2 l3 l4 l5 l11 l12 l13 l14 hE hl hw hS
    unfold x_Model_tell_377 at hE
    refine lv_iconst (v := (0 : Int32)) hx hb d_Model_tell_377 (by decide) ?_
    exact jn378 _ _ _ _ _ _ _ _ _ _ _ _ _ hE (lv_sub hl [0, 1, 2, 3, 4, 5, 6, 7, 8, 9] rfl) hw hS
  have jn373 : ∀ (ls : Array Slot) (H : Heap) (locs : List Loc) (σ : St) (l2 : Int32) (l3 : Int32) (l4 : Int32) (l5 : Int32) (l11 : Int32) (l12 : Int32) (l13 : Int32) (l14 : Int32), x_Model_tell_373 a1 l2 l3 l4 l5 l11 l12 l13 l14 σ = some σ' → lv_has ls 15 [(0, .ref (G.2.1 51)), (1, .int a1), (2, .int l2), (3, .int l3), (4, .int l4), (5, .int l5), (11, .int l11), (12, .int l12), (13, .int l13), (14, .int l14)] → xw G σ H → va_S (xA G) s.heap H locs → W p l e (headSpec (ws_Model_tell) rm_Model_tell).room s m ([.ref (G.2.1 51), .int a1] : List Value).toArray below meth c H locs 0 0 (MQ below (xQ G none σ') ([.ref (G.2.1 51), .int a1] : List Value).toArray s 0 0 (xA G)) (F0 m 373 ls []) := by
    intro ls H locs σ l2 l3 l4 l5 l11 l12 l13 l14 hE hl hw hS
    unfold x_Model_tell_373 at hE
    refine lv_iconst (v := (1 : Int32)) hx hb d_Model_tell_373 (by decide) ?_
    refine lv_goto (tgt := 378) hx hb d_Model_tell_374 (by decide) ?_
    exact jn378 _ _ _ _ _ _ _ _ _ _ _ _ _ hE (lv_sub hl [0, 1, 2, 3, 4, 5, 6, 7, 8, 9] rfl) hw hS
  have jn331 : ∀ (ls : Array Slot) (H : Heap) (locs : List Loc) (σ : St) (l2 : Int32) (l3 : Int32) (l4 : Int32) (l5 : Int32) (l10 : Int32) (l11 : Int32) (l12 : Int32) (l13 : Int32) (k0 : Int32), x_Model_tell_331 a1 l2 l3 l4 l5 l10 l11 l12 l13 k0 σ = some σ' → lv_has ls 15 [(0, .ref (G.2.1 51)), (1, .int a1), (2, .int l2), (3, .int l3), (4, .int l4), (5, .int l5), (10, .int l10), (11, .int l11), (12, .int l12), (13, .int l13)] → xw G σ H → va_S (xA G) s.heap H locs → W p l e (headSpec (ws_Model_tell) rm_Model_tell).room s m ([.ref (G.2.1 51), .int a1] : List Value).toArray below meth c H locs 0 0 (MQ below (xQ G none σ') ([.ref (G.2.1 51), .int a1] : List Value).toArray s 0 0 (xA G)) (F0 m 331 ls [.int k0]) := by
    intro ls H locs σ l2 l3 l4 l5 l10 l11 l12 l13 k0 hE hl hw hS
    unfold x_Model_tell_331 at hE
    refine lv_istore hx hb d_Model_tell_331 hl (by decide) rfl (fun ls hl => ?_)
    have hl : lv_has ls 15 [(14, .int k0), (0, .ref (G.2.1 51)), (1, .int a1), (2, .int l2), (3, .int l3), (4, .int l4), (5, .int l5), (10, .int l10), (11, .int l11), (12, .int l12), (13, .int l13)] := hl
    refine lv_iload hx hb d_Model_tell_333 (lv_at hl 7 rfl) ?_
    refine lv_if_eq (tgt := 377) hx hb d_Model_tell_335 (by decide) (fun hc335 => ?_) (fun hc335 => ?_)
    · rw [if_pos hc335] at hE
      exact jn377 _ _ _ _ _ _ _ _ _ _ _ _ hE (lv_sub hl [1, 2, 3, 4, 5, 6, 8, 9, 10, 0] rfl) hw hS
    · rw [if_neg hc335] at hE
      refine lv_iload hx hb d_Model_tell_338 (lv_at hl 10 rfl) ?_
      refine lv_if_lt (tgt := 377) hx hb d_Model_tell_340 (by decide) (fun hc340 => ?_) (fun hc340 => ?_)
      · rw [if_pos hc340] at hE
        exact jn377 _ _ _ _ _ _ _ _ _ _ _ _ hE (lv_sub hl [1, 2, 3, 4, 5, 6, 8, 9, 10, 0] rfl) hw hS
      · rw [if_neg hc340] at hE
        refine lv_iload hx hb d_Model_tell_343 (lv_at hl 0 rfl) ?_
        refine lv_if_lt (tgt := 377) hx hb d_Model_tell_345 (by decide) (fun hc345 => ?_) (fun hc345 => ?_)
        · rw [if_pos hc345] at hE
          exact jn377 _ _ _ _ _ _ _ _ _ _ _ _ hE (lv_sub hl [1, 2, 3, 4, 5, 6, 8, 9, 10, 0] rfl) hw hS
        · rw [if_neg hc345] at hE
          refine lv_iload hx hb d_Model_tell_348 (lv_at hl 8 rfl) ?_
          refine lv_if_eq (tgt := 368) hx hb d_Model_tell_350 (by decide) (fun hc350 => ?_) (fun hc350 => ?_)
          · rw [if_pos hc350] at hE
            refine lv_iload hx hb d_Model_tell_368 (lv_at hl 0 rfl) ?_
            refine lv_if_le (tgt := 377) hx hb d_Model_tell_370 (by decide) (fun hc370 => ?_) (fun hc370 => ?_)
            · rw [if_pos hc370] at hE
              exact jn377 _ _ _ _ _ _ _ _ _ _ _ _ hE (lv_sub hl [1, 2, 3, 4, 5, 6, 8, 9, 10, 0] rfl) hw hS
            · rw [if_neg hc370] at hE
              exact jn373 _ _ _ _ _ _ _ _ _ _ _ _ hE (lv_sub hl [1, 2, 3, 4, 5, 6, 8, 9, 10, 0] rfl) hw hS
          · rw [if_neg hc350] at hE
            refine lv_iload hx hb d_Model_tell_353 (lv_at hl 9 rfl) ?_
            refine lv_if_eq (tgt := 373) hx hb d_Model_tell_355 (by decide) (fun hc355 => ?_) (fun hc355 => ?_)
            · rw [if_pos hc355] at hE
              exact jn373 _ _ _ _ _ _ _ _ _ _ _ _ hE (lv_sub hl [1, 2, 3, 4, 5, 6, 8, 9, 10, 0] rfl) hw hS
            · rw [if_neg hc355] at hE
              refine lv_iload hx hb d_Model_tell_358 (lv_at hl 10 rfl) ?_
              refine lv_iload hx hb d_Model_tell_360 (lv_at hl 0 rfl) ?_
              refine lv_icmp_gt (tgt := 377) hx hb d_Model_tell_362 (by decide) (fun hc362 => ?_) (fun hc362 => ?_)
              · rw [if_pos hc362] at hE
                exact jn377 _ _ _ _ _ _ _ _ _ _ _ _ hE (lv_sub hl [1, 2, 3, 4, 5, 6, 8, 9, 10, 0] rfl) hw hS
              · rw [if_neg hc362] at hE
                refine lv_goto (tgt := 373) hx hb d_Model_tell_365 (by decide) ?_
                exact jn373 _ _ _ _ _ _ _ _ _ _ _ _ hE (lv_sub hl [1, 2, 3, 4, 5, 6, 8, 9, 10, 0] rfl) hw hS
  have jn330 : ∀ (ls : Array Slot) (H : Heap) (locs : List Loc) (σ : St) (l2 : Int32) (l3 : Int32) (l4 : Int32) (l5 : Int32) (l10 : Int32) (l11 : Int32) (l12 : Int32) (l13 : Int32), x_Model_tell_330 a1 l2 l3 l4 l5 l10 l11 l12 l13 σ = some σ' → lv_has ls 15 [(0, .ref (G.2.1 51)), (1, .int a1), (2, .int l2), (3, .int l3), (4, .int l4), (5, .int l5), (10, .int l10), (11, .int l11), (12, .int l12), (13, .int l13)] → xw G σ H → va_S (xA G) s.heap H locs → W p l e (headSpec (ws_Model_tell) rm_Model_tell).room s m ([.ref (G.2.1 51), .int a1] : List Value).toArray below meth c H locs 0 0 (MQ below (xQ G none σ') ([.ref (G.2.1 51), .int a1] : List Value).toArray s 0 0 (xA G)) (F0 m 330 ls []) := by
    intro ls H locs σ l2 l3 l4 l5 l10 l11 l12 l13 hE hl hw hS
    unfold x_Model_tell_330 at hE
    refine lv_iconst (v := (0 : Int32)) hx hb d_Model_tell_330 (by decide) ?_
    exact jn331 _ _ _ _ _ _ _ _ _ _ _ _ _ hE (lv_sub hl [0, 1, 2, 3, 4, 5, 6, 7, 8, 9] rfl) hw hS
  have jn305 : ∀ (ls : Array Slot) (H : Heap) (locs : List Loc) (σ : St) (l2 : Int32) (l3 : Int32) (l4 : Int32) (l5 : Int32) (l8 : Int32) (l9 : Int32) (l10 : Int32) (l11 : Int32) (l12 : Int32) (k0 : Int32), x_Model_tell_305 a1 l2 l3 l4 l5 l8 l9 l10 l11 l12 k0 σ = some σ' → lv_has ls 15 [(0, .ref (G.2.1 51)), (1, .int a1), (2, .int l2), (3, .int l3), (4, .int l4), (5, .int l5), (8, .int l8), (9, .int l9), (10, .int l10), (11, .int l11), (12, .int l12)] → xw G σ H → va_S (xA G) s.heap H locs → W p l e (headSpec (ws_Model_tell) rm_Model_tell).room s m ([.ref (G.2.1 51), .int a1] : List Value).toArray below meth c H locs 0 0 (MQ below (xQ G none σ') ([.ref (G.2.1 51), .int a1] : List Value).toArray s 0 0 (xA G)) (F0 m 305 ls [.int k0]) := by
    intro ls H locs σ l2 l3 l4 l5 l8 l9 l10 l11 l12 k0 hE hl hw hS
    unfold x_Model_tell_305 at hE
    refine lv_istore hx hb d_Model_tell_305 hl (by decide) rfl (fun ls hl => ?_)
    have hl : lv_has ls 15 [(13, .int k0), (0, .ref (G.2.1 51)), (1, .int a1), (2, .int l2), (3, .int l3), (4, .int l4), (5, .int l5), (8, .int l8), (9, .int l9), (10, .int l10), (11, .int l11), (12, .int l12)] := hl
    refine lv_iload hx hb d_Model_tell_307 (lv_at hl 9 rfl) ?_
    refine lv_if_eq (tgt := 330) hx hb d_Model_tell_309 (by decide) (fun hc309 => ?_) (fun hc309 => ?_)
    · rw [if_pos hc309] at hE
      exact jn330 _ _ _ _ _ _ _ _ _ _ _ _ hE (lv_sub hl [1, 2, 3, 4, 5, 6, 9, 10, 11, 0] rfl) hw hS
    · rw [if_neg hc309] at hE
      refine lv_iload hx hb d_Model_tell_312 (lv_at hl 11 rfl) ?_
      refine lv_if_eq (tgt := 330) hx hb d_Model_tell_314 (by decide) (fun hc314 => ?_) (fun hc314 => ?_)
      · rw [if_pos hc314] at hE
        exact jn330 _ _ _ _ _ _ _ _ _ _ _ _ hE (lv_sub hl [1, 2, 3, 4, 5, 6, 9, 10, 11, 0] rfl) hw hS
      · rw [if_neg hc314] at hE
        refine lv_aload_n hx hb d_Model_tell_317 rfl (lv_at hl 1 rfl) ?_
        refine lv_iload hx hb d_Model_tell_318 (lv_at hl 8 rfl) ?_
        refine lv_iconst (v := (1 : Int32)) hx hb d_Model_tell_320 (by decide) ?_
        refine lv_iadd hx hb d_Model_tell_321 ?_
        refine lv_iload hx hb d_Model_tell_322 (lv_at hl 7 rfl) ?_
        obtain ⟨r324, hC324, hE⟩ := x_bind hE
        refine x_callR (W.runV (As := [.int (l9 + (1 : Int32)), .int l8]) (rest := []) ⟨hx, hb, hml, hown, hu⟩ (t_Model_numberAt l G σ (l9 + (1 : Int32)) l8 r324 hC324) (cwV 2 hu (uw_V mw_1263 mw_1265 mw_41 mw_70 mw_1266) rfl rfl rfl hd_Model_numberAt ⟨Nat.le_of_ble_eq_true rfl, Nat.le_of_ble_eq_true rfl⟩) (x_preV hC hS hw (va_recv hK hw (q := (R_Model, T_Model, 33)) (ci := 10) rfl (x_at (by decide) (xcl_51 G σ)))) rfl rfl hl.1 rfl (lv_room (Nat.le_of_ble_eq_true rfl)) d_Model_tell_324 ⟨Nat.le_of_ble_eq_true rfl, Nat.le_of_ble_eq_true rfl⟩) ?_
        refine lv_goto (tgt := 331) hx hb d_Model_tell_327 (by decide) ?_
        exact jn331 _ _ _ _ _ _ _ _ _ _ _ _ _ hE (lv_sub hl [1, 2, 3, 4, 5, 6, 9, 10, 11, 0] rfl) hw hS
  have jn304 : ∀ (ls : Array Slot) (H : Heap) (locs : List Loc) (σ : St) (l2 : Int32) (l3 : Int32) (l4 : Int32) (l5 : Int32) (l8 : Int32) (l9 : Int32) (l10 : Int32) (l11 : Int32) (l12 : Int32), x_Model_tell_304 a1 l2 l3 l4 l5 l8 l9 l10 l11 l12 σ = some σ' → lv_has ls 15 [(0, .ref (G.2.1 51)), (1, .int a1), (2, .int l2), (3, .int l3), (4, .int l4), (5, .int l5), (8, .int l8), (9, .int l9), (10, .int l10), (11, .int l11), (12, .int l12)] → xw G σ H → va_S (xA G) s.heap H locs → W p l e (headSpec (ws_Model_tell) rm_Model_tell).room s m ([.ref (G.2.1 51), .int a1] : List Value).toArray below meth c H locs 0 0 (MQ below (xQ G none σ') ([.ref (G.2.1 51), .int a1] : List Value).toArray s 0 0 (xA G)) (F0 m 304 ls []) := by
    intro ls H locs σ l2 l3 l4 l5 l8 l9 l10 l11 l12 hE hl hw hS
    unfold x_Model_tell_304 at hE
    refine lv_iconst (v := (0 : Int32)) hx hb d_Model_tell_304 (by decide) ?_
    exact jn305 _ _ _ _ _ _ _ _ _ _ _ _ _ _ hE (lv_sub hl [0, 1, 2, 3, 4, 5, 6, 7, 8, 9, 10] rfl) hw hS
  have jn278 : ∀ (ls : Array Slot) (H : Heap) (locs : List Loc) (σ : St) (l2 : Int32) (l3 : Int32) (l4 : Int32) (l5 : Int32) (l7 : Int32) (l8 : Int32) (l9 : Int32) (l10 : Int32) (l11 : Int32) (k0 : Int32), x_Model_tell_278 a1 l2 l3 l4 l5 l7 l8 l9 l10 l11 k0 σ = some σ' → lv_has ls 15 [(0, .ref (G.2.1 51)), (1, .int a1), (2, .int l2), (3, .int l3), (4, .int l4), (5, .int l5), (7, .int l7), (8, .int l8), (9, .int l9), (10, .int l10), (11, .int l11)] → xw G σ H → va_S (xA G) s.heap H locs → W p l e (headSpec (ws_Model_tell) rm_Model_tell).room s m ([.ref (G.2.1 51), .int a1] : List Value).toArray below meth c H locs 0 0 (MQ below (xQ G none σ') ([.ref (G.2.1 51), .int a1] : List Value).toArray s 0 0 (xA G)) (F0 m 278 ls [.int k0]) := by
    intro ls H locs σ l2 l3 l4 l5 l7 l8 l9 l10 l11 k0 hE hl hw hS
    unfold x_Model_tell_278 at hE
    refine lv_istore hx hb d_Model_tell_278 hl (by decide) rfl (fun ls hl => ?_)
    have hl : lv_has ls 15 [(12, .int k0), (0, .ref (G.2.1 51)), (1, .int a1), (2, .int l2), (3, .int l3), (4, .int l4), (5, .int l5), (7, .int l7), (8, .int l8), (9, .int l9), (10, .int l10), (11, .int l11)] := hl
    refine lv_iload hx hb d_Model_tell_280 (lv_at hl 10 rfl) ?_
    refine lv_if_eq (tgt := 304) hx hb d_Model_tell_282 (by decide) (fun hc282 => ?_) (fun hc282 => ?_)
    · rw [if_pos hc282] at hE
      exact jn304 _ _ _ _ _ _ _ _ _ _ _ _ _ hE (lv_sub hl [1, 2, 3, 4, 5, 6, 8, 9, 10, 11, 0] rfl) hw hS
    · rw [if_neg hc282] at hE
      refine lv_iload hx hb d_Model_tell_285 (lv_at hl 11 rfl) ?_
      refine lv_if_eq (tgt := 304) hx hb d_Model_tell_287 (by decide) (fun hc287 => ?_) (fun hc287 => ?_)
      · rw [if_pos hc287] at hE
        exact jn304 _ _ _ _ _ _ _ _ _ _ _ _ _ hE (lv_sub hl [1, 2, 3, 4, 5, 6, 8, 9, 10, 11, 0] rfl) hw hS
      · rw [if_neg hc287] at hE
        refine lv_aload_n hx hb d_Model_tell_290 rfl (lv_at hl 1 rfl) ?_
        refine lv_iload hx hb d_Model_tell_291 (lv_at hl 7 rfl) ?_
        refine lv_bipush (v := (6 : Int32)) hx hb d_Model_tell_293 (by decide) ?_
        refine lv_iadd hx hb d_Model_tell_295 ?_
        refine lv_iload hx hb d_Model_tell_296 (lv_at hl 9 rfl) ?_
        obtain ⟨r298, hC298, hE⟩ := x_bind hE
        refine x_callR (W.runV (As := [.int (l7 + (6 : Int32)), .int l9]) (rest := []) ⟨hx, hb, hml, hown, hu⟩ (t_Model_numberAt l G σ (l7 + (6 : Int32)) l9 r298 hC298) (cwV 2 hu (uw_V mw_1263 mw_1265 mw_41 mw_70 mw_1266) rfl rfl rfl hd_Model_numberAt ⟨Nat.le_of_ble_eq_true rfl, Nat.le_of_ble_eq_true rfl⟩) (x_preV hC hS hw (va_recv hK hw (q := (R_Model, T_Model, 33)) (ci := 10) rfl (x_at (by decide) (xcl_51 G σ)))) rfl rfl hl.1 rfl (lv_room (Nat.le_of_ble_eq_true rfl)) d_Model_tell_298 ⟨Nat.le_of_ble_eq_true rfl, Nat.le_of_ble_eq_true rfl⟩) ?_
        refine lv_goto (tgt := 305) hx hb d_Model_tell_301 (by decide) ?_
        exact jn305 _ _ _ _ _ _ _ _ _ _ _ _ _ _ hE (lv_sub hl [1, 2, 3, 4, 5, 6, 8, 9, 10, 11, 0] rfl) hw hS
  have jn262 : ∀ (ls : Array Slot) (H : Heap) (locs : List Loc) (σ : St) (l2 : Int32) (l3 : Int32) (l4 : Int32) (l5 : Int32) (l7 : Int32) (l8 : Int32) (l9 : Int32) (l10 : Int32) (k0 : Int32), x_Model_tell_262 a1 l2 l3 l4 l5 l7 l8 l9 l10 k0 σ = some σ' → lv_has ls 15 [(0, .ref (G.2.1 51)), (1, .int a1), (2, .int l2), (3, .int l3), (4, .int l4), (5, .int l5), (7, .int l7), (8, .int l8), (9, .int l9), (10, .int l10)] → xw G σ H → va_S (xA G) s.heap H locs → W p l e (headSpec (ws_Model_tell) rm_Model_tell).room s m ([.ref (G.2.1 51), .int a1] : List Value).toArray below meth c H locs 0 0 (MQ below (xQ G none σ') ([.ref (G.2.1 51), .int a1] : List Value).toArray s 0 0 (xA G)) (F0 m 262 ls [.int k0]) := by
    intro ls H locs σ l2 l3 l4 l5 l7 l8 l9 l10 k0 hE hl hw hS
    unfold x_Model_tell_262 at hE
    refine lv_istore hx hb d_Model_tell_262 hl (by decide) rfl (fun ls hl => ?_)
    have hl : lv_has ls 15 [(11, .int k0), (0, .ref (G.2.1 51)), (1, .int a1), (2, .int l2), (3, .int l3), (4, .int l4), (5, .int l5), (7, .int l7), (8, .int l8), (9, .int l9), (10, .int l10)] := hl
    refine lv_iload hx hb d_Model_tell_264 (lv_at hl 9 rfl) ?_
    refine lv_iconst (v := (1 : Int32)) hx hb d_Model_tell_266 (by decide) ?_
    refine lv_iadd hx hb d_Model_tell_267 ?_
    refine lv_iload hx hb d_Model_tell_268 (lv_at hl 8 rfl) ?_
    refine lv_icmp_ge (tgt := 277) hx hb d_Model_tell_270 (by decide) (fun hc270 => ?_) (fun hc270 => ?_)
    · rw [if_pos hc270] at hE
      refine lv_iconst (v := (0 : Int32)) hx hb d_Model_tell_277 (by decide) ?_
      exact jn278 _ _ _ _ _ _ _ _ _ _ _ _ _ _ hE (lv_sub hl [1, 2, 3, 4, 5, 6, 7, 8, 9, 10, 0] rfl) hw hS
    · rw [if_neg hc270] at hE
      refine lv_iconst (v := (1 : Int32)) hx hb d_Model_tell_273 (by decide) ?_
      refine lv_goto (tgt := 278) hx hb d_Model_tell_274 (by decide) ?_
      exact jn278 _ _ _ _ _ _ _ _ _ _ _ _ _ _ hE (lv_sub hl [1, 2, 3, 4, 5, 6, 7, 8, 9, 10, 0] rfl) hw hS
  have jn245 : ∀ (ls : Array Slot) (H : Heap) (locs : List Loc) (σ : St) (l2 : Int32) (l3 : Int32) (l4 : Int32) (l5 : Int32) (l7 : Int32) (l8 : Int32) (l9 : Int32) (k0 : Int32), x_Model_tell_245 a1 l2 l3 l4 l5 l7 l8 l9 k0 σ = some σ' → lv_has ls 15 [(0, .ref (G.2.1 51)), (1, .int a1), (2, .int l2), (3, .int l3), (4, .int l4), (5, .int l5), (7, .int l7), (8, .int l8), (9, .int l9)] → xw G σ H → va_S (xA G) s.heap H locs → W p l e (headSpec (ws_Model_tell) rm_Model_tell).room s m ([.ref (G.2.1 51), .int a1] : List Value).toArray below meth c H locs 0 0 (MQ below (xQ G none σ') ([.ref (G.2.1 51), .int a1] : List Value).toArray s 0 0 (xA G)) (F0 m 245 ls [.int k0]) := by
    intro ls H locs σ l2 l3 l4 l5 l7 l8 l9 k0 hE hl hw hS
    unfold x_Model_tell_245 at hE
    refine lv_istore hx hb d_Model_tell_245 hl (by decide) rfl (fun ls hl => ?_)
    have hl : lv_has ls 15 [(10, .int k0), (0, .ref (G.2.1 51)), (1, .int a1), (2, .int l2), (3, .int l3), (4, .int l4), (5, .int l5), (7, .int l7), (8, .int l8), (9, .int l9)] := hl
    refine lv_iload hx hb d_Model_tell_247 (lv_at hl 9 rfl) ?_
    refine lv_iload hx hb d_Model_tell_249 (lv_at hl 7 rfl) ?_
    refine lv_bipush (v := (6 : Int32)) hx hb d_Model_tell_251 (by decide) ?_
    refine lv_iadd hx hb d_Model_tell_253 ?_
    refine lv_icmp_le (tgt := 261) hx hb d_Model_tell_254 (by decide) (fun hc254 => ?_) (fun hc254 => ?_)
    · rw [if_pos hc254] at hE
      refine lv_iconst (v := (0 : Int32)) hx hb d_Model_tell_261 (by decide) ?_
      exact jn262 _ _ _ _ _ _ _ _ _ _ _ _ _ hE (lv_sub hl [1, 2, 3, 4, 5, 6, 7, 8, 9, 0] rfl) hw hS
    · rw [if_neg hc254] at hE
      refine lv_iconst (v := (1 : Int32)) hx hb d_Model_tell_257 (by decide) ?_
      refine lv_goto (tgt := 262) hx hb d_Model_tell_258 (by decide) ?_
      exact jn262 _ _ _ _ _ _ _ _ _ _ _ _ _ hE (lv_sub hl [1, 2, 3, 4, 5, 6, 7, 8, 9, 0] rfl) hw hS
  have jn244 : ∀ (ls : Array Slot) (H : Heap) (locs : List Loc) (σ : St) (l2 : Int32) (l3 : Int32) (l4 : Int32) (l5 : Int32) (l7 : Int32) (l8 : Int32) (l9 : Int32), x_Model_tell_244 a1 l2 l3 l4 l5 l7 l8 l9 σ = some σ' → lv_has ls 15 [(0, .ref (G.2.1 51)), (1, .int a1), (2, .int l2), (3, .int l3), (4, .int l4), (5, .int l5), (7, .int l7), (8, .int l8), (9, .int l9)] → xw G σ H → va_S (xA G) s.heap H locs → W p l e (headSpec (ws_Model_tell) rm_Model_tell).room s m ([.ref (G.2.1 51), .int a1] : List Value).toArray below meth c H locs 0 0 (MQ below (xQ G none σ') ([.ref (G.2.1 51), .int a1] : List Value).toArray s 0 0 (xA G)) (F0 m 244 ls []) := by
    intro ls H locs σ l2 l3 l4 l5 l7 l8 l9 hE hl hw hS
    unfold x_Model_tell_244 at hE
    refine lv_iconst (v := (0 : Int32)) hx hb d_Model_tell_244 (by decide) ?_
    exact jn245 _ _ _ _ _ _ _ _ _ _ _ _ hE (lv_sub hl [0, 1, 2, 3, 4, 5, 6, 7, 8] rfl) hw hS
  have jn208 : ∀ (ls : Array Slot) (H : Heap) (locs : List Loc) (σ : St) (l2 : Int32) (l3 : Int32) (l4 : Int32) (l5 : Int32) (l7 : Int32) (l8 : Int32) (l9 : Int32), x_Model_tell_208 a1 l2 l3 l4 l5 l7 l8 l9 σ = some σ' → lv_has ls 15 [(0, .ref (G.2.1 51)), (1, .int a1), (2, .int l2), (3, .int l3), (4, .int l4), (5, .int l5), (7, .int l7), (8, .int l8), (9, .int l9)] → xw G σ H → va_S (xA G) s.heap H locs → W p l e (headSpec (ws_Model_tell) rm_Model_tell).room s m ([.ref (G.2.1 51), .int a1] : List Value).toArray below meth c H locs 0 0 (MQ below (xQ G none σ') ([.ref (G.2.1 51), .int a1] : List Value).toArray s 0 0 (xA G)) (F0 m 208 ls []) := by
    intro ls H locs σ l2 l3 l4 l5 l7 l8 l9 hE hl hw hS
    unfold x_Model_tell_208 at hE
    refine lv_iload hx hb d_Model_tell_208 (lv_at hl 8 rfl) ?_
    refine lv_iload hx hb d_Model_tell_210 (lv_at hl 7 rfl) ?_
    refine lv_icmp_ge (tgt := 244) hx hb d_Model_tell_212 (by decide) (fun hc212 => ?_) (fun hc212 => ?_)
    · rw [if_pos hc212] at hE
      exact jn244 _ _ _ _ _ _ _ _ _ _ _ hE (lv_sub hl [0, 1, 2, 3, 4, 5, 6, 7, 8] rfl) hw hS
    · rw [if_neg hc212] at hE
      refine lv_iload hx hb d_Model_tell_215 (lv_at hl 8 rfl) ?_
      refine lv_iload hx hb d_Model_tell_217 (lv_at hl 6 rfl) ?_
      refine lv_isub hx hb d_Model_tell_219 ?_
      refine lv_iconst (v := (5 : Int32)) hx hb d_Model_tell_220 (by decide) ?_
      refine lv_icmp_le (tgt := 244) hx hb d_Model_tell_221 (by decide) (fun hc221 => ?_) (fun hc221 => ?_)
      · rw [if_pos hc221] at hE
        exact jn244 _ _ _ _ _ _ _ _ _ _ _ hE (lv_sub hl [0, 1, 2, 3, 4, 5, 6, 7, 8] rfl) hw hS
      · rw [if_neg hc221] at hE
        refine lv_aload_n hx hb d_Model_tell_224 rfl (lv_at hl 0 rfl) ?_
        refine lv_iload hx hb d_Model_tell_225 (lv_at hl 6 rfl) ?_
        refine lv_iload hx hb d_Model_tell_227 (lv_at hl 6 rfl) ?_
        refine lv_bipush (v := (6 : Int32)) hx hb d_Model_tell_229 (by decide) ?_
        refine lv_iadd hx hb d_Model_tell_231 ?_
        refine lv_bipush (v := (114 : Int32)) hx hb d_Model_tell_232 (by decide) ?_
        obtain ⟨r234, hC234, hE⟩ := x_bind hE
        refine x_callR (W.runV (As := [.int l7, .int (l7 + (6 : Int32)), .int (114 : Int32)]) (rest := []) ⟨hx, hb, hml, hown, hu⟩ (t_Model_isWord l G σ l7 (l7 + (6 : Int32)) (114 : Int32) r234 hC234) (cwV 3 hu (uw_V mw_1251 mw_1253 mw_38 mw_70 mw_1254) rfl rfl rfl hd_Model_isWord ⟨Nat.le_of_ble_eq_true rfl, Nat.le_of_ble_eq_true rfl⟩) (x_preV hC hS hw (va_recv hK hw (q := (R_Model, T_Model, 33)) (ci := 10) rfl (x_at (by decide) (xcl_51 G σ)))) rfl rfl hl.1 rfl (lv_room (Nat.le_of_ble_eq_true rfl)) d_Model_tell_234 ⟨Nat.le_of_ble_eq_true rfl, Nat.le_of_ble_eq_true rfl⟩) ?_
        refine lv_if_eq (tgt := 244) hx hb d_Model_tell_237 (by decide) (fun hc237 => ?_) (fun hc237 => ?_)
        · rw [if_pos hc237] at hE
          exact jn244 _ _ _ _ _ _ _ _ _ _ _ hE (lv_sub hl [0, 1, 2, 3, 4, 5, 6, 7, 8] rfl) hw hS
        · rw [if_neg hc237] at hE
          refine lv_iconst (v := (1 : Int32)) hx hb d_Model_tell_240 (by decide) ?_
          refine lv_goto (tgt := 245) hx hb d_Model_tell_241 (by decide) ?_
          exact jn245 _ _ _ _ _ _ _ _ _ _ _ _ hE (lv_sub hl [0, 1, 2, 3, 4, 5, 6, 7, 8] rfl) hw hS
  have jn183 : ∀ (n : Nat) (ls : Array Slot) (H : Heap) (locs : List Loc) (σ : St) (l2 : Int32) (l3 : Int32) (l4 : Int32) (l5 : Int32) (l7 : Int32) (l8 : Int32) (l9 : Int32), x_Model_tell_183 a1 n l2 l3 l4 l5 l7 l8 l9 σ = some σ' → lv_has ls 15 [(0, .ref (G.2.1 51)), (1, .int a1), (2, .int l2), (3, .int l3), (4, .int l4), (5, .int l5), (7, .int l7), (8, .int l8), (9, .int l9)] → xw G σ H → va_S (xA G) s.heap H locs → W p l e (headSpec (ws_Model_tell) rm_Model_tell).room s m ([.ref (G.2.1 51), .int a1] : List Value).toArray below meth c H locs 0 0 (MQ below (xQ G none σ') ([.ref (G.2.1 51), .int a1] : List Value).toArray s 0 0 (xA G)) (F0 m 183 ls []) := by
    intro n
    induction n with
    | zero => intro ls H locs σ l2 l3 l4 l5 l7 l8 l9 hE; rw [x_Model_tell_183] at hE; cases hE
    | succ n ih =>
      intro ls H locs σ l2 l3 l4 l5 l7 l8 l9 hE hl hw hS
      rw [x_Model_tell_183] at hE
      refine lv_iload hx hb d_Model_tell_183 (lv_at hl 8 rfl) ?_
      refine lv_iload hx hb d_Model_tell_185 (lv_at hl 7 rfl) ?_
      refine lv_icmp_ge (tgt := 208) hx hb d_Model_tell_187 (by decide) (fun hc187 => ?_) (fun hc187 => ?_)
      · rw [if_pos hc187] at hE
        exact jn208 _ _ _ _ _ _ _ _ _ _ _ hE (lv_sub hl [0, 1, 2, 3, 4, 5, 6, 7, 8] rfl) hw hS
      · rw [if_neg hc187] at hE
        refine lv_aload_n hx hb d_Model_tell_190 rfl (lv_at hl 0 rfl) ?_
        refine va_get (D := G.1) (cl := xCl) (ci := 10) (v := .ref (G.2.1 59)) (C := R_Model) (T := T_Model) (N := 33) hx hb hu fi_Model hown hK hw 51 (x_at (by decide) (xcl_51 G σ)) rfl 18 (by decide) (hu _ mw_1086) (fun _ h9 => h9) rfl d_Model_tell_191 ?_
        refine lv_iload hx hb d_Model_tell_194 (lv_at hl 8 rfl) ?_
        obtain ⟨g196, hE⟩ := x_guard hE
        refine va_iald hx hb hK hw 59 0 (x_at (by decide) (xcl_59 G σ)) rfl g196 d_Model_tell_196 ?_
        refine lv_bipush (v := (45 : Int32)) hx hb d_Model_tell_197 (by decide) ?_
        refine lv_icmp_eq (tgt := 208) hx hb d_Model_tell_199 (by decide) (fun hc199 => ?_) (fun hc199 => ?_)
        · rw [if_pos hc199] at hE
          exact jn208 _ _ _ _ _ _ _ _ _ _ _ hE (lv_sub hl [0, 1, 2, 3, 4, 5, 6, 7, 8] rfl) hw hS
        · rw [if_neg hc199] at hE
          obtain ⟨v202, e202, hE⟩ := x_letE hE
          refine lv_iinc hx hb d_Model_tell_202 hl (k := 8) rfl (x_inc v202 e202 (by decide)) (by decide) rfl (fun ls hl => ?_)
          have hl : lv_has ls 15 [(9, .int v202), (0, .ref (G.2.1 51)), (1, .int a1), (2, .int l2), (3, .int l3), (4, .int l4), (5, .int l5), (7, .int l7), (8, .int l8)] := hl
          refine lv_goto (tgt := 183) hx hb d_Model_tell_205 (by decide) ?_
          exact ih _ _ _ _ _ _ _ _ _ _ _ hE (lv_sub hl [1, 2, 3, 4, 5, 6, 7, 8, 0] rfl) hw hS
  have jn177 : ∀ (ls : Array Slot) (H : Heap) (locs : List Loc) (σ : St) (l2 : Int32) (l3 : Int32) (l4 : Int32) (l5 : Int32) (l7 : Int32) (k0 : Int32), x_Model_tell_177 a1 l2 l3 l4 l5 l7 k0 σ = some σ' → lv_has ls 15 [(0, .ref (G.2.1 51)), (1, .int a1), (2, .int l2), (3, .int l3), (4, .int l4), (5, .int l5), (7, .int l7)] → xw G σ H → va_S (xA G) s.heap H locs → W p l e (headSpec (ws_Model_tell) rm_Model_tell).room s m ([.ref (G.2.1 51), .int a1] : List Value).toArray below meth c H locs 0 0 (MQ below (xQ G none σ') ([.ref (G.2.1 51), .int a1] : List Value).toArray s 0 0 (xA G)) (F0 m 177 ls [.int k0]) := by
    intro ls H locs σ l2 l3 l4 l5 l7 k0 hE hl hw hS
    unfold x_Model_tell_177 at hE
    refine lv_istore hx hb d_Model_tell_177 hl (by decide) rfl (fun ls hl => ?_)
    have hl : lv_has ls 15 [(8, .int k0), (0, .ref (G.2.1 51)), (1, .int a1), (2, .int l2), (3, .int l3), (4, .int l4), (5, .int l5), (7, .int l7)] := hl
    refine lv_iload hx hb d_Model_tell_179 (lv_at hl 7 rfl) ?_
    refine lv_istore hx hb d_Model_tell_181 hl (by decide) rfl (fun ls hl => ?_)
    have hl : lv_has ls 15 [(9, .int l7), (8, .int k0), (0, .ref (G.2.1 51)), (1, .int a1), (2, .int l2), (3, .int l3), (4, .int l4), (5, .int l5), (7, .int l7)] := hl
    exact jn183 x_fuel _ _ _ _ _ _ _ _ _ _ _ hE (lv_sub hl [2, 3, 4, 5, 6, 7, 8, 1, 0] rfl) hw hS
  have jn158 : ∀ (ls : Array Slot) (H : Heap) (locs : List Loc) (σ : St) (l2 : Int32) (l3 : Int32) (l4 : Int32) (l5 : Int32) (k0 : Int32), x_Model_tell_158 a1 l2 l3 l4 l5 k0 σ = some σ' → lv_has ls 15 [(0, .ref (G.2.1 51)), (1, .int a1), (2, .int l2), (3, .int l3), (4, .int l4), (5, .int l5)] → xw G σ H → va_S (xA G) s.heap H locs → W p l e (headSpec (ws_Model_tell) rm_Model_tell).room s m ([.ref (G.2.1 51), .int a1] : List Value).toArray below meth c H locs 0 0 (MQ below (xQ G none σ') ([.ref (G.2.1 51), .int a1] : List Value).toArray s 0 0 (xA G)) (F0 m 158 ls [.int k0]) := by
    intro ls H locs σ l2 l3 l4 l5 k0 hE hl hw hS
    unfold x_Model_tell_158 at hE
    refine lv_istore hx hb d_Model_tell_158 hl (by decide) rfl (fun ls hl => ?_)
    have hl : lv_has ls 15 [(7, .int k0), (0, .ref (G.2.1 51)), (1, .int a1), (2, .int l2), (3, .int l3), (4, .int l4), (5, .int l5)] := hl
    refine lv_aload_n hx hb d_Model_tell_160 rfl (lv_at hl 1 rfl) ?_
    refine va_get (D := G.1) (cl := xCl) (ci := 10) (v := .int (σ.1 51 26)) (C := R_Model) (T := T_Model) (N := 33) hx hb hu fi_Model hown hK hw 51 (x_at (by decide) (xcl_51 G σ)) rfl 26 (by decide) (hu _ mw_1094) (fun _ h9 => h9) rfl d_Model_tell_161 ?_
    refine lv_if_le (tgt := 176) hx hb d_Model_tell_164 (by decide) (fun hc164 => ?_) (fun hc164 => ?_)
    · rw [if_pos hc164] at hE
      refine lv_iconst (v := (0 : Int32)) hx hb d_Model_tell_176 (by decide) ?_
      exact jn177 _ _ _ _ _ _ _ _ _ _ hE (lv_sub hl [1, 2, 3, 4, 5, 6, 0] rfl) hw hS
    · rw [if_neg hc164] at hE
      refine lv_aload_n hx hb d_Model_tell_167 rfl (lv_at hl 1 rfl) ?_
      refine va_get (D := G.1) (cl := xCl) (ci := 10) (v := .ref (G.2.1 64)) (C := R_Model) (T := T_Model) (N := 33) hx hb hu fi_Model hown hK hw 51 (x_at (by decide) (xcl_51 G σ)) rfl 28 (by decide) (hu _ mw_1096) (fun _ h9 => h9) rfl d_Model_tell_168 ?_
      refine lv_iconst (v := (0 : Int32)) hx hb d_Model_tell_171 (by decide) ?_
      obtain ⟨g172, hE⟩ := x_guard hE
      refine va_iald hx hb hK hw 64 0 (x_at (by decide) (xcl_64 G σ)) rfl g172 d_Model_tell_172 ?_
      refine lv_goto (tgt := 177) hx hb d_Model_tell_173 (by decide) ?_
      exact jn177 _ _ _ _ _ _ _ _ _ _ hE (lv_sub hl [1, 2, 3, 4, 5, 6, 0] rfl) hw hS
  have jn87 : ∀ (n : Nat) (ls : Array Slot) (H : Heap) (locs : List Loc) (σ : St) (l2 : Int32) (l3 : Int32) (l4 : Int32) (l5 : Int32) (l6 : Int32), x_Model_tell_87 a1 n l2 l3 l4 l5 l6 σ = some σ' → lv_has ls 15 [(0, .ref (G.2.1 51)), (1, .int a1), (2, .int l2), (3, .int l3), (4, .int l4), (5, .int l5), (6, .int l6)] → xw G σ H → va_S (xA G) s.heap H locs → W p l e (headSpec (ws_Model_tell) rm_Model_tell).room s m ([.ref (G.2.1 51), .int a1] : List Value).toArray below meth c H locs 0 0 (MQ below (xQ G none σ') ([.ref (G.2.1 51), .int a1] : List Value).toArray s 0 0 (xA G)) (F0 m 87 ls []) := by
    intro n
    induction n with
    | zero => intro ls H locs σ l2 l3 l4 l5 l6 hE; rw [x_Model_tell_87] at hE; cases hE
    | succ n ih =>
      intro ls H locs σ l2 l3 l4 l5 l6 hE hl hw hS
      rw [x_Model_tell_87] at hE
      refine lv_aload_n hx hb d_Model_tell_87 rfl (lv_at hl 0 rfl) ?_
      refine lv_iload hx hb d_Model_tell_88 (lv_at hl 6 rfl) ?_
      refine lv_bipush (v := (70 : Int32)) hx hb d_Model_tell_90 (by decide) ?_
      obtain ⟨r92, hC92, hE⟩ := x_bind hE
      refine x_callR (W.runV (As := [.int l6, .int (70 : Int32)]) (rest := []) ⟨hx, hb, hml, hown, hu⟩ (t_Model_isNamed l G σ l6 (70 : Int32) r92 hC92) (cwV 2 hu (uw_V mw_1247 mw_1249 mw_37 mw_70 mw_1250) rfl rfl rfl hd_Model_isNamed ⟨Nat.le_of_ble_eq_true rfl, Nat.le_of_ble_eq_true rfl⟩) (x_preV hC hS hw (va_recv hK hw (q := (R_Model, T_Model, 33)) (ci := 10) rfl (x_at (by decide) (xcl_51 G σ)))) rfl rfl hl.1 rfl (lv_room (Nat.le_of_ble_eq_true rfl)) d_Model_tell_92 ⟨Nat.le_of_ble_eq_true rfl, Nat.le_of_ble_eq_true rfl⟩) ?_
      refine lv_if_ne (tgt := 104) hx hb d_Model_tell_95 (by decide) (fun hc95 => ?_) (fun hc95 => ?_)
      · rw [if_neg hc95] at hE
        refine lv_aload_n hx hb d_Model_tell_104 rfl (lv_at hl 0 rfl) ?_
        refine lv_iconst (v := (0 : Int32)) hx hb d_Model_tell_105 (by decide) ?_
        refine va_put (D := G.1) (cl := xCl) (ci := 10) (v := .int (0 : Int32)) (ty := .int) (C := R_Model) (T := T_Model) (N := 33) hx hb hu fi_Model ty_Model tyok_Model nm_Model hown hK hw (x_D hI _) hS 51 (x_at (by decide) (xcl_51 G σ)) rfl 26 (by decide) (hu _ mw_1094) (fun _ h9 => h9) rfl (tyok_Model 26 (by decide)) rfl rfl (Nat.le_of_ble_eq_true rfl) d_Model_tell_106 (fun H locs hw _ hS => ?_)
        replace hw := x_setR hw (by decide) rfl
        obtain ⟨s106, e106, hE⟩ := x_letE hE
        rw [← e106] at hw
        refine lv_aload_n hx hb d_Model_tell_109 rfl (lv_at hl 0 rfl) ?_
        refine lv_bipush (v := (80 : Int32)) hx hb d_Model_tell_110 (by decide) ?_
        refine lv_iload hx hb d_Model_tell_112 (lv_at hl 6 rfl) ?_
        refine lv_imul hx hb d_Model_tell_114 ?_
        refine lv_aload_n hx hb d_Model_tell_115 rfl (lv_at hl 0 rfl) ?_
        refine va_get (D := G.1) (cl := xCl) (ci := 10) (v := .ref (G.2.1 60)) (C := R_Model) (T := T_Model) (N := 33) hx hb hu fi_Model hown hK hw 51 (x_at (by decide) (xcl_51 G s106)) rfl 19 (by decide) (hu _ mw_1087) (fun _ h9 => h9) rfl d_Model_tell_116 ?_
        refine lv_iload hx hb d_Model_tell_119 (lv_at hl 6 rfl) ?_
        obtain ⟨g121, hE⟩ := x_guard hE
        refine va_iald hx hb hK hw 60 0 (x_at (by decide) (xcl_60 G s106)) rfl g121 d_Model_tell_121 ?_
        refine lv_iadd hx hb d_Model_tell_122 ?_
        refine lv_iconst (v := (1 : Int32)) hx hb d_Model_tell_123 (by decide) ?_
        refine lv_iadd hx hb d_Model_tell_124 ?_
        refine lv_bipush (v := (80 : Int32)) hx hb d_Model_tell_125 (by decide) ?_
        refine lv_iload hx hb d_Model_tell_127 (lv_at hl 6 rfl) ?_
        refine lv_imul hx hb d_Model_tell_129 ?_
        refine lv_aload_n hx hb d_Model_tell_130 rfl (lv_at hl 0 rfl) ?_
        refine va_get (D := G.1) (cl := xCl) (ci := 10) (v := .ref (G.2.1 61)) (C := R_Model) (T := T_Model) (N := 33) hx hb hu fi_Model hown hK hw 51 (x_at (by decide) (xcl_51 G s106)) rfl 20 (by decide) (hu _ mw_1088) (fun _ h9 => h9) rfl d_Model_tell_131 ?_
        refine lv_iload hx hb d_Model_tell_134 (lv_at hl 6 rfl) ?_
        obtain ⟨g136, hE⟩ := x_guard hE
        refine va_iald hx hb hK hw 61 0 (x_at (by decide) (xcl_61 G s106)) rfl g136 d_Model_tell_136 ?_
        refine lv_iadd hx hb d_Model_tell_137 ?_
        obtain ⟨s138, hC138, hE⟩ := x_bind hE
        refine x_callV hS (W.runV (As := [.int ((((80 : Int32) * l6) + (s106.2.1 60 l6.toNatClampNeg)) + (1 : Int32)), .int (((80 : Int32) * l6) + (s106.2.1 61 l6.toNatClampNeg))]) (rest := []) ⟨hx, hb, hml, hown, hu⟩ (t_Model_notice l G s106 ((((80 : Int32) * l6) + (s106.2.1 60 l6.toNatClampNeg)) + (1 : Int32)) (((80 : Int32) * l6) + (s106.2.1 61 l6.toNatClampNeg)) s138 hC138) (cwV 2 hu (uw_V mw_1255 mw_1257 mw_39 mw_70 mw_1258) rfl rfl rfl hd_Model_notice ⟨Nat.le_of_ble_eq_true rfl, Nat.le_of_ble_eq_true rfl⟩) (x_preV hC hS hw (va_recv hK hw (q := (R_Model, T_Model, 33)) (ci := 10) rfl (x_at (by decide) (xcl_51 G s106)))) rfl rfl hl.1 rfl (lv_room (Nat.le_of_ble_eq_true rfl)) d_Model_tell_138 ⟨Nat.le_of_ble_eq_true rfl, Nat.le_of_ble_eq_true rfl⟩) (fun H locs hw hS => ?_)
        refine lv_aload_n hx hb d_Model_tell_141 rfl (lv_at hl 0 rfl) ?_
        refine va_get (D := G.1) (cl := xCl) (ci := 10) (v := .int (s138.1 51 26)) (C := R_Model) (T := T_Model) (N := 33) hx hb hu fi_Model hown hK hw 51 (x_at (by decide) (xcl_51 G s138)) rfl 26 (by decide) (hu _ mw_1094) (fun _ h9 => h9) rfl d_Model_tell_142 ?_
        refine lv_if_le (tgt := 157) hx hb d_Model_tell_145 (by decide) (fun hc145 => ?_) (fun hc145 => ?_)
        · rw [if_pos hc145] at hE
          refine lv_iconst (v := (0 : Int32)) hx hb d_Model_tell_157 (by decide) ?_
          exact jn158 _ _ _ _ _ _ _ _ _ hE (lv_sub hl [0, 1, 2, 3, 4, 5] rfl) hw hS
        · rw [if_neg hc145] at hE
          refine lv_aload_n hx hb d_Model_tell_148 rfl (lv_at hl 0 rfl) ?_
          refine va_get (D := G.1) (cl := xCl) (ci := 10) (v := .ref (G.2.1 63)) (C := R_Model) (T := T_Model) (N := 33) hx hb hu fi_Model hown hK hw 51 (x_at (by decide) (xcl_51 G s138)) rfl 27 (by decide) (hu _ mw_1095) (fun _ h9 => h9) rfl d_Model_tell_149 ?_
          refine lv_iconst (v := (0 : Int32)) hx hb d_Model_tell_152 (by decide) ?_
          obtain ⟨g153, hE⟩ := x_guard hE
          refine va_iald hx hb hK hw 63 0 (x_at (by decide) (xcl_63 G s138)) rfl g153 d_Model_tell_153 ?_
          refine lv_goto (tgt := 158) hx hb d_Model_tell_154 (by decide) ?_
          exact jn158 _ _ _ _ _ _ _ _ _ hE (lv_sub hl [0, 1, 2, 3, 4, 5] rfl) hw hS
      · rw [if_pos hc95] at hE
        obtain ⟨v98, e98, hE⟩ := x_letE hE
        refine lv_iinc hx hb d_Model_tell_98 hl (k := 6) rfl (x_inc v98 e98 (by decide)) (by decide) rfl (fun ls hl => ?_)
        have hl : lv_has ls 15 [(6, .int v98), (0, .ref (G.2.1 51)), (1, .int a1), (2, .int l2), (3, .int l3), (4, .int l4), (5, .int l5)] := hl
        refine lv_goto (tgt := 87) hx hb d_Model_tell_101 (by decide) ?_
        exact ih _ _ _ _ _ _ _ _ _ hE (lv_sub hl [1, 2, 3, 4, 5, 6, 0] rfl) hw hS
  have hl := lv_entry ([.ref (G.2.1 51), .int a1]) (n := 15) (Nat.le_of_ble_eq_true rfl)
  rw [lg_entry_eq]
  generalize (lg_sl ([.ref (G.2.1 51), .int a1]) ++ List.replicate (15 - (lg_sl ([.ref (G.2.1 51), .int a1])).length) Slot.unset).toArray = ls at hl ⊢
  have hl : lv_has ls 15 [(0, .ref (G.2.1 51)), (1, .int a1)] := hl
  unfold x_Model_tell at hE
  refine lv_aload_n hx hb d_Model_tell_0 rfl (lv_at hl 0 rfl) ?_
  refine va_get (D := G.1) (cl := xCl) (ci := 10) (v := .ref (G.2.1 53)) (C := R_Model) (T := T_Model) (N := 33) hx hb hu fi_Model hown hK hw 51 (x_at (by decide) (xcl_51 G σ)) rfl 2 (by decide) (hu _ mw_1070) (fun _ h9 => h9) rfl d_Model_tell_1 ?_
  refine lv_iload_n hx hb d_Model_tell_4 rfl (lv_at hl 1 rfl) ?_
  obtain ⟨g5, hE⟩ := x_guard hE
  refine va_zald hx hb hK hw 53 1 (x_at (by decide) (xcl_53 G σ)) rfl g5 d_Model_tell_5 ?_
  refine lv_if_ne (tgt := 22) hx hb d_Model_tell_6 (by decide) (fun hc6 => ?_) (fun hc6 => ?_)
  · rw [if_neg hc6] at hE
    refine lv_aload_n hx hb d_Model_tell_22 rfl (lv_at hl 0 rfl) ?_
    refine lv_iload_n hx hb d_Model_tell_23 rfl (lv_at hl 1 rfl) ?_
    obtain ⟨r24, s24, hC24, hE⟩ := x_bind2E hE
    refine x_callS hS (W.runV (As := [.int a1]) (rest := []) ⟨hx, hb, hml, hown, hu⟩ (t_Model_isKnown l G σ a1 r24 s24 hC24) (cwV 1 hu (uw_V mw_1239 mw_1241 mw_35 mw_70 mw_1242) rfl rfl rfl hd_Model_isKnown ⟨Nat.le_of_ble_eq_true rfl, Nat.le_of_ble_eq_true rfl⟩) (x_preV hC hS hw (va_recv hK hw (q := (R_Model, T_Model, 33)) (ci := 10) rfl (x_at (by decide) (xcl_51 G σ)))) rfl rfl hl.1 rfl (lv_room (Nat.le_of_ble_eq_true rfl)) d_Model_tell_24 ⟨Nat.le_of_ble_eq_true rfl, Nat.le_of_ble_eq_true rfl⟩) (fun H locs hw hS => ?_)
    refine lv_if_eq (tgt := 48) hx hb d_Model_tell_27 (by decide) (fun hc27 => ?_) (fun hc27 => ?_)
    · rw [if_pos hc27] at hE
      refine lv_aload_n hx hb d_Model_tell_48 rfl (lv_at hl 0 rfl) ?_
      refine va_get (D := G.1) (cl := xCl) (ci := 10) (v := .ref (G.2.1 55)) (C := R_Model) (T := T_Model) (N := 33) hx hb hu fi_Model hown hK hw 51 (x_at (by decide) (xcl_51 G s24)) rfl 4 (by decide) (hu _ mw_1072) (fun _ h9 => h9) rfl d_Model_tell_49 ?_
      refine lv_iload_n hx hb d_Model_tell_52 rfl (lv_at hl 1 rfl) ?_
      obtain ⟨g53, hE⟩ := x_guard hE
      refine va_iald hx hb hK hw 55 0 (x_at (by decide) (xcl_55 G s24)) rfl g53 d_Model_tell_53 ?_
      refine lv_topi (fun v54 e54 => ?_)
      replace hE := x_letT e54 hE
      refine lv_istore_n hx hb d_Model_tell_54 rfl hl (by decide) rfl (fun ls hl => ?_)
      have hl : lv_has ls 15 [(2, .int v54), (0, .ref (G.2.1 51)), (1, .int a1)] := hl
      refine lv_iconst (v := (0 : Int32)) hx hb d_Model_tell_55 (by decide) ?_
      refine lv_istore_n hx hb d_Model_tell_56 rfl hl (by decide) rfl (fun ls hl => ?_)
      have hl : lv_has ls 15 [(3, .int (0 : Int32)), (2, .int v54), (0, .ref (G.2.1 51)), (1, .int a1)] := hl
      refine lv_iload_n hx hb d_Model_tell_57 rfl (lv_at hl 1 rfl) ?_
      refine lv_istore hx hb d_Model_tell_58 hl (by decide) rfl (fun ls hl => ?_)
      have hl : lv_has ls 15 [(4, .int v54), (3, .int (0 : Int32)), (2, .int v54), (0, .ref (G.2.1 51)), (1, .int a1)] := hl
      refine lv_sipush (v := (200 : Int32)) hx hb d_Model_tell_60 (by decide) ?_
      refine lv_istore hx hb d_Model_tell_63 hl (by decide) rfl (fun ls hl => ?_)
      have hl : lv_has ls 15 [(5, .int (200 : Int32)), (4, .int v54), (3, .int (0 : Int32)), (2, .int v54), (0, .ref (G.2.1 51)), (1, .int a1)] := hl
      refine lv_aload_n hx hb d_Model_tell_65 rfl (lv_at hl 4 rfl) ?_
      refine va_get (D := G.1) (cl := xCl) (ci := 10) (v := .int (s24.1 51 12)) (C := R_Model) (T := T_Model) (N := 33) hx hb hu fi_Model hown hK hw 51 (x_at (by decide) (xcl_51 G s24)) rfl 12 (by decide) (hu _ mw_1080) (fun _ h9 => h9) rfl d_Model_tell_66 ?_
      refine lv_bipush (v := (121 : Int32)) hx hb d_Model_tell_69 (by decide) ?_
      refine lv_icmp_ne (tgt := 465) hx hb d_Model_tell_71 (by decide) (fun hc71 => ?_) (fun hc71 => ?_)
      · rw [if_neg hc71] at hE
        exact jn465 _ _ _ _ _ _ _ _ hE (lv_sub hl [4, 5, 3, 2, 1, 0] rfl) hw hS
      · rw [if_pos hc71] at hE
        refine lv_aload_n hx hb d_Model_tell_74 rfl (lv_at hl 4 rfl) ?_
        refine lv_bipush (v := (70 : Int32)) hx hb d_Model_tell_75 (by decide) ?_
        obtain ⟨r77, hC77, hE⟩ := x_bind hE
        refine x_callR (W.runV (As := [.int (70 : Int32)]) (rest := []) ⟨hx, hb, hml, hown, hu⟩ (t_Model_count l G s24 (70 : Int32) r77 hC77) (cwV 1 hu (uw_V mw_1267 mw_1269 mw_42 mw_70 mw_1270) rfl rfl rfl hd_Model_count ⟨Nat.le_of_ble_eq_true rfl, Nat.le_of_ble_eq_true rfl⟩) (x_preV hC hS hw (va_recv hK hw (q := (R_Model, T_Model, 33)) (ci := 10) rfl (x_at (by decide) (xcl_51 G s24)))) rfl rfl hl.1 rfl (lv_room (Nat.le_of_ble_eq_true rfl)) d_Model_tell_77 ⟨Nat.le_of_ble_eq_true rfl, Nat.le_of_ble_eq_true rfl⟩) ?_
        refine lv_iconst (v := (1 : Int32)) hx hb d_Model_tell_80 (by decide) ?_
        refine lv_icmp_ne (tgt := 465) hx hb d_Model_tell_81 (by decide) (fun hc81 => ?_) (fun hc81 => ?_)
        · rw [if_neg hc81] at hE
          exact jn465 _ _ _ _ _ _ _ _ hE (lv_sub hl [4, 5, 3, 2, 1, 0] rfl) hw hS
        · rw [if_pos hc81] at hE
          refine lv_iconst (v := (0 : Int32)) hx hb d_Model_tell_84 (by decide) ?_
          refine lv_istore hx hb d_Model_tell_85 hl (by decide) rfl (fun ls hl => ?_)
          have hl : lv_has ls 15 [(6, .int (0 : Int32)), (5, .int (200 : Int32)), (4, .int v54), (3, .int (0 : Int32)), (2, .int v54), (0, .ref (G.2.1 51)), (1, .int a1)] := hl
          exact jn87 x_fuel _ _ _ _ _ _ _ _ _ hE (lv_sub hl [5, 6, 4, 3, 2, 1, 0] rfl) hw hS
    · rw [if_neg hc27] at hE
      refine lv_aload_n hx hb d_Model_tell_30 rfl (lv_at hl 0 rfl) ?_
      refine lv_sipush (v := (304 : Int32)) hx hb d_Model_tell_31 (by decide) ?_
      refine lv_iconst (v := (0 : Int32)) hx hb d_Model_tell_34 (by decide) ?_
      refine lv_aload_n hx hb d_Model_tell_35 rfl (lv_at hl 0 rfl) ?_
      refine va_get (D := G.1) (cl := xCl) (ci := 10) (v := .ref (G.2.1 54)) (C := R_Model) (T := T_Model) (N := 33) hx hb hu fi_Model hown hK hw 51 (x_at (by decide) (xcl_51 G s24)) rfl 3 (by decide) (hu _ mw_1071) (fun _ h9 => h9) rfl d_Model_tell_36 ?_
      refine lv_iload_n hx hb d_Model_tell_39 rfl (lv_at hl 1 rfl) ?_
      obtain ⟨g40, hE⟩ := x_guard hE
      refine va_iald hx hb hK hw 54 0 (x_at (by decide) (xcl_54 G s24)) rfl g40 d_Model_tell_40 ?_
      refine lv_iconst (v := ((-1) : Int32)) hx hb d_Model_tell_41 (by decide) ?_
      refine lv_iconst (v := (0 : Int32)) hx hb d_Model_tell_42 (by decide) ?_
      refine lv_iconst (v := (0 : Int32)) hx hb d_Model_tell_43 (by decide) ?_
      obtain ⟨s44, hC44, hE⟩ := x_bind hE
      refine x_callV hS (W.runV (As := [.int (304 : Int32), .int (0 : Int32), .int (s24.2.1 54 a1.toNatClampNeg), .int ((-1) : Int32), .int (0 : Int32), .int (0 : Int32)]) (rest := []) ⟨hx, hb, hml, hown, hu⟩ (t_Model_respond l G s24 (304 : Int32) (0 : Int32) (s24.2.1 54 a1.toNatClampNeg) ((-1) : Int32) (0 : Int32) (0 : Int32) s44 hC44) (cwV 6 hu (uw_V mw_1203 mw_1205 mw_26 mw_70 mw_1206) rfl rfl rfl hd_Model_respond ⟨Nat.le_of_ble_eq_true rfl, Nat.le_of_ble_eq_true rfl⟩) (x_preV hC hS hw (va_recv hK hw (q := (R_Model, T_Model, 33)) (ci := 10) rfl (x_at (by decide) (xcl_51 G s24)))) rfl rfl hl.1 rfl (lv_room (Nat.le_of_ble_eq_true rfl)) d_Model_tell_44 ⟨Nat.le_of_ble_eq_true rfl, Nat.le_of_ble_eq_true rfl⟩) (fun H locs hw hS => ?_)
      have e1 := Option.some.inj hE
      exact W.vret hx hb hr (fun t ht hW => ⟨rfl, by rw [ht, ← e1]; exact hw, hS.F ht⟩) hS.2.2 d_Model_tell_47
  · rw [if_pos hc6] at hE
    refine lv_aload_n hx hb d_Model_tell_9 rfl (lv_at hl 0 rfl) ?_
    refine lv_sipush (v := (404 : Int32)) hx hb d_Model_tell_10 (by decide) ?_
    refine lv_iconst (v := (0 : Int32)) hx hb d_Model_tell_13 (by decide) ?_
    refine lv_iconst (v := ((-1) : Int32)) hx hb d_Model_tell_14 (by decide) ?_
    refine lv_iconst (v := ((-1) : Int32)) hx hb d_Model_tell_15 (by decide) ?_
    refine lv_iconst (v := (0 : Int32)) hx hb d_Model_tell_16 (by decide) ?_
    refine lv_iconst (v := (0 : Int32)) hx hb d_Model_tell_17 (by decide) ?_
    obtain ⟨s18, hC18, hE⟩ := x_bind hE
    refine x_callV hS (W.runV (As := [.int (404 : Int32), .int (0 : Int32), .int ((-1) : Int32), .int ((-1) : Int32), .int (0 : Int32), .int (0 : Int32)]) (rest := []) ⟨hx, hb, hml, hown, hu⟩ (t_Model_respond l G σ (404 : Int32) (0 : Int32) ((-1) : Int32) ((-1) : Int32) (0 : Int32) (0 : Int32) s18 hC18) (cwV 6 hu (uw_V mw_1203 mw_1205 mw_26 mw_70 mw_1206) rfl rfl rfl hd_Model_respond ⟨Nat.le_of_ble_eq_true rfl, Nat.le_of_ble_eq_true rfl⟩) (x_preV hC hS hw (va_recv hK hw (q := (R_Model, T_Model, 33)) (ci := 10) rfl (x_at (by decide) (xcl_51 G σ)))) rfl rfl hl.1 rfl (lv_room (Nat.le_of_ble_eq_true rfl)) d_Model_tell_18 ⟨Nat.le_of_ble_eq_true rfl, Nat.le_of_ble_eq_true rfl⟩) (fun H locs hw hS => ?_)
    have e1 := Option.some.inj hE
    exact W.vret hx hb hr (fun t ht hW => ⟨rfl, by rw [ht, ← e1]; exact hw, hS.F ht⟩) hS.2.2 d_Model_tell_21

def y_Model_hasStar : MethodName := ⟨"PlainOriginModel", "hasStar", "()Z"⟩
def ws_Model_hasStar : List Cond := Cond.code y_Model_hasStar prog_14_method_46_code 3 (some .boolean) :: UW
theorem hd_Model_hasStar : y_Model_hasStar.cls = R_Model ∧ y_Model_hasStar.cls ≠ "java/lang/invoke/MethodHandle" ∧ y_Model_hasStar.cls ≠ "java/lang/invoke/VarHandle" ∧ (parseMethodDescriptor y_Model_hasStar.desc).map (fun d => d.parameters.length) = some 0 := by decide +kernel
theorem d_Model_hasStar_0 : decode prog_14_method_46_code 0 = .ok (.aload_n 0, 1) := by decide +kernel
theorem d_Model_hasStar_1 : decode prog_14_method_46_code 1 = .ok (.bipush (56), 2) := by decide +kernel
theorem d_Model_hasStar_3 : decode prog_14_method_46_code 3 = .ok (.invokevirtual 270, 3) := by decide +kernel
theorem d_Model_hasStar_6 : decode prog_14_method_46_code 6 = .ok (.iconst 0, 1) := by decide +kernel
theorem d_Model_hasStar_7 : decode prog_14_method_46_code 7 = .ok (.istore_n 1, 1) := by decide +kernel
theorem d_Model_hasStar_8 : decode prog_14_method_46_code 8 = .ok (.iconst 0, 1) := by decide +kernel
theorem d_Model_hasStar_9 : decode prog_14_method_46_code 9 = .ok (.istore_n 2, 1) := by decide +kernel
theorem d_Model_hasStar_10 : decode prog_14_method_46_code 10 = .ok (.iload_n 2, 1) := by decide +kernel
theorem d_Model_hasStar_11 : decode prog_14_method_46_code 11 = .ok (.aload_n 0, 1) := by decide +kernel
theorem d_Model_hasStar_12 : decode prog_14_method_46_code 12 = .ok (.getfield 263, 3) := by decide +kernel
theorem d_Model_hasStar_15 : decode prog_14_method_46_code 15 = .ok (.if_icmp .ge (52), 3) := by decide +kernel
theorem d_Model_hasStar_18 : decode prog_14_method_46_code 18 = .ok (.iload_n 1, 1) := by decide +kernel
theorem d_Model_hasStar_19 : decode prog_14_method_46_code 19 = .ok (.ifCond .ne (36), 3) := by decide +kernel
theorem d_Model_hasStar_22 : decode prog_14_method_46_code 22 = .ok (.aload_n 0, 1) := by decide +kernel
theorem d_Model_hasStar_23 : decode prog_14_method_46_code 23 = .ok (.getfield 133, 3) := by decide +kernel
theorem d_Model_hasStar_26 : decode prog_14_method_46_code 26 = .ok (.iload_n 2, 1) := by decide +kernel
theorem d_Model_hasStar_27 : decode prog_14_method_46_code 27 = .ok (.iaload, 1) := by decide +kernel
theorem d_Model_hasStar_28 : decode prog_14_method_46_code 28 = .ok (.aload_n 0, 1) := by decide +kernel
theorem d_Model_hasStar_29 : decode prog_14_method_46_code 29 = .ok (.getfield 130, 3) := by decide +kernel
theorem d_Model_hasStar_32 : decode prog_14_method_46_code 32 = .ok (.iload_n 2, 1) := by decide +kernel
theorem d_Model_hasStar_33 : decode prog_14_method_46_code 33 = .ok (.iaload, 1) := by decide +kernel
theorem d_Model_hasStar_34 : decode prog_14_method_46_code 34 = .ok (.isub, 1) := by decide +kernel
theorem d_Model_hasStar_35 : decode prog_14_method_46_code 35 = .ok (.iconst 1, 1) := by decide +kernel
theorem d_Model_hasStar_36 : decode prog_14_method_46_code 36 = .ok (.if_icmp .ne (23), 3) := by decide +kernel
theorem d_Model_hasStar_39 : decode prog_14_method_46_code 39 = .ok (.aload_n 0, 1) := by decide +kernel
theorem d_Model_hasStar_40 : decode prog_14_method_46_code 40 = .ok (.getfield 118, 3) := by decide +kernel
theorem d_Model_hasStar_43 : decode prog_14_method_46_code 43 = .ok (.aload_n 0, 1) := by decide +kernel
theorem d_Model_hasStar_44 : decode prog_14_method_46_code 44 = .ok (.getfield 130, 3) := by decide +kernel
theorem d_Model_hasStar_47 : decode prog_14_method_46_code 47 = .ok (.iload_n 2, 1) := by decide +kernel
theorem d_Model_hasStar_48 : decode prog_14_method_46_code 48 = .ok (.iaload, 1) := by decide +kernel
theorem d_Model_hasStar_49 : decode prog_14_method_46_code 49 = .ok (.iaload, 1) := by decide +kernel
theorem d_Model_hasStar_50 : decode prog_14_method_46_code 50 = .ok (.bipush (42), 2) := by decide +kernel
theorem d_Model_hasStar_52 : decode prog_14_method_46_code 52 = .ok (.if_icmp .ne (7), 3) := by decide +kernel
theorem d_Model_hasStar_55 : decode prog_14_method_46_code 55 = .ok (.iconst 1, 1) := by decide +kernel
theorem d_Model_hasStar_56 : decode prog_14_method_46_code 56 = .ok (.goto (4), 3) := by decide +kernel
theorem d_Model_hasStar_59 : decode prog_14_method_46_code 59 = .ok (.iconst 0, 1) := by decide +kernel
theorem d_Model_hasStar_60 : decode prog_14_method_46_code 60 = .ok (.istore_n 1, 1) := by decide +kernel
theorem d_Model_hasStar_61 : decode prog_14_method_46_code 61 = .ok (.iinc 2 (1), 3) := by decide +kernel
theorem d_Model_hasStar_64 : decode prog_14_method_46_code 64 = .ok (.goto (-54), 3) := by decide +kernel
theorem d_Model_hasStar_67 : decode prog_14_method_46_code 67 = .ok (.iload_n 1, 1) := by decide +kernel
theorem d_Model_hasStar_68 : decode prog_14_method_46_code 68 = .ok (.ireturn, 1) := by decide +kernel
def x_Model_hasStar_60 (bk10 : Int32 → Int32 → St → Option (Int32 × St)) (l2 : Int32) (k0 : Int32) (σ : St) : Option (Int32 × St) := (x_let (l2 + (1 : Int32)) (fun (v61 : Int32) => bk10 k0 v61 σ))
def x_Model_hasStar_55 (bk10 : Int32 → Int32 → St → Option (Int32 × St)) (l2 : Int32) (σ : St) : Option (Int32 × St) := x_Model_hasStar_60 bk10 l2 (1 : Int32) σ
def x_Model_hasStar_59 (bk10 : Int32 → Int32 → St → Option (Int32 × St)) (l2 : Int32) (σ : St) : Option (Int32 × St) := x_Model_hasStar_60 bk10 l2 (0 : Int32) σ
def x_Model_hasStar_10 : Nat → Int32 → Int32 → St → Option (Int32 × St)
  | 0, _, _, _ => none
  | n + 1, l1, l2, σ => (if (σ.1 51 26) ≤ l2 then (if x_bit l1 then some (l1, σ) else none) else (if l1 = 0 then (if x_in l2 512 then (if x_in l2 512 then (if ((σ.2.1 64 l2.toNatClampNeg) - (σ.2.1 63 l2.toNatClampNeg)) = (1 : Int32) then (if x_in l2 512 then (if x_in (σ.2.1 63 l2.toNatClampNeg) 960 then (if (σ.2.1 59 (σ.2.1 63 l2.toNatClampNeg).toNatClampNeg) = (42 : Int32) then x_Model_hasStar_55 (x_Model_hasStar_10 n) l2 σ else x_Model_hasStar_59 (x_Model_hasStar_10 n) l2 σ) else none) else none) else x_Model_hasStar_59 (x_Model_hasStar_10 n) l2 σ) else none) else none) else x_Model_hasStar_55 (x_Model_hasStar_10 n) l2 σ))
def x_Model_hasStar (σ : St) : Option (Int32 × St) := (Option.bind (x_Model_list (56 : Int32) σ) (fun s3 => x_Model_hasStar_10 x_fuel (0 : Int32) (0 : Int32) s3))
abbrev rm_Model_hasStar : Room := { frames := 5, cells := 0, slots := 0, locals := 113 }
set_option maxHeartbeats 4000000 in
set_option maxRecDepth 100000 in
theorem t_Model_hasStar (l : Launch) (G : xG) (σ : St) (r : Int32) (σ' : St) (hE : x_Model_hasStar σ = some (r, σ')) : Met l y_Model_hasStar (ws_Model_hasStar) rm_Model_hasStar (xP G σ [.ref (G.2.1 51)]) (xQ G (some (.int r)) σ') 0 0 (xA G) := by
  refine Met.ofW (cc := prog_14_method_46_code) (maxL := 3) (ret := (some .boolean)) (by decide) rfl ?_
  intro p e s m args below meth c s₁ B hml hv
  obtain ⟨rfl, hw, hC⟩ := hv
  have hx := B.exec
  have hb := B.bytes
  have hr := B.returns
  have hu : ∀ w ∈ UW, w.before _ s = true := fun w h => atoms_spec B.pre w (List.mem_cons_of_mem _ h)
  have hown : s.vm.findClass R_Model = some m.cls := findClass_of_methodNamed B.named
  have hlocks := B.notSynchronized
  have hK := hC.1
  have hI := hC.2.1
  have hG := hC.2.2.1
  have hN := hC.2.2.2
  have hS : va_S (xA G) s.heap s.heap [] := va_S.rf
  have jn60 : ∀ (bk10 : Int32 → Int32 → St → Option (Int32 × St)) (hbk10 : ∀ (ls : Array Slot) (H : Heap) (locs : List Loc) (σ : St) (l1 : Int32) (l2 : Int32), bk10 l1 l2 σ = some (r, σ') → lv_has ls 3 [(0, .ref (G.2.1 51)), (1, .int l1), (2, .int l2)] → xw G σ H → va_S (xA G) s.heap H locs → W p l e (headSpec (ws_Model_hasStar) rm_Model_hasStar).room s m ([.ref (G.2.1 51)] : List Value).toArray below meth c H locs 0 0 (MQ below (xQ G (some (.int r)) σ') ([.ref (G.2.1 51)] : List Value).toArray s 0 0 (xA G)) (F0 m 10 ls [])) (ls : Array Slot) (H : Heap) (locs : List Loc) (σ : St) (l2 : Int32) (k0 : Int32), x_Model_hasStar_60 bk10 l2 k0 σ = some (r, σ') → lv_has ls 3 [(0, .ref (G.2.1 51)), (2, .int l2)] → xw G σ H → va_S (xA G) s.heap H locs → W p l e (headSpec (ws_Model_hasStar) rm_Model_hasStar).room s m ([.ref (G.2.1 51)] : List Value).toArray below meth c H locs 0 0 (MQ below (xQ G (some (.int r)) σ') ([.ref (G.2.1 51)] : List Value).toArray s 0 0 (xA G)) (F0 m 60 ls [.int k0]) := by
    intro bk10 hbk10 ls H locs σ l2 k0 hE hl hw hS
    unfold x_Model_hasStar_60 at hE
    refine lv_istore_n hx hb d_Model_hasStar_60 rfl hl (by decide) rfl (fun ls hl => ?_)
    have hl : lv_has ls 3 [(1, .int k0), (0, .ref (G.2.1 51)), (2, .int l2)] := hl
    obtain ⟨v61, e61, hE⟩ := x_letE hE
    refine lv_iinc hx hb d_Model_hasStar_61 hl (k := 2) rfl (x_inc v61 e61 (by decide)) (by decide) rfl (fun ls hl => ?_)
    have hl : lv_has ls 3 [(2, .int v61), (1, .int k0), (0, .ref (G.2.1 51))] := hl
    refine lv_goto (tgt := 10) hx hb d_Model_hasStar_64 (by decide) ?_
    exact hbk10 _ _ _ _ _ _ hE (lv_sub hl [2, 1, 0] rfl) hw hS
  have jn55 : ∀ (bk10 : Int32 → Int32 → St → Option (Int32 × St)) (hbk10 : ∀ (ls : Array Slot) (H : Heap) (locs : List Loc) (σ : St) (l1 : Int32) (l2 : Int32), bk10 l1 l2 σ = some (r, σ') → lv_has ls 3 [(0, .ref (G.2.1 51)), (1, .int l1), (2, .int l2)] → xw G σ H → va_S (xA G) s.heap H locs → W p l e (headSpec (ws_Model_hasStar) rm_Model_hasStar).room s m ([.ref (G.2.1 51)] : List Value).toArray below meth c H locs 0 0 (MQ below (xQ G (some (.int r)) σ') ([.ref (G.2.1 51)] : List Value).toArray s 0 0 (xA G)) (F0 m 10 ls [])) (ls : Array Slot) (H : Heap) (locs : List Loc) (σ : St) (l2 : Int32), x_Model_hasStar_55 bk10 l2 σ = some (r, σ') → lv_has ls 3 [(0, .ref (G.2.1 51)), (2, .int l2)] → xw G σ H → va_S (xA G) s.heap H locs → W p l e (headSpec (ws_Model_hasStar) rm_Model_hasStar).room s m ([.ref (G.2.1 51)] : List Value).toArray below meth c H locs 0 0 (MQ below (xQ G (some (.int r)) σ') ([.ref (G.2.1 51)] : List Value).toArray s 0 0 (xA G)) (F0 m 55 ls []) := by
    intro bk10 hbk10 ls H locs σ l2 hE hl hw hS
    unfold x_Model_hasStar_55 at hE
    refine lv_iconst (v := (1 : Int32)) hx hb d_Model_hasStar_55 (by decide) ?_
    refine lv_goto (tgt := 60) hx hb d_Model_hasStar_56 (by decide) ?_
    exact jn60 _ hbk10 _ _ _ _ _ _ hE (lv_sub hl [0, 1] rfl) hw hS
  have jn59 : ∀ (bk10 : Int32 → Int32 → St → Option (Int32 × St)) (hbk10 : ∀ (ls : Array Slot) (H : Heap) (locs : List Loc) (σ : St) (l1 : Int32) (l2 : Int32), bk10 l1 l2 σ = some (r, σ') → lv_has ls 3 [(0, .ref (G.2.1 51)), (1, .int l1), (2, .int l2)] → xw G σ H → va_S (xA G) s.heap H locs → W p l e (headSpec (ws_Model_hasStar) rm_Model_hasStar).room s m ([.ref (G.2.1 51)] : List Value).toArray below meth c H locs 0 0 (MQ below (xQ G (some (.int r)) σ') ([.ref (G.2.1 51)] : List Value).toArray s 0 0 (xA G)) (F0 m 10 ls [])) (ls : Array Slot) (H : Heap) (locs : List Loc) (σ : St) (l2 : Int32), x_Model_hasStar_59 bk10 l2 σ = some (r, σ') → lv_has ls 3 [(0, .ref (G.2.1 51)), (2, .int l2)] → xw G σ H → va_S (xA G) s.heap H locs → W p l e (headSpec (ws_Model_hasStar) rm_Model_hasStar).room s m ([.ref (G.2.1 51)] : List Value).toArray below meth c H locs 0 0 (MQ below (xQ G (some (.int r)) σ') ([.ref (G.2.1 51)] : List Value).toArray s 0 0 (xA G)) (F0 m 59 ls []) := by
    intro bk10 hbk10 ls H locs σ l2 hE hl hw hS
    unfold x_Model_hasStar_59 at hE
    refine lv_iconst (v := (0 : Int32)) hx hb d_Model_hasStar_59 (by decide) ?_
    exact jn60 _ hbk10 _ _ _ _ _ _ hE (lv_sub hl [0, 1] rfl) hw hS
  have jn10 : ∀ (n : Nat) (ls : Array Slot) (H : Heap) (locs : List Loc) (σ : St) (l1 : Int32) (l2 : Int32), x_Model_hasStar_10 n l1 l2 σ = some (r, σ') → lv_has ls 3 [(0, .ref (G.2.1 51)), (1, .int l1), (2, .int l2)] → xw G σ H → va_S (xA G) s.heap H locs → W p l e (headSpec (ws_Model_hasStar) rm_Model_hasStar).room s m ([.ref (G.2.1 51)] : List Value).toArray below meth c H locs 0 0 (MQ below (xQ G (some (.int r)) σ') ([.ref (G.2.1 51)] : List Value).toArray s 0 0 (xA G)) (F0 m 10 ls []) := by
    intro n
    induction n with
    | zero => intro ls H locs σ l1 l2 hE; rw [x_Model_hasStar_10] at hE; cases hE
    | succ n ih =>
      intro ls H locs σ l1 l2 hE hl hw hS
      rw [x_Model_hasStar_10] at hE
      refine lv_iload_n hx hb d_Model_hasStar_10 rfl (lv_at hl 2 rfl) ?_
      refine lv_aload_n hx hb d_Model_hasStar_11 rfl (lv_at hl 0 rfl) ?_
      refine va_get (D := G.1) (cl := xCl) (ci := 10) (v := .int (σ.1 51 26)) (C := R_Model) (T := T_Model) (N := 33) hx hb hu fi_Model hown hK hw 51 (x_at (by decide) (xcl_51 G σ)) rfl 26 (by decide) (hu _ mw_1094) (fun _ h9 => h9) rfl d_Model_hasStar_12 ?_
      refine lv_icmp_ge (tgt := 67) hx hb d_Model_hasStar_15 (by decide) (fun hc15 => ?_) (fun hc15 => ?_)
      · rw [if_pos hc15] at hE
        refine lv_iload_n hx hb d_Model_hasStar_67 rfl (lv_at hl 1 rfl) ?_
        obtain ⟨g68, hE⟩ := x_guard hE
        obtain ⟨e1, e2⟩ := x_pair hE
        exact W.zret (v := l1) hx hb hr (x_nz g68) (fun t ht hW => ⟨by rw [e1], by rw [ht, ← e2]; exact hw, hS.F ht⟩) hS.2.2 d_Model_hasStar_68
      · rw [if_neg hc15] at hE
        refine lv_iload_n hx hb d_Model_hasStar_18 rfl (lv_at hl 1 rfl) ?_
        refine lv_if_ne (tgt := 55) hx hb d_Model_hasStar_19 (by decide) (fun hc19 => ?_) (fun hc19 => ?_)
        · rw [if_neg hc19] at hE
          exact jn55 _ ih _ _ _ _ _ hE (lv_sub hl [0, 2] rfl) hw hS
        · rw [if_pos hc19] at hE
          refine lv_aload_n hx hb d_Model_hasStar_22 rfl (lv_at hl 0 rfl) ?_
          refine va_get (D := G.1) (cl := xCl) (ci := 10) (v := .ref (G.2.1 64)) (C := R_Model) (T := T_Model) (N := 33) hx hb hu fi_Model hown hK hw 51 (x_at (by decide) (xcl_51 G σ)) rfl 28 (by decide) (hu _ mw_1096) (fun _ h9 => h9) rfl d_Model_hasStar_23 ?_
          refine lv_iload_n hx hb d_Model_hasStar_26 rfl (lv_at hl 2 rfl) ?_
          obtain ⟨g27, hE⟩ := x_guard hE
          refine va_iald hx hb hK hw 64 0 (x_at (by decide) (xcl_64 G σ)) rfl g27 d_Model_hasStar_27 ?_
          refine lv_aload_n hx hb d_Model_hasStar_28 rfl (lv_at hl 0 rfl) ?_
          refine va_get (D := G.1) (cl := xCl) (ci := 10) (v := .ref (G.2.1 63)) (C := R_Model) (T := T_Model) (N := 33) hx hb hu fi_Model hown hK hw 51 (x_at (by decide) (xcl_51 G σ)) rfl 27 (by decide) (hu _ mw_1095) (fun _ h9 => h9) rfl d_Model_hasStar_29 ?_
          refine lv_iload_n hx hb d_Model_hasStar_32 rfl (lv_at hl 2 rfl) ?_
          obtain ⟨g33, hE⟩ := x_guard hE
          refine va_iald hx hb hK hw 63 0 (x_at (by decide) (xcl_63 G σ)) rfl g33 d_Model_hasStar_33 ?_
          refine lv_isub hx hb d_Model_hasStar_34 ?_
          refine lv_iconst (v := (1 : Int32)) hx hb d_Model_hasStar_35 (by decide) ?_
          refine lv_icmp_ne (tgt := 59) hx hb d_Model_hasStar_36 (by decide) (fun hc36 => ?_) (fun hc36 => ?_)
          · rw [if_neg hc36] at hE
            exact jn59 _ ih _ _ _ _ _ hE (lv_sub hl [0, 2] rfl) hw hS
          · rw [if_pos hc36] at hE
            refine lv_aload_n hx hb d_Model_hasStar_39 rfl (lv_at hl 0 rfl) ?_
            refine va_get (D := G.1) (cl := xCl) (ci := 10) (v := .ref (G.2.1 59)) (C := R_Model) (T := T_Model) (N := 33) hx hb hu fi_Model hown hK hw 51 (x_at (by decide) (xcl_51 G σ)) rfl 18 (by decide) (hu _ mw_1086) (fun _ h9 => h9) rfl d_Model_hasStar_40 ?_
            refine lv_aload_n hx hb d_Model_hasStar_43 rfl (lv_at hl 0 rfl) ?_
            refine va_get (D := G.1) (cl := xCl) (ci := 10) (v := .ref (G.2.1 63)) (C := R_Model) (T := T_Model) (N := 33) hx hb hu fi_Model hown hK hw 51 (x_at (by decide) (xcl_51 G σ)) rfl 27 (by decide) (hu _ mw_1095) (fun _ h9 => h9) rfl d_Model_hasStar_44 ?_
            refine lv_iload_n hx hb d_Model_hasStar_47 rfl (lv_at hl 2 rfl) ?_
            obtain ⟨g48, hE⟩ := x_guard hE
            refine va_iald hx hb hK hw 63 0 (x_at (by decide) (xcl_63 G σ)) rfl g48 d_Model_hasStar_48 ?_
            obtain ⟨g49, hE⟩ := x_guard hE
            refine va_iald hx hb hK hw 59 0 (x_at (by decide) (xcl_59 G σ)) rfl g49 d_Model_hasStar_49 ?_
            refine lv_bipush (v := (42 : Int32)) hx hb d_Model_hasStar_50 (by decide) ?_
            refine lv_icmp_ne (tgt := 59) hx hb d_Model_hasStar_52 (by decide) (fun hc52 => ?_) (fun hc52 => ?_)
            · rw [if_neg hc52] at hE
              exact jn59 _ ih _ _ _ _ _ hE (lv_sub hl [0, 2] rfl) hw hS
            · rw [if_pos hc52] at hE
              exact jn55 _ ih _ _ _ _ _ hE (lv_sub hl [0, 2] rfl) hw hS
  have hl := lv_entry ([.ref (G.2.1 51)]) (n := 3) (Nat.le_of_ble_eq_true rfl)
  rw [lg_entry_eq]
  generalize (lg_sl ([.ref (G.2.1 51)]) ++ List.replicate (3 - (lg_sl ([.ref (G.2.1 51)])).length) Slot.unset).toArray = ls at hl ⊢
  have hl : lv_has ls 3 [(0, .ref (G.2.1 51))] := hl
  unfold x_Model_hasStar at hE
  refine lv_aload_n hx hb d_Model_hasStar_0 rfl (lv_at hl 0 rfl) ?_
  refine lv_bipush (v := (56 : Int32)) hx hb d_Model_hasStar_1 (by decide) ?_
  obtain ⟨s3, hC3, hE⟩ := x_bind hE
  refine x_callV hS (W.runV (As := [.int (56 : Int32)]) (rest := []) ⟨hx, hb, hml, hown, hu⟩ (t_Model_list l G σ (56 : Int32) s3 hC3) (cwV 1 hu (uw_V mw_1243 mw_1245 mw_36 mw_70 mw_1246) rfl rfl rfl hd_Model_list ⟨Nat.le_of_ble_eq_true rfl, Nat.le_of_ble_eq_true rfl⟩) (x_preV hC hS hw (va_recv hK hw (q := (R_Model, T_Model, 33)) (ci := 10) rfl (x_at (by decide) (xcl_51 G σ)))) rfl rfl hl.1 rfl (lv_room (Nat.le_of_ble_eq_true rfl)) d_Model_hasStar_3 ⟨Nat.le_of_ble_eq_true rfl, Nat.le_of_ble_eq_true rfl⟩) (fun H locs hw hS => ?_)
  refine lv_iconst (v := (0 : Int32)) hx hb d_Model_hasStar_6 (by decide) ?_
  refine lv_istore_n hx hb d_Model_hasStar_7 rfl hl (by decide) rfl (fun ls hl => ?_)
  have hl : lv_has ls 3 [(1, .int (0 : Int32)), (0, .ref (G.2.1 51))] := hl
  refine lv_iconst (v := (0 : Int32)) hx hb d_Model_hasStar_8 (by decide) ?_
  refine lv_istore_n hx hb d_Model_hasStar_9 rfl hl (by decide) rfl (fun ls hl => ?_)
  have hl : lv_has ls 3 [(2, .int (0 : Int32)), (1, .int (0 : Int32)), (0, .ref (G.2.1 51))] := hl
  exact jn10 x_fuel _ _ _ _ _ _ hE (lv_sub hl [2, 1, 0] rfl) hw hS

def y_Model_change : MethodName := ⟨"PlainOriginModel", "change", "(I)V"⟩
def ws_Model_change : List Cond := Cond.code y_Model_change prog_14_method_47_code 6 none :: UW
theorem hd_Model_change : y_Model_change.cls = R_Model ∧ y_Model_change.cls ≠ "java/lang/invoke/MethodHandle" ∧ y_Model_change.cls ≠ "java/lang/invoke/VarHandle" ∧ (parseMethodDescriptor y_Model_change.desc).map (fun d => d.parameters.length) = some 1 := by decide +kernel
theorem d_Model_change_0 : decode prog_14_method_47_code 0 = .ok (.aload_n 0, 1) := by decide +kernel
theorem d_Model_change_1 : decode prog_14_method_47_code 1 = .ok (.getfield 87, 3) := by decide +kernel
theorem d_Model_change_4 : decode prog_14_method_47_code 4 = .ok (.iload_n 1, 1) := by decide +kernel
theorem d_Model_change_5 : decode prog_14_method_47_code 5 = .ok (.baload, 1) := by decide +kernel
theorem d_Model_change_6 : decode prog_14_method_47_code 6 = .ok (.istore_n 2, 1) := by decide +kernel
theorem d_Model_change_7 : decode prog_14_method_47_code 7 = .ok (.iload_n 2, 1) := by decide +kernel
theorem d_Model_change_8 : decode prog_14_method_47_code 8 = .ok (.ifCond .eq (9), 3) := by decide +kernel
theorem d_Model_change_11 : decode prog_14_method_47_code 11 = .ok (.sipush (204), 3) := by decide +kernel
theorem d_Model_change_14 : decode prog_14_method_47_code 14 = .ok (.goto (6), 3) := by decide +kernel
theorem d_Model_change_17 : decode prog_14_method_47_code 17 = .ok (.sipush (201), 3) := by decide +kernel
theorem d_Model_change_20 : decode prog_14_method_47_code 20 = .ok (.istore_n 3, 1) := by decide +kernel
theorem d_Model_change_21 : decode prog_14_method_47_code 21 = .ok (.aload_n 0, 1) := by decide +kernel
theorem d_Model_change_22 : decode prog_14_method_47_code 22 = .ok (.getfield 108, 3) := by decide +kernel
theorem d_Model_change_25 : decode prog_14_method_47_code 25 = .ok (.sipush (130), 3) := by decide +kernel
theorem d_Model_change_28 : decode prog_14_method_47_code 28 = .ok (.if_icmp .ne (25), 3) := by decide +kernel
theorem d_Model_change_31 : decode prog_14_method_47_code 31 = .ok (.iload_n 2, 1) := by decide +kernel
theorem d_Model_change_32 : decode prog_14_method_47_code 32 = .ok (.ifCond .eq (16), 3) := by decide +kernel
theorem d_Model_change_35 : decode prog_14_method_47_code 35 = .ok (.aload_n 0, 1) := by decide +kernel
theorem d_Model_change_36 : decode prog_14_method_47_code 36 = .ok (.invokevirtual 325, 3) := by decide +kernel
theorem d_Model_change_39 : decode prog_14_method_47_code 39 = .ok (.ifCond .eq (9), 3) := by decide +kernel
theorem d_Model_change_42 : decode prog_14_method_47_code 42 = .ok (.sipush (412), 3) := by decide +kernel
theorem d_Model_change_45 : decode prog_14_method_47_code 45 = .ok (.goto (4), 3) := by decide +kernel
theorem d_Model_change_48 : decode prog_14_method_47_code 48 = .ok (.iload_n 3, 1) := by decide +kernel
theorem d_Model_change_49 : decode prog_14_method_47_code 49 = .ok (.istore_n 3, 1) := by decide +kernel
theorem d_Model_change_50 : decode prog_14_method_47_code 50 = .ok (.goto (50), 3) := by decide +kernel
theorem d_Model_change_53 : decode prog_14_method_47_code 53 = .ok (.iload_n 2, 1) := by decide +kernel
theorem d_Model_change_54 : decode prog_14_method_47_code 54 = .ok (.ifCond .ne (9), 3) := by decide +kernel
theorem d_Model_change_57 : decode prog_14_method_47_code 57 = .ok (.sipush (404), 3) := by decide +kernel
theorem d_Model_change_60 : decode prog_14_method_47_code 60 = .ok (.goto (39), 3) := by decide +kernel
theorem d_Model_change_63 : decode prog_14_method_47_code 63 = .ok (.aload_n 0, 1) := by decide +kernel
theorem d_Model_change_64 : decode prog_14_method_47_code 64 = .ok (.getfield 108, 3) := by decide +kernel
theorem d_Model_change_67 : decode prog_14_method_47_code 67 = .ok (.sipush (134), 3) := by decide +kernel
theorem d_Model_change_70 : decode prog_14_method_47_code 70 = .ok (.if_icmp .ne (26), 3) := by decide +kernel
theorem d_Model_change_73 : decode prog_14_method_47_code 73 = .ok (.aload_n 0, 1) := by decide +kernel
theorem d_Model_change_74 : decode prog_14_method_47_code 74 = .ok (.getfield 95, 3) := by decide +kernel
theorem d_Model_change_77 : decode prog_14_method_47_code 77 = .ok (.iload_n 1, 1) := by decide +kernel
theorem d_Model_change_78 : decode prog_14_method_47_code 78 = .ok (.iaload, 1) := by decide +kernel
theorem d_Model_change_79 : decode prog_14_method_47_code 79 = .ok (.aload_n 0, 1) := by decide +kernel
theorem d_Model_change_80 : decode prog_14_method_47_code 80 = .ok (.getfield 185, 3) := by decide +kernel
theorem d_Model_change_83 : decode prog_14_method_47_code 83 = .ok (.iadd, 1) := by decide +kernel
theorem d_Model_change_84 : decode prog_14_method_47_code 84 = .ok (.sipush (200), 3) := by decide +kernel
theorem d_Model_change_87 : decode prog_14_method_47_code 87 = .ok (.if_icmp .le (9), 3) := by decide +kernel
theorem d_Model_change_90 : decode prog_14_method_47_code 90 = .ok (.sipush (413), 3) := by decide +kernel
theorem d_Model_change_93 : decode prog_14_method_47_code 93 = .ok (.goto (6), 3) := by decide +kernel
theorem d_Model_change_96 : decode prog_14_method_47_code 96 = .ok (.sipush (204), 3) := by decide +kernel
theorem d_Model_change_99 : decode prog_14_method_47_code 99 = .ok (.istore_n 3, 1) := by decide +kernel
theorem d_Model_change_100 : decode prog_14_method_47_code 100 = .ok (.iload_n 3, 1) := by decide +kernel
theorem d_Model_change_101 : decode prog_14_method_47_code 101 = .ok (.sipush (205), 3) := by decide +kernel
theorem d_Model_change_104 : decode prog_14_method_47_code 104 = .ok (.if_icmp .ge (120), 3) := by decide +kernel
theorem d_Model_change_107 : decode prog_14_method_47_code 107 = .ok (.aload_n 0, 1) := by decide +kernel
theorem d_Model_change_108 : decode prog_14_method_47_code 108 = .ok (.getfield 108, 3) := by decide +kernel
theorem d_Model_change_111 : decode prog_14_method_47_code 111 = .ok (.sipush (134), 3) := by decide +kernel
theorem d_Model_change_114 : decode prog_14_method_47_code 114 = .ok (.if_icmp .ne (12), 3) := by decide +kernel
theorem d_Model_change_117 : decode prog_14_method_47_code 117 = .ok (.aload_n 0, 1) := by decide +kernel
theorem d_Model_change_118 : decode prog_14_method_47_code 118 = .ok (.getfield 95, 3) := by decide +kernel
theorem d_Model_change_121 : decode prog_14_method_47_code 121 = .ok (.iload_n 1, 1) := by decide +kernel
theorem d_Model_change_122 : decode prog_14_method_47_code 122 = .ok (.iaload, 1) := by decide +kernel
theorem d_Model_change_123 : decode prog_14_method_47_code 123 = .ok (.goto (4), 3) := by decide +kernel
theorem d_Model_change_126 : decode prog_14_method_47_code 126 = .ok (.iconst 0, 1) := by decide +kernel
theorem d_Model_change_127 : decode prog_14_method_47_code 127 = .ok (.istore 4, 2) := by decide +kernel
theorem d_Model_change_129 : decode prog_14_method_47_code 129 = .ok (.iconst 0, 1) := by decide +kernel
theorem d_Model_change_130 : decode prog_14_method_47_code 130 = .ok (.istore 5, 2) := by decide +kernel
theorem d_Model_change_132 : decode prog_14_method_47_code 132 = .ok (.iload 5, 2) := by decide +kernel
theorem d_Model_change_134 : decode prog_14_method_47_code 134 = .ok (.aload_n 0, 1) := by decide +kernel
theorem d_Model_change_135 : decode prog_14_method_47_code 135 = .ok (.getfield 185, 3) := by decide +kernel
theorem d_Model_change_138 : decode prog_14_method_47_code 138 = .ok (.if_icmp .ge (32), 3) := by decide +kernel
theorem d_Model_change_141 : decode prog_14_method_47_code 141 = .ok (.aload_n 0, 1) := by decide +kernel
theorem d_Model_change_142 : decode prog_14_method_47_code 142 = .ok (.getfield 98, 3) := by decide +kernel
theorem d_Model_change_145 : decode prog_14_method_47_code 145 = .ok (.sipush (200), 3) := by decide +kernel
theorem d_Model_change_148 : decode prog_14_method_47_code 148 = .ok (.iload_n 1, 1) := by decide +kernel
theorem d_Model_change_149 : decode prog_14_method_47_code 149 = .ok (.imul, 1) := by decide +kernel
theorem d_Model_change_150 : decode prog_14_method_47_code 150 = .ok (.iload 4, 2) := by decide +kernel
theorem d_Model_change_152 : decode prog_14_method_47_code 152 = .ok (.iadd, 1) := by decide +kernel
theorem d_Model_change_153 : decode prog_14_method_47_code 153 = .ok (.iload 5, 2) := by decide +kernel
theorem d_Model_change_155 : decode prog_14_method_47_code 155 = .ok (.iadd, 1) := by decide +kernel
theorem d_Model_change_156 : decode prog_14_method_47_code 156 = .ok (.aload_n 0, 1) := by decide +kernel
theorem d_Model_change_157 : decode prog_14_method_47_code 157 = .ok (.getfield 127, 3) := by decide +kernel
theorem d_Model_change_160 : decode prog_14_method_47_code 160 = .ok (.iload 5, 2) := by decide +kernel
theorem d_Model_change_162 : decode prog_14_method_47_code 162 = .ok (.iaload, 1) := by decide +kernel
theorem d_Model_change_163 : decode prog_14_method_47_code 163 = .ok (.iastore, 1) := by decide +kernel
theorem d_Model_change_164 : decode prog_14_method_47_code 164 = .ok (.iinc 5 (1), 3) := by decide +kernel
theorem d_Model_change_167 : decode prog_14_method_47_code 167 = .ok (.goto (-35), 3) := by decide +kernel
theorem d_Model_change_170 : decode prog_14_method_47_code 170 = .ok (.aload_n 0, 1) := by decide +kernel
theorem d_Model_change_171 : decode prog_14_method_47_code 171 = .ok (.getfield 95, 3) := by decide +kernel
theorem d_Model_change_174 : decode prog_14_method_47_code 174 = .ok (.iload_n 1, 1) := by decide +kernel
theorem d_Model_change_175 : decode prog_14_method_47_code 175 = .ok (.iload 4, 2) := by decide +kernel
theorem d_Model_change_177 : decode prog_14_method_47_code 177 = .ok (.aload_n 0, 1) := by decide +kernel
theorem d_Model_change_178 : decode prog_14_method_47_code 178 = .ok (.getfield 185, 3) := by decide +kernel
theorem d_Model_change_181 : decode prog_14_method_47_code 181 = .ok (.iadd, 1) := by decide +kernel
theorem d_Model_change_182 : decode prog_14_method_47_code 182 = .ok (.iastore, 1) := by decide +kernel
theorem d_Model_change_183 : decode prog_14_method_47_code 183 = .ok (.aload_n 0, 1) := by decide +kernel
theorem d_Model_change_184 : decode prog_14_method_47_code 184 = .ok (.getfield 87, 3) := by decide +kernel
theorem d_Model_change_187 : decode prog_14_method_47_code 187 = .ok (.iload_n 1, 1) := by decide +kernel
theorem d_Model_change_188 : decode prog_14_method_47_code 188 = .ok (.aload_n 0, 1) := by decide +kernel
theorem d_Model_change_189 : decode prog_14_method_47_code 189 = .ok (.getfield 108, 3) := by decide +kernel
theorem d_Model_change_192 : decode prog_14_method_47_code 192 = .ok (.sipush (139), 3) := by decide +kernel
theorem d_Model_change_195 : decode prog_14_method_47_code 195 = .ok (.if_icmp .eq (7), 3) := by decide +kernel
theorem d_Model_change_198 : decode prog_14_method_47_code 198 = .ok (.iconst 1, 1) := by decide +kernel
theorem d_Model_change_199 : decode prog_14_method_47_code 199 = .ok (.goto (4), 3) := by decide +kernel
theorem d_Model_change_202 : decode prog_14_method_47_code 202 = .ok (.iconst 0, 1) := by decide +kernel
theorem d_Model_change_203 : decode prog_14_method_47_code 203 = .ok (.bastore, 1) := by decide +kernel
theorem d_Model_change_204 : decode prog_14_method_47_code 204 = .ok (.aload_n 0, 1) := by decide +kernel
theorem d_Model_change_205 : decode prog_14_method_47_code 205 = .ok (.dup, 1) := by decide +kernel
theorem d_Model_change_206 : decode prog_14_method_47_code 206 = .ok (.getfield 329, 3) := by decide +kernel
theorem d_Model_change_209 : decode prog_14_method_47_code 209 = .ok (.iconst 1, 1) := by decide +kernel
theorem d_Model_change_210 : decode prog_14_method_47_code 210 = .ok (.iadd, 1) := by decide +kernel
theorem d_Model_change_211 : decode prog_14_method_47_code 211 = .ok (.putfield 329, 3) := by decide +kernel
theorem d_Model_change_214 : decode prog_14_method_47_code 214 = .ok (.aload_n 0, 1) := by decide +kernel
theorem d_Model_change_215 : decode prog_14_method_47_code 215 = .ok (.getfield 91, 3) := by decide +kernel
theorem d_Model_change_218 : decode prog_14_method_47_code 218 = .ok (.iload_n 1, 1) := by decide +kernel
theorem d_Model_change_219 : decode prog_14_method_47_code 219 = .ok (.aload_n 0, 1) := by decide +kernel
theorem d_Model_change_220 : decode prog_14_method_47_code 220 = .ok (.getfield 329, 3) := by decide +kernel
theorem d_Model_change_223 : decode prog_14_method_47_code 223 = .ok (.iastore, 1) := by decide +kernel
theorem d_Model_change_224 : decode prog_14_method_47_code 224 = .ok (.aload_n 0, 1) := by decide +kernel
theorem d_Model_change_225 : decode prog_14_method_47_code 225 = .ok (.iload_n 3, 1) := by decide +kernel
theorem d_Model_change_226 : decode prog_14_method_47_code 226 = .ok (.iconst 0, 1) := by decide +kernel
theorem d_Model_change_227 : decode prog_14_method_47_code 227 = .ok (.iconst (-1), 1) := by decide +kernel
theorem d_Model_change_228 : decode prog_14_method_47_code 228 = .ok (.iconst (-1), 1) := by decide +kernel
theorem d_Model_change_229 : decode prog_14_method_47_code 229 = .ok (.iconst 0, 1) := by decide +kernel
theorem d_Model_change_230 : decode prog_14_method_47_code 230 = .ok (.iconst 0, 1) := by decide +kernel
theorem d_Model_change_231 : decode prog_14_method_47_code 231 = .ok (.invokevirtual 175, 3) := by decide +kernel
theorem d_Model_change_234 : decode prog_14_method_47_code 234 = .ok (.return_, 1) := by decide +kernel
def x_Model_change_224 (a1 : Int32) (l3 : Int32) (σ : St) : Option St := (Option.bind (x_Model_respond l3 (0 : Int32) ((-1) : Int32) ((-1) : Int32) (0 : Int32) (0 : Int32) σ) (fun s231 => some s231))
def x_Model_change_203 (a1 : Int32) (l3 : Int32) (k0 : Int32) (k1 : Int32) (σ : St) : Option St := (if x_in k1 8 then (x_let (x_updM σ 53 k1.toNatClampNeg (vp_nar .boolean k0)) (fun (s203 : St) => (x_let (x_updR s203 51 6 ((s203.1 51 6) + (1 : Int32))) (fun (s211 : St) => (if x_in a1 8 then (x_let (x_updM s211 54 a1.toNatClampNeg (s211.1 51 6)) (fun (s223 : St) => x_Model_change_224 a1 l3 s223)) else none))))) else none)
def x_Model_change_132 (a1 : Int32) : Nat → Int32 → Int32 → Int32 → St → Option St
  | 0, _, _, _, _ => none
  | n + 1, l3, l4, l5, σ => (if (σ.1 51 22) ≤ l5 then (if x_in a1 8 then (x_let (x_updM σ 55 a1.toNatClampNeg (l4 + (σ.1 51 22))) (fun (s182 : St) => (if (s182.1 51 12) = (139 : Int32) then x_Model_change_203 a1 l3 (0 : Int32) a1 s182 else x_Model_change_203 a1 l3 (1 : Int32) a1 s182))) else none) else (if x_in l5 200 then (if x_in ((((200 : Int32) * a1) + l4) + l5) 1600 then (x_let (x_updM σ 56 ((((200 : Int32) * a1) + l4) + l5).toNatClampNeg (σ.2.1 62 l5.toNatClampNeg)) (fun (s163 : St) => (x_let (l5 + (1 : Int32)) (fun (v164 : Int32) => x_Model_change_132 a1 n l3 l4 v164 s163)))) else none) else none))
def x_Model_change_127 (a1 : Int32) (l3 : Int32) (k0 : Int32) (σ : St) : Option St := x_Model_change_132 a1 x_fuel l3 k0 (0 : Int32) σ
def x_Model_change_100 (a1 : Int32) (l3 : Int32) (σ : St) : Option St := (if (205 : Int32) ≤ l3 then x_Model_change_224 a1 l3 σ else (if (σ.1 51 12) = (134 : Int32) then (if x_in a1 8 then x_Model_change_127 a1 l3 (σ.2.1 55 a1.toNatClampNeg) σ else none) else x_Model_change_127 a1 l3 (0 : Int32) σ))
def x_Model_change_99 (a1 : Int32) (k0 : Int32) (σ : St) : Option St := x_Model_change_100 a1 k0 σ
def x_Model_change_96 (a1 : Int32) (σ : St) : Option St := x_Model_change_99 a1 (204 : Int32) σ
def x_Model_change_49 (a1 : Int32) (k0 : Int32) (σ : St) : Option St := x_Model_change_100 a1 k0 σ
def x_Model_change_48 (a1 : Int32) (l3 : Int32) (σ : St) : Option St := x_Model_change_49 a1 l3 σ
def x_Model_change_20 (a1 : Int32) (l2 : Int32) (k0 : Int32) (σ : St) : Option St := (if (σ.1 51 12) = (130 : Int32) then (if l2 = 0 then x_Model_change_48 a1 k0 σ else (x_bind2 (x_Model_hasStar σ) (fun r36 s36 => (if r36 = 0 then x_Model_change_48 a1 k0 s36 else x_Model_change_49 a1 (412 : Int32) s36)))) else (if l2 = 0 then x_Model_change_99 a1 (404 : Int32) σ else (if (σ.1 51 12) = (134 : Int32) then (if x_in a1 8 then (if ((σ.2.1 55 a1.toNatClampNeg) + (σ.1 51 22)) ≤ (200 : Int32) then x_Model_change_96 a1 σ else x_Model_change_99 a1 (413 : Int32) σ) else none) else x_Model_change_96 a1 σ)))
def x_Model_change (a1 : Int32) (σ : St) : Option St := (if x_in a1 8 then (x_let (σ.2.1 53 a1.toNatClampNeg) (fun (v6 : Int32) => (if v6 = 0 then x_Model_change_20 a1 v6 (201 : Int32) σ else x_Model_change_20 a1 v6 (204 : Int32) σ))) else none)
abbrev rm_Model_change : Room := { frames := 6, cells := 0, slots := 0, locals := 135 }
set_option maxHeartbeats 4000000 in
set_option maxRecDepth 100000 in
theorem t_Model_change (l : Launch) (G : xG) (σ : St) (a1 : Int32) (σ' : St) (hE : x_Model_change a1 σ = some σ') : Met l y_Model_change (ws_Model_change) rm_Model_change (xP G σ [.ref (G.2.1 51), .int a1]) (xQ G none σ') 0 0 (xA G) := by
  refine Met.ofW (cc := prog_14_method_47_code) (maxL := 6) (ret := none) (by decide) rfl ?_
  intro p e s m args below meth c s₁ B hml hv
  obtain ⟨rfl, hw, hC⟩ := hv
  have hx := B.exec
  have hb := B.bytes
  have hr := B.returns
  have hu : ∀ w ∈ UW, w.before _ s = true := fun w h => atoms_spec B.pre w (List.mem_cons_of_mem _ h)
  have hown : s.vm.findClass R_Model = some m.cls := findClass_of_methodNamed B.named
  have hlocks := B.notSynchronized
  have hK := hC.1
  have hI := hC.2.1
  have hG := hC.2.2.1
  have hN := hC.2.2.2
  have hS : va_S (xA G) s.heap s.heap [] := va_S.rf
  have jn224 : ∀ (ls : Array Slot) (H : Heap) (locs : List Loc) (σ : St) (l3 : Int32), x_Model_change_224 a1 l3 σ = some σ' → lv_has ls 6 [(0, .ref (G.2.1 51)), (1, .int a1), (3, .int l3)] → xw G σ H → va_S (xA G) s.heap H locs → W p l e (headSpec (ws_Model_change) rm_Model_change).room s m ([.ref (G.2.1 51), .int a1] : List Value).toArray below meth c H locs 0 0 (MQ below (xQ G none σ') ([.ref (G.2.1 51), .int a1] : List Value).toArray s 0 0 (xA G)) (F0 m 224 ls []) := by
    intro ls H locs σ l3 hE hl hw hS
    unfold x_Model_change_224 at hE
    refine lv_aload_n hx hb d_Model_change_224 rfl (lv_at hl 0 rfl) ?_
    refine lv_iload_n hx hb d_Model_change_225 rfl (lv_at hl 2 rfl) ?_
    refine lv_iconst (v := (0 : Int32)) hx hb d_Model_change_226 (by decide) ?_
    refine lv_iconst (v := ((-1) : Int32)) hx hb d_Model_change_227 (by decide) ?_
    refine lv_iconst (v := ((-1) : Int32)) hx hb d_Model_change_228 (by decide) ?_
    refine lv_iconst (v := (0 : Int32)) hx hb d_Model_change_229 (by decide) ?_
    refine lv_iconst (v := (0 : Int32)) hx hb d_Model_change_230 (by decide) ?_
    obtain ⟨s231, hC231, hE⟩ := x_bind hE
    refine x_callV hS (W.runV (As := [.int l3, .int (0 : Int32), .int ((-1) : Int32), .int ((-1) : Int32), .int (0 : Int32), .int (0 : Int32)]) (rest := []) ⟨hx, hb, hml, hown, hu⟩ (t_Model_respond l G σ l3 (0 : Int32) ((-1) : Int32) ((-1) : Int32) (0 : Int32) (0 : Int32) s231 hC231) (cwV 6 hu (uw_V mw_1203 mw_1205 mw_26 mw_70 mw_1206) rfl rfl rfl hd_Model_respond ⟨Nat.le_of_ble_eq_true rfl, Nat.le_of_ble_eq_true rfl⟩) (x_preV hC hS hw (va_recv hK hw (q := (R_Model, T_Model, 33)) (ci := 10) rfl (x_at (by decide) (xcl_51 G σ)))) rfl rfl hl.1 rfl (lv_room (Nat.le_of_ble_eq_true rfl)) d_Model_change_231 ⟨Nat.le_of_ble_eq_true rfl, Nat.le_of_ble_eq_true rfl⟩) (fun H locs hw hS => ?_)
    have e1 := Option.some.inj hE
    exact W.vret hx hb hr (fun t ht hW => ⟨rfl, by rw [ht, ← e1]; exact hw, hS.F ht⟩) hS.2.2 d_Model_change_234
  have jn203 : ∀ (ls : Array Slot) (H : Heap) (locs : List Loc) (σ : St) (l3 : Int32) (k0 : Int32) (k1 : Int32), x_Model_change_203 a1 l3 k0 k1 σ = some σ' → lv_has ls 6 [(0, .ref (G.2.1 51)), (1, .int a1), (3, .int l3)] → xw G σ H → va_S (xA G) s.heap H locs → W p l e (headSpec (ws_Model_change) rm_Model_change).room s m ([.ref (G.2.1 51), .int a1] : List Value).toArray below meth c H locs 0 0 (MQ below (xQ G none σ') ([.ref (G.2.1 51), .int a1] : List Value).toArray s 0 0 (xA G)) (F0 m 203 ls [.int k0, .int k1, .ref (G.2.1 53)]) := by
    intro ls H locs σ l3 k0 k1 hE hl hw hS
    unfold x_Model_change_203 at hE
    obtain ⟨g203, hE⟩ := x_guard hE
    refine va_zast hx hb hK hw (x_D hI _) hS 53 1 (x_at (by decide) (xcl_53 G σ)) rfl g203 d_Model_change_203 (fun H locs hw _ hS => ?_)
    replace hw := x_setZ hw (by decide) (by decide)
    obtain ⟨s203, e203, hE⟩ := x_letE hE
    rw [← e203] at hw
    refine lv_aload_n hx hb d_Model_change_204 rfl (lv_at hl 0 rfl) ?_
    refine lv_dup hx hb d_Model_change_205 rfl ?_
    refine va_get (D := G.1) (cl := xCl) (ci := 10) (v := .int (s203.1 51 6)) (C := R_Model) (T := T_Model) (N := 33) hx hb hu fi_Model hown hK hw 51 (x_at (by decide) (xcl_51 G s203)) rfl 6 (by decide) (hu _ mw_1074) (fun _ h9 => h9) rfl d_Model_change_206 ?_
    refine lv_iconst (v := (1 : Int32)) hx hb d_Model_change_209 (by decide) ?_
    refine lv_iadd hx hb d_Model_change_210 ?_
    refine va_put (D := G.1) (cl := xCl) (ci := 10) (v := .int ((s203.1 51 6) + (1 : Int32))) (ty := .int) (C := R_Model) (T := T_Model) (N := 33) hx hb hu fi_Model ty_Model tyok_Model nm_Model hown hK hw (x_D hI _) hS 51 (x_at (by decide) (xcl_51 G s203)) rfl 6 (by decide) (hu _ mw_1074) (fun _ h9 => h9) rfl (tyok_Model 6 (by decide)) rfl rfl (Nat.le_of_ble_eq_true rfl) d_Model_change_211 (fun H locs hw _ hS => ?_)
    replace hw := x_setR hw (by decide) rfl
    obtain ⟨s211, e211, hE⟩ := x_letE hE
    rw [← e211] at hw
    refine lv_aload_n hx hb d_Model_change_214 rfl (lv_at hl 0 rfl) ?_
    refine va_get (D := G.1) (cl := xCl) (ci := 10) (v := .ref (G.2.1 54)) (C := R_Model) (T := T_Model) (N := 33) hx hb hu fi_Model hown hK hw 51 (x_at (by decide) (xcl_51 G s211)) rfl 3 (by decide) (hu _ mw_1071) (fun _ h9 => h9) rfl d_Model_change_215 ?_
    refine lv_iload_n hx hb d_Model_change_218 rfl (lv_at hl 1 rfl) ?_
    refine lv_aload_n hx hb d_Model_change_219 rfl (lv_at hl 0 rfl) ?_
    refine va_get (D := G.1) (cl := xCl) (ci := 10) (v := .int (s211.1 51 6)) (C := R_Model) (T := T_Model) (N := 33) hx hb hu fi_Model hown hK hw 51 (x_at (by decide) (xcl_51 G s211)) rfl 6 (by decide) (hu _ mw_1074) (fun _ h9 => h9) rfl d_Model_change_220 ?_
    obtain ⟨g223, hE⟩ := x_guard hE
    refine va_iast hx hb hK hw (x_D hI _) hS 54 0 (x_at (by decide) (xcl_54 G s211)) rfl g223 d_Model_change_223 (fun H locs hw _ hS => ?_)
    replace hw := x_setM hw (by decide) (by decide)
    obtain ⟨s223, e223, hE⟩ := x_letE hE
    rw [← e223] at hw
    exact jn224 _ _ _ _ _ hE (lv_sub hl [0, 1, 2] rfl) hw hS
  have jn132 : ∀ (n : Nat) (ls : Array Slot) (H : Heap) (locs : List Loc) (σ : St) (l3 : Int32) (l4 : Int32) (l5 : Int32), x_Model_change_132 a1 n l3 l4 l5 σ = some σ' → lv_has ls 6 [(0, .ref (G.2.1 51)), (1, .int a1), (3, .int l3), (4, .int l4), (5, .int l5)] → xw G σ H → va_S (xA G) s.heap H locs → W p l e (headSpec (ws_Model_change) rm_Model_change).room s m ([.ref (G.2.1 51), .int a1] : List Value).toArray below meth c H locs 0 0 (MQ below (xQ G none σ') ([.ref (G.2.1 51), .int a1] : List Value).toArray s 0 0 (xA G)) (F0 m 132 ls []) := by
    intro n
    induction n with
    | zero => intro ls H locs σ l3 l4 l5 hE; rw [x_Model_change_132] at hE; cases hE
    | succ n ih =>
      intro ls H locs σ l3 l4 l5 hE hl hw hS
      rw [x_Model_change_132] at hE
      refine lv_iload hx hb d_Model_change_132 (lv_at hl 4 rfl) ?_
      refine lv_aload_n hx hb d_Model_change_134 rfl (lv_at hl 0 rfl) ?_
      refine va_get (D := G.1) (cl := xCl) (ci := 10) (v := .int (σ.1 51 22)) (C := R_Model) (T := T_Model) (N := 33) hx hb hu fi_Model hown hK hw 51 (x_at (by decide) (xcl_51 G σ)) rfl 22 (by decide) (hu _ mw_1090) (fun _ h9 => h9) rfl d_Model_change_135 ?_
      refine lv_icmp_ge (tgt := 170) hx hb d_Model_change_138 (by decide) (fun hc138 => ?_) (fun hc138 => ?_)
      · rw [if_pos hc138] at hE
        refine lv_aload_n hx hb d_Model_change_170 rfl (lv_at hl 0 rfl) ?_
        refine va_get (D := G.1) (cl := xCl) (ci := 10) (v := .ref (G.2.1 55)) (C := R_Model) (T := T_Model) (N := 33) hx hb hu fi_Model hown hK hw 51 (x_at (by decide) (xcl_51 G σ)) rfl 4 (by decide) (hu _ mw_1072) (fun _ h9 => h9) rfl d_Model_change_171 ?_
        refine lv_iload_n hx hb d_Model_change_174 rfl (lv_at hl 1 rfl) ?_
        refine lv_iload hx hb d_Model_change_175 (lv_at hl 3 rfl) ?_
        refine lv_aload_n hx hb d_Model_change_177 rfl (lv_at hl 0 rfl) ?_
        refine va_get (D := G.1) (cl := xCl) (ci := 10) (v := .int (σ.1 51 22)) (C := R_Model) (T := T_Model) (N := 33) hx hb hu fi_Model hown hK hw 51 (x_at (by decide) (xcl_51 G σ)) rfl 22 (by decide) (hu _ mw_1090) (fun _ h9 => h9) rfl d_Model_change_178 ?_
        refine lv_iadd hx hb d_Model_change_181 ?_
        obtain ⟨g182, hE⟩ := x_guard hE
        refine va_iast hx hb hK hw (x_D hI _) hS 55 0 (x_at (by decide) (xcl_55 G σ)) rfl g182 d_Model_change_182 (fun H locs hw _ hS => ?_)
        replace hw := x_setM hw (by decide) (by decide)
        obtain ⟨s182, e182, hE⟩ := x_letE hE
        rw [← e182] at hw
        refine lv_aload_n hx hb d_Model_change_183 rfl (lv_at hl 0 rfl) ?_
        refine va_get (D := G.1) (cl := xCl) (ci := 10) (v := .ref (G.2.1 53)) (C := R_Model) (T := T_Model) (N := 33) hx hb hu fi_Model hown hK hw 51 (x_at (by decide) (xcl_51 G s182)) rfl 2 (by decide) (hu _ mw_1070) (fun _ h9 => h9) rfl d_Model_change_184 ?_
        refine lv_iload_n hx hb d_Model_change_187 rfl (lv_at hl 1 rfl) ?_
        refine lv_aload_n hx hb d_Model_change_188 rfl (lv_at hl 0 rfl) ?_
        refine va_get (D := G.1) (cl := xCl) (ci := 10) (v := .int (s182.1 51 12)) (C := R_Model) (T := T_Model) (N := 33) hx hb hu fi_Model hown hK hw 51 (x_at (by decide) (xcl_51 G s182)) rfl 12 (by decide) (hu _ mw_1080) (fun _ h9 => h9) rfl d_Model_change_189 ?_
        refine lv_sipush (v := (139 : Int32)) hx hb d_Model_change_192 (by decide) ?_
        refine lv_icmp_eq (tgt := 202) hx hb d_Model_change_195 (by decide) (fun hc195 => ?_) (fun hc195 => ?_)
        · rw [if_pos hc195] at hE
          refine lv_iconst (v := (0 : Int32)) hx hb d_Model_change_202 (by decide) ?_
          exact jn203 _ _ _ _ _ _ _ hE (lv_sub hl [0, 1, 2] rfl) hw hS
        · rw [if_neg hc195] at hE
          refine lv_iconst (v := (1 : Int32)) hx hb d_Model_change_198 (by decide) ?_
          refine lv_goto (tgt := 203) hx hb d_Model_change_199 (by decide) ?_
          exact jn203 _ _ _ _ _ _ _ hE (lv_sub hl [0, 1, 2] rfl) hw hS
      · rw [if_neg hc138] at hE
        refine lv_aload_n hx hb d_Model_change_141 rfl (lv_at hl 0 rfl) ?_
        refine va_get (D := G.1) (cl := xCl) (ci := 10) (v := .ref (G.2.1 56)) (C := R_Model) (T := T_Model) (N := 33) hx hb hu fi_Model hown hK hw 51 (x_at (by decide) (xcl_51 G σ)) rfl 5 (by decide) (hu _ mw_1073) (fun _ h9 => h9) rfl d_Model_change_142 ?_
        refine lv_sipush (v := (200 : Int32)) hx hb d_Model_change_145 (by decide) ?_
        refine lv_iload_n hx hb d_Model_change_148 rfl (lv_at hl 1 rfl) ?_
        refine lv_imul hx hb d_Model_change_149 ?_
        refine lv_iload hx hb d_Model_change_150 (lv_at hl 3 rfl) ?_
        refine lv_iadd hx hb d_Model_change_152 ?_
        refine lv_iload hx hb d_Model_change_153 (lv_at hl 4 rfl) ?_
        refine lv_iadd hx hb d_Model_change_155 ?_
        refine lv_aload_n hx hb d_Model_change_156 rfl (lv_at hl 0 rfl) ?_
        refine va_get (D := G.1) (cl := xCl) (ci := 10) (v := .ref (G.2.1 62)) (C := R_Model) (T := T_Model) (N := 33) hx hb hu fi_Model hown hK hw 51 (x_at (by decide) (xcl_51 G σ)) rfl 23 (by decide) (hu _ mw_1091) (fun _ h9 => h9) rfl d_Model_change_157 ?_
        refine lv_iload hx hb d_Model_change_160 (lv_at hl 4 rfl) ?_
        obtain ⟨g162, hE⟩ := x_guard hE
        refine va_iald hx hb hK hw 62 0 (x_at (by decide) (xcl_62 G σ)) rfl g162 d_Model_change_162 ?_
        obtain ⟨g163, hE⟩ := x_guard hE
        refine va_iast hx hb hK hw (x_D hI _) hS 56 0 (x_at (by decide) (xcl_56 G σ)) rfl g163 d_Model_change_163 (fun H locs hw _ hS => ?_)
        replace hw := x_setM hw (by decide) (by decide)
        obtain ⟨s163, e163, hE⟩ := x_letE hE
        rw [← e163] at hw
        obtain ⟨v164, e164, hE⟩ := x_letE hE
        refine lv_iinc hx hb d_Model_change_164 hl (k := 4) rfl (x_inc v164 e164 (by decide)) (by decide) rfl (fun ls hl => ?_)
        have hl : lv_has ls 6 [(5, .int v164), (0, .ref (G.2.1 51)), (1, .int a1), (3, .int l3), (4, .int l4)] := hl
        refine lv_goto (tgt := 132) hx hb d_Model_change_167 (by decide) ?_
        exact ih _ _ _ _ _ _ _ hE (lv_sub hl [1, 2, 3, 4, 0] rfl) hw hS
  have jn127 : ∀ (ls : Array Slot) (H : Heap) (locs : List Loc) (σ : St) (l3 : Int32) (k0 : Int32), x_Model_change_127 a1 l3 k0 σ = some σ' → lv_has ls 6 [(0, .ref (G.2.1 51)), (1, .int a1), (3, .int l3)] → xw G σ H → va_S (xA G) s.heap H locs → W p l e (headSpec (ws_Model_change) rm_Model_change).room s m ([.ref (G.2.1 51), .int a1] : List Value).toArray below meth c H locs 0 0 (MQ below (xQ G none σ') ([.ref (G.2.1 51), .int a1] : List Value).toArray s 0 0 (xA G)) (F0 m 127 ls [.int k0]) := by
    intro ls H locs σ l3 k0 hE hl hw hS
    unfold x_Model_change_127 at hE
    refine lv_istore hx hb d_Model_change_127 hl (by decide) rfl (fun ls hl => ?_)
    have hl : lv_has ls 6 [(4, .int k0), (0, .ref (G.2.1 51)), (1, .int a1), (3, .int l3)] := hl
    refine lv_iconst (v := (0 : Int32)) hx hb d_Model_change_129 (by decide) ?_
    refine lv_istore hx hb d_Model_change_130 hl (by decide) rfl (fun ls hl => ?_)
    have hl : lv_has ls 6 [(5, .int (0 : Int32)), (4, .int k0), (0, .ref (G.2.1 51)), (1, .int a1), (3, .int l3)] := hl
    exact jn132 x_fuel _ _ _ _ _ _ _ hE (lv_sub hl [2, 3, 4, 1, 0] rfl) hw hS
  have jn100 : ∀ (ls : Array Slot) (H : Heap) (locs : List Loc) (σ : St) (l3 : Int32), x_Model_change_100 a1 l3 σ = some σ' → lv_has ls 6 [(0, .ref (G.2.1 51)), (1, .int a1), (3, .int l3)] → xw G σ H → va_S (xA G) s.heap H locs → W p l e (headSpec (ws_Model_change) rm_Model_change).room s m ([.ref (G.2.1 51), .int a1] : List Value).toArray below meth c H locs 0 0 (MQ below (xQ G none σ') ([.ref (G.2.1 51), .int a1] : List Value).toArray s 0 0 (xA G)) (F0 m 100 ls []) := by
    intro ls H locs σ l3 hE hl hw hS
    unfold x_Model_change_100 at hE
    refine lv_iload_n hx hb d_Model_change_100 rfl (lv_at hl 2 rfl) ?_
    refine lv_sipush (v := (205 : Int32)) hx hb d_Model_change_101 (by decide) ?_
    refine lv_icmp_ge (tgt := 224) hx hb d_Model_change_104 (by decide) (fun hc104 => ?_) (fun hc104 => ?_)
    · rw [if_pos hc104] at hE
      exact jn224 _ _ _ _ _ hE (lv_sub hl [0, 1, 2] rfl) hw hS
    · rw [if_neg hc104] at hE
      refine lv_aload_n hx hb d_Model_change_107 rfl (lv_at hl 0 rfl) ?_
      refine va_get (D := G.1) (cl := xCl) (ci := 10) (v := .int (σ.1 51 12)) (C := R_Model) (T := T_Model) (N := 33) hx hb hu fi_Model hown hK hw 51 (x_at (by decide) (xcl_51 G σ)) rfl 12 (by decide) (hu _ mw_1080) (fun _ h9 => h9) rfl d_Model_change_108 ?_
      refine lv_sipush (v := (134 : Int32)) hx hb d_Model_change_111 (by decide) ?_
      refine lv_icmp_ne (tgt := 126) hx hb d_Model_change_114 (by decide) (fun hc114 => ?_) (fun hc114 => ?_)
      · rw [if_neg hc114] at hE
        refine lv_iconst (v := (0 : Int32)) hx hb d_Model_change_126 (by decide) ?_
        exact jn127 _ _ _ _ _ _ hE (lv_sub hl [0, 1, 2] rfl) hw hS
      · rw [if_pos hc114] at hE
        refine lv_aload_n hx hb d_Model_change_117 rfl (lv_at hl 0 rfl) ?_
        refine va_get (D := G.1) (cl := xCl) (ci := 10) (v := .ref (G.2.1 55)) (C := R_Model) (T := T_Model) (N := 33) hx hb hu fi_Model hown hK hw 51 (x_at (by decide) (xcl_51 G σ)) rfl 4 (by decide) (hu _ mw_1072) (fun _ h9 => h9) rfl d_Model_change_118 ?_
        refine lv_iload_n hx hb d_Model_change_121 rfl (lv_at hl 1 rfl) ?_
        obtain ⟨g122, hE⟩ := x_guard hE
        refine va_iald hx hb hK hw 55 0 (x_at (by decide) (xcl_55 G σ)) rfl g122 d_Model_change_122 ?_
        refine lv_goto (tgt := 127) hx hb d_Model_change_123 (by decide) ?_
        exact jn127 _ _ _ _ _ _ hE (lv_sub hl [0, 1, 2] rfl) hw hS
  have jn99 : ∀ (ls : Array Slot) (H : Heap) (locs : List Loc) (σ : St) (k0 : Int32), x_Model_change_99 a1 k0 σ = some σ' → lv_has ls 6 [(0, .ref (G.2.1 51)), (1, .int a1)] → xw G σ H → va_S (xA G) s.heap H locs → W p l e (headSpec (ws_Model_change) rm_Model_change).room s m ([.ref (G.2.1 51), .int a1] : List Value).toArray below meth c H locs 0 0 (MQ below (xQ G none σ') ([.ref (G.2.1 51), .int a1] : List Value).toArray s 0 0 (xA G)) (F0 m 99 ls [.int k0]) := by
    intro ls H locs σ k0 hE hl hw hS
    unfold x_Model_change_99 at hE
    refine lv_istore_n hx hb d_Model_change_99 rfl hl (by decide) rfl (fun ls hl => ?_)
    have hl : lv_has ls 6 [(3, .int k0), (0, .ref (G.2.1 51)), (1, .int a1)] := hl
    exact jn100 _ _ _ _ _ hE (lv_sub hl [1, 2, 0] rfl) hw hS
  have jn96 : ∀ (ls : Array Slot) (H : Heap) (locs : List Loc) (σ : St), x_Model_change_96 a1 σ = some σ' → lv_has ls 6 [(0, .ref (G.2.1 51)), (1, .int a1)] → xw G σ H → va_S (xA G) s.heap H locs → W p l e (headSpec (ws_Model_change) rm_Model_change).room s m ([.ref (G.2.1 51), .int a1] : List Value).toArray below meth c H locs 0 0 (MQ below (xQ G none σ') ([.ref (G.2.1 51), .int a1] : List Value).toArray s 0 0 (xA G)) (F0 m 96 ls []) := by
    intro ls H locs σ hE hl hw hS
    unfold x_Model_change_96 at hE
    refine lv_sipush (v := (204 : Int32)) hx hb d_Model_change_96 (by decide) ?_
    exact jn99 _ _ _ _ _ hE (lv_sub hl [0, 1] rfl) hw hS
  have jn49 : ∀ (ls : Array Slot) (H : Heap) (locs : List Loc) (σ : St) (k0 : Int32), x_Model_change_49 a1 k0 σ = some σ' → lv_has ls 6 [(0, .ref (G.2.1 51)), (1, .int a1)] → xw G σ H → va_S (xA G) s.heap H locs → W p l e (headSpec (ws_Model_change) rm_Model_change).room s m ([.ref (G.2.1 51), .int a1] : List Value).toArray below meth c H locs 0 0 (MQ below (xQ G none σ') ([.ref (G.2.1 51), .int a1] : List Value).toArray s 0 0 (xA G)) (F0 m 49 ls [.int k0]) := by
    intro ls H locs σ k0 hE hl hw hS
    unfold x_Model_change_49 at hE
    refine lv_istore_n hx hb d_Model_change_49 rfl hl (by decide) rfl (fun ls hl => ?_)
    have hl : lv_has ls 6 [(3, .int k0), (0, .ref (G.2.1 51)), (1, .int a1)] := hl
    refine lv_goto (tgt := 100) hx hb d_Model_change_50 (by decide) ?_
    exact jn100 _ _ _ _ _ hE (lv_sub hl [1, 2, 0] rfl) hw hS
  have jn48 : ∀ (ls : Array Slot) (H : Heap) (locs : List Loc) (σ : St) (l3 : Int32), x_Model_change_48 a1 l3 σ = some σ' → lv_has ls 6 [(0, .ref (G.2.1 51)), (1, .int a1), (3, .int l3)] → xw G σ H → va_S (xA G) s.heap H locs → W p l e (headSpec (ws_Model_change) rm_Model_change).room s m ([.ref (G.2.1 51), .int a1] : List Value).toArray below meth c H locs 0 0 (MQ below (xQ G none σ') ([.ref (G.2.1 51), .int a1] : List Value).toArray s 0 0 (xA G)) (F0 m 48 ls []) := by
    intro ls H locs σ l3 hE hl hw hS
    unfold x_Model_change_48 at hE
    refine lv_iload_n hx hb d_Model_change_48 rfl (lv_at hl 2 rfl) ?_
    exact jn49 _ _ _ _ _ hE (lv_sub hl [0, 1] rfl) hw hS
  have jn20 : ∀ (ls : Array Slot) (H : Heap) (locs : List Loc) (σ : St) (l2 : Int32) (k0 : Int32), x_Model_change_20 a1 l2 k0 σ = some σ' → lv_has ls 6 [(0, .ref (G.2.1 51)), (1, .int a1), (2, .int l2)] → xw G σ H → va_S (xA G) s.heap H locs → W p l e (headSpec (ws_Model_change) rm_Model_change).room s m ([.ref (G.2.1 51), .int a1] : List Value).toArray below meth c H locs 0 0 (MQ below (xQ G none σ') ([.ref (G.2.1 51), .int a1] : List Value).toArray s 0 0 (xA G)) (F0 m 20 ls [.int k0]) := by
    intro ls H locs σ l2 k0 hE hl hw hS
    unfold x_Model_change_20 at hE
    refine lv_istore_n hx hb d_Model_change_20 rfl hl (by decide) rfl (fun ls hl => ?_)
    have hl : lv_has ls 6 [(3, .int k0), (0, .ref (G.2.1 51)), (1, .int a1), (2, .int l2)] := hl
    refine lv_aload_n hx hb d_Model_change_21 rfl (lv_at hl 1 rfl) ?_
    refine va_get (D := G.1) (cl := xCl) (ci := 10) (v := .int (σ.1 51 12)) (C := R_Model) (T := T_Model) (N := 33) hx hb hu fi_Model hown hK hw 51 (x_at (by decide) (xcl_51 G σ)) rfl 12 (by decide) (hu _ mw_1080) (fun _ h9 => h9) rfl d_Model_change_22 ?_
    refine lv_sipush (v := (130 : Int32)) hx hb d_Model_change_25 (by decide) ?_
    refine lv_icmp_ne (tgt := 53) hx hb d_Model_change_28 (by decide) (fun hc28 => ?_) (fun hc28 => ?_)
    · rw [if_neg hc28] at hE
      refine lv_iload_n hx hb d_Model_change_53 rfl (lv_at hl 3 rfl) ?_
      refine lv_if_ne (tgt := 63) hx hb d_Model_change_54 (by decide) (fun hc54 => ?_) (fun hc54 => ?_)
      · rw [if_neg hc54] at hE
        refine lv_aload_n hx hb d_Model_change_63 rfl (lv_at hl 1 rfl) ?_
        refine va_get (D := G.1) (cl := xCl) (ci := 10) (v := .int (σ.1 51 12)) (C := R_Model) (T := T_Model) (N := 33) hx hb hu fi_Model hown hK hw 51 (x_at (by decide) (xcl_51 G σ)) rfl 12 (by decide) (hu _ mw_1080) (fun _ h9 => h9) rfl d_Model_change_64 ?_
        refine lv_sipush (v := (134 : Int32)) hx hb d_Model_change_67 (by decide) ?_
        refine lv_icmp_ne (tgt := 96) hx hb d_Model_change_70 (by decide) (fun hc70 => ?_) (fun hc70 => ?_)
        · rw [if_neg hc70] at hE
          exact jn96 _ _ _ _ hE (lv_sub hl [1, 2] rfl) hw hS
        · rw [if_pos hc70] at hE
          refine lv_aload_n hx hb d_Model_change_73 rfl (lv_at hl 1 rfl) ?_
          refine va_get (D := G.1) (cl := xCl) (ci := 10) (v := .ref (G.2.1 55)) (C := R_Model) (T := T_Model) (N := 33) hx hb hu fi_Model hown hK hw 51 (x_at (by decide) (xcl_51 G σ)) rfl 4 (by decide) (hu _ mw_1072) (fun _ h9 => h9) rfl d_Model_change_74 ?_
          refine lv_iload_n hx hb d_Model_change_77 rfl (lv_at hl 2 rfl) ?_
          obtain ⟨g78, hE⟩ := x_guard hE
          refine va_iald hx hb hK hw 55 0 (x_at (by decide) (xcl_55 G σ)) rfl g78 d_Model_change_78 ?_
          refine lv_aload_n hx hb d_Model_change_79 rfl (lv_at hl 1 rfl) ?_
          refine va_get (D := G.1) (cl := xCl) (ci := 10) (v := .int (σ.1 51 22)) (C := R_Model) (T := T_Model) (N := 33) hx hb hu fi_Model hown hK hw 51 (x_at (by decide) (xcl_51 G σ)) rfl 22 (by decide) (hu _ mw_1090) (fun _ h9 => h9) rfl d_Model_change_80 ?_
          refine lv_iadd hx hb d_Model_change_83 ?_
          refine lv_sipush (v := (200 : Int32)) hx hb d_Model_change_84 (by decide) ?_
          refine lv_icmp_le (tgt := 96) hx hb d_Model_change_87 (by decide) (fun hc87 => ?_) (fun hc87 => ?_)
          · rw [if_pos hc87] at hE
            exact jn96 _ _ _ _ hE (lv_sub hl [1, 2] rfl) hw hS
          · rw [if_neg hc87] at hE
            refine lv_sipush (v := (413 : Int32)) hx hb d_Model_change_90 (by decide) ?_
            refine lv_goto (tgt := 99) hx hb d_Model_change_93 (by decide) ?_
            exact jn99 _ _ _ _ _ hE (lv_sub hl [1, 2] rfl) hw hS
      · rw [if_pos hc54] at hE
        refine lv_sipush (v := (404 : Int32)) hx hb d_Model_change_57 (by decide) ?_
        refine lv_goto (tgt := 99) hx hb d_Model_change_60 (by decide) ?_
        exact jn99 _ _ _ _ _ hE (lv_sub hl [1, 2] rfl) hw hS
    · rw [if_pos hc28] at hE
      refine lv_iload_n hx hb d_Model_change_31 rfl (lv_at hl 3 rfl) ?_
      refine lv_if_eq (tgt := 48) hx hb d_Model_change_32 (by decide) (fun hc32 => ?_) (fun hc32 => ?_)
      · rw [if_pos hc32] at hE
        exact jn48 _ _ _ _ _ hE (lv_sub hl [1, 2, 0] rfl) hw hS
      · rw [if_neg hc32] at hE
        refine lv_aload_n hx hb d_Model_change_35 rfl (lv_at hl 1 rfl) ?_
        obtain ⟨r36, s36, hC36, hE⟩ := x_bind2E hE
        refine x_callS hS (W.runV (As := []) (rest := []) ⟨hx, hb, hml, hown, hu⟩ (t_Model_hasStar l G σ r36 s36 hC36) (cwV 0 hu (uw_V mw_1275 mw_1277 mw_44 mw_70 mw_1278) rfl rfl rfl hd_Model_hasStar ⟨Nat.le_of_ble_eq_true rfl, Nat.le_of_ble_eq_true rfl⟩) (x_preV hC hS hw (va_recv hK hw (q := (R_Model, T_Model, 33)) (ci := 10) rfl (x_at (by decide) (xcl_51 G σ)))) rfl rfl hl.1 rfl (lv_room (Nat.le_of_ble_eq_true rfl)) d_Model_change_36 ⟨Nat.le_of_ble_eq_true rfl, Nat.le_of_ble_eq_true rfl⟩) (fun H locs hw hS => ?_)
        refine lv_if_eq (tgt := 48) hx hb d_Model_change_39 (by decide) (fun hc39 => ?_) (fun hc39 => ?_)
        · rw [if_pos hc39] at hE
          exact jn48 _ _ _ _ _ hE (lv_sub hl [1, 2, 0] rfl) hw hS
        · rw [if_neg hc39] at hE
          refine lv_sipush (v := (412 : Int32)) hx hb d_Model_change_42 (by decide) ?_
          refine lv_goto (tgt := 49) hx hb d_Model_change_45 (by decide) ?_
          exact jn49 _ _ _ _ _ hE (lv_sub hl [1, 2] rfl) hw hS
  have hl := lv_entry ([.ref (G.2.1 51), .int a1]) (n := 6) (Nat.le_of_ble_eq_true rfl)
  rw [lg_entry_eq]
  generalize (lg_sl ([.ref (G.2.1 51), .int a1]) ++ List.replicate (6 - (lg_sl ([.ref (G.2.1 51), .int a1])).length) Slot.unset).toArray = ls at hl ⊢
  have hl : lv_has ls 6 [(0, .ref (G.2.1 51)), (1, .int a1)] := hl
  unfold x_Model_change at hE
  refine lv_aload_n hx hb d_Model_change_0 rfl (lv_at hl 0 rfl) ?_
  refine va_get (D := G.1) (cl := xCl) (ci := 10) (v := .ref (G.2.1 53)) (C := R_Model) (T := T_Model) (N := 33) hx hb hu fi_Model hown hK hw 51 (x_at (by decide) (xcl_51 G σ)) rfl 2 (by decide) (hu _ mw_1070) (fun _ h9 => h9) rfl d_Model_change_1 ?_
  refine lv_iload_n hx hb d_Model_change_4 rfl (lv_at hl 1 rfl) ?_
  obtain ⟨g5, hE⟩ := x_guard hE
  refine va_zald hx hb hK hw 53 1 (x_at (by decide) (xcl_53 G σ)) rfl g5 d_Model_change_5 ?_
  refine lv_topi (fun v6 e6 => ?_)
  replace hE := x_letT e6 hE
  refine lv_istore_n hx hb d_Model_change_6 rfl hl (by decide) rfl (fun ls hl => ?_)
  have hl : lv_has ls 6 [(2, .int v6), (0, .ref (G.2.1 51)), (1, .int a1)] := hl
  refine lv_iload_n hx hb d_Model_change_7 rfl (lv_at hl 0 rfl) ?_
  refine lv_if_eq (tgt := 17) hx hb d_Model_change_8 (by decide) (fun hc8 => ?_) (fun hc8 => ?_)
  · rw [if_pos hc8] at hE
    refine lv_sipush (v := (201 : Int32)) hx hb d_Model_change_17 (by decide) ?_
    exact jn20 _ _ _ _ _ _ hE (lv_sub hl [1, 2, 0] rfl) hw hS
  · rw [if_neg hc8] at hE
    refine lv_sipush (v := (204 : Int32)) hx hb d_Model_change_11 (by decide) ?_
    refine lv_goto (tgt := 20) hx hb d_Model_change_14 (by decide) ?_
    exact jn20 _ _ _ _ _ _ hE (lv_sub hl [1, 2, 0] rfl) hw hS

def y_Model_answer : MethodName := ⟨"PlainOriginModel", "answer", "()V"⟩
def ws_Model_answer : List Cond := Cond.code y_Model_answer prog_14_method_42_code 3 none :: UW
theorem hd_Model_answer : y_Model_answer.cls = R_Model ∧ y_Model_answer.cls ≠ "java/lang/invoke/MethodHandle" ∧ y_Model_answer.cls ≠ "java/lang/invoke/VarHandle" ∧ (parseMethodDescriptor y_Model_answer.desc).map (fun d => d.parameters.length) = some 0 := by decide +kernel
theorem d_Model_answer_0 : decode prog_14_method_42_code 0 = .ok (.aload_n 0, 1) := by decide +kernel
theorem d_Model_answer_1 : decode prog_14_method_42_code 1 = .ok (.iconst 0, 1) := by decide +kernel
theorem d_Model_answer_2 : decode prog_14_method_42_code 2 = .ok (.putfield 179, 3) := by decide +kernel
theorem d_Model_answer_5 : decode prog_14_method_42_code 5 = .ok (.aload_n 0, 1) := by decide +kernel
theorem d_Model_answer_6 : decode prog_14_method_42_code 6 = .ok (.invokevirtual 309, 3) := by decide +kernel
theorem d_Model_answer_9 : decode prog_14_method_42_code 9 = .ok (.istore_n 1, 1) := by decide +kernel
theorem d_Model_answer_10 : decode prog_14_method_42_code 10 = .ok (.aload_n 0, 1) := by decide +kernel
theorem d_Model_answer_11 : decode prog_14_method_42_code 11 = .ok (.getfield 108, 3) := by decide +kernel
theorem d_Model_answer_14 : decode prog_14_method_42_code 14 = .ok (.bipush (121), 2) := by decide +kernel
theorem d_Model_answer_16 : decode prog_14_method_42_code 16 = .ok (.if_icmp .eq (12), 3) := by decide +kernel
theorem d_Model_answer_19 : decode prog_14_method_42_code 19 = .ok (.aload_n 0, 1) := by decide +kernel
theorem d_Model_answer_20 : decode prog_14_method_42_code 20 = .ok (.getfield 108, 3) := by decide +kernel
theorem d_Model_answer_23 : decode prog_14_method_42_code 23 = .ok (.bipush (125), 2) := by decide +kernel
theorem d_Model_answer_25 : decode prog_14_method_42_code 25 = .ok (.if_icmp .ne (7), 3) := by decide +kernel
theorem d_Model_answer_28 : decode prog_14_method_42_code 28 = .ok (.iconst 1, 1) := by decide +kernel
theorem d_Model_answer_29 : decode prog_14_method_42_code 29 = .ok (.goto (4), 3) := by decide +kernel
theorem d_Model_answer_32 : decode prog_14_method_42_code 32 = .ok (.iconst 0, 1) := by decide +kernel
theorem d_Model_answer_33 : decode prog_14_method_42_code 33 = .ok (.istore_n 2, 1) := by decide +kernel
theorem d_Model_answer_34 : decode prog_14_method_42_code 34 = .ok (.aload_n 0, 1) := by decide +kernel
theorem d_Model_answer_35 : decode prog_14_method_42_code 35 = .ok (.getfield 108, 3) := by decide +kernel
theorem d_Model_answer_38 : decode prog_14_method_42_code 38 = .ok (.sipush (146), 3) := by decide +kernel
theorem d_Model_answer_41 : decode prog_14_method_42_code 41 = .ok (.if_icmp .ne (18), 3) := by decide +kernel
theorem d_Model_answer_44 : decode prog_14_method_42_code 44 = .ok (.aload_n 0, 1) := by decide +kernel
theorem d_Model_answer_45 : decode prog_14_method_42_code 45 = .ok (.sipush (204), 3) := by decide +kernel
theorem d_Model_answer_48 : decode prog_14_method_42_code 48 = .ok (.iconst 0, 1) := by decide +kernel
theorem d_Model_answer_49 : decode prog_14_method_42_code 49 = .ok (.iconst (-1), 1) := by decide +kernel
theorem d_Model_answer_50 : decode prog_14_method_42_code 50 = .ok (.iconst (-1), 1) := by decide +kernel
theorem d_Model_answer_51 : decode prog_14_method_42_code 51 = .ok (.iconst 0, 1) := by decide +kernel
theorem d_Model_answer_52 : decode prog_14_method_42_code 52 = .ok (.iconst 0, 1) := by decide +kernel
theorem d_Model_answer_53 : decode prog_14_method_42_code 53 = .ok (.invokevirtual 175, 3) := by decide +kernel
theorem d_Model_answer_56 : decode prog_14_method_42_code 56 = .ok (.goto (81), 3) := by decide +kernel
theorem d_Model_answer_59 : decode prog_14_method_42_code 59 = .ok (.aload_n 0, 1) := by decide +kernel
theorem d_Model_answer_60 : decode prog_14_method_42_code 60 = .ok (.getfield 108, 3) := by decide +kernel
theorem d_Model_answer_63 : decode prog_14_method_42_code 63 = .ok (.sipush (154), 3) := by decide +kernel
theorem d_Model_answer_66 : decode prog_14_method_42_code 66 = .ok (.if_icmp .ne (18), 3) := by decide +kernel
theorem d_Model_answer_69 : decode prog_14_method_42_code 69 = .ok (.aload_n 0, 1) := by decide +kernel
theorem d_Model_answer_70 : decode prog_14_method_42_code 70 = .ok (.sipush (405), 3) := by decide +kernel
theorem d_Model_answer_73 : decode prog_14_method_42_code 73 = .ok (.iconst 0, 1) := by decide +kernel
theorem d_Model_answer_74 : decode prog_14_method_42_code 74 = .ok (.iconst (-1), 1) := by decide +kernel
theorem d_Model_answer_75 : decode prog_14_method_42_code 75 = .ok (.iconst (-1), 1) := by decide +kernel
theorem d_Model_answer_76 : decode prog_14_method_42_code 76 = .ok (.iconst 0, 1) := by decide +kernel
theorem d_Model_answer_77 : decode prog_14_method_42_code 77 = .ok (.iconst 0, 1) := by decide +kernel
theorem d_Model_answer_78 : decode prog_14_method_42_code 78 = .ok (.invokevirtual 175, 3) := by decide +kernel
theorem d_Model_answer_81 : decode prog_14_method_42_code 81 = .ok (.goto (56), 3) := by decide +kernel
theorem d_Model_answer_84 : decode prog_14_method_42_code 84 = .ok (.iload_n 1, 1) := by decide +kernel
theorem d_Model_answer_85 : decode prog_14_method_42_code 85 = .ok (.bipush (-2), 2) := by decide +kernel
theorem d_Model_answer_87 : decode prog_14_method_42_code 87 = .ok (.if_icmp .ne (14), 3) := by decide +kernel
theorem d_Model_answer_90 : decode prog_14_method_42_code 90 = .ok (.iload_n 2, 1) := by decide +kernel
theorem d_Model_answer_91 : decode prog_14_method_42_code 91 = .ok (.ifCond .eq (10), 3) := by decide +kernel
theorem d_Model_answer_94 : decode prog_14_method_42_code 94 = .ok (.aload_n 0, 1) := by decide +kernel
theorem d_Model_answer_95 : decode prog_14_method_42_code 95 = .ok (.invokevirtual 313, 3) := by decide +kernel
theorem d_Model_answer_98 : decode prog_14_method_42_code 98 = .ok (.goto (39), 3) := by decide +kernel
theorem d_Model_answer_101 : decode prog_14_method_42_code 101 = .ok (.iload_n 1, 1) := by decide +kernel
theorem d_Model_answer_102 : decode prog_14_method_42_code 102 = .ok (.ifCond .ge (18), 3) := by decide +kernel
theorem d_Model_answer_105 : decode prog_14_method_42_code 105 = .ok (.aload_n 0, 1) := by decide +kernel
theorem d_Model_answer_106 : decode prog_14_method_42_code 106 = .ok (.sipush (404), 3) := by decide +kernel
theorem d_Model_answer_109 : decode prog_14_method_42_code 109 = .ok (.iconst 0, 1) := by decide +kernel
theorem d_Model_answer_110 : decode prog_14_method_42_code 110 = .ok (.iconst (-1), 1) := by decide +kernel
theorem d_Model_answer_111 : decode prog_14_method_42_code 111 = .ok (.iconst (-1), 1) := by decide +kernel
theorem d_Model_answer_112 : decode prog_14_method_42_code 112 = .ok (.iconst 0, 1) := by decide +kernel
theorem d_Model_answer_113 : decode prog_14_method_42_code 113 = .ok (.iconst 0, 1) := by decide +kernel
theorem d_Model_answer_114 : decode prog_14_method_42_code 114 = .ok (.invokevirtual 175, 3) := by decide +kernel
theorem d_Model_answer_117 : decode prog_14_method_42_code 117 = .ok (.goto (20), 3) := by decide +kernel
theorem d_Model_answer_120 : decode prog_14_method_42_code 120 = .ok (.iload_n 2, 1) := by decide +kernel
theorem d_Model_answer_121 : decode prog_14_method_42_code 121 = .ok (.ifCond .eq (11), 3) := by decide +kernel
theorem d_Model_answer_124 : decode prog_14_method_42_code 124 = .ok (.aload_n 0, 1) := by decide +kernel
theorem d_Model_answer_125 : decode prog_14_method_42_code 125 = .ok (.iload_n 1, 1) := by decide +kernel
theorem d_Model_answer_126 : decode prog_14_method_42_code 126 = .ok (.invokevirtual 316, 3) := by decide +kernel
theorem d_Model_answer_129 : decode prog_14_method_42_code 129 = .ok (.goto (8), 3) := by decide +kernel
theorem d_Model_answer_132 : decode prog_14_method_42_code 132 = .ok (.aload_n 0, 1) := by decide +kernel
theorem d_Model_answer_133 : decode prog_14_method_42_code 133 = .ok (.iload_n 1, 1) := by decide +kernel
theorem d_Model_answer_134 : decode prog_14_method_42_code 134 = .ok (.invokevirtual 319, 3) := by decide +kernel
theorem d_Model_answer_137 : decode prog_14_method_42_code 137 = .ok (.return_, 1) := by decide +kernel
def x_Model_answer_101 (l1 : Int32) (l2 : Int32) (σ : St) : Option St := (if 0 ≤ l1 then (if l2 = 0 then (Option.bind (x_Model_change l1 σ) (fun s134 => some s134)) else (Option.bind (x_Model_tell l1 σ) (fun s126 => some s126))) else (Option.bind (x_Model_respond (404 : Int32) (0 : Int32) ((-1) : Int32) ((-1) : Int32) (0 : Int32) (0 : Int32) σ) (fun s114 => some s114)))
def x_Model_answer_33 (l1 : Int32) (k0 : Int32) (σ : St) : Option St := (if (σ.1 51 12) = (146 : Int32) then (Option.bind (x_Model_respond (204 : Int32) (0 : Int32) ((-1) : Int32) ((-1) : Int32) (0 : Int32) (0 : Int32) σ) (fun s53 => some s53)) else (if (σ.1 51 12) = (154 : Int32) then (Option.bind (x_Model_respond (405 : Int32) (0 : Int32) ((-1) : Int32) ((-1) : Int32) (0 : Int32) (0 : Int32) σ) (fun s78 => some s78)) else (if l1 = ((-2) : Int32) then (if k0 = 0 then x_Model_answer_101 l1 k0 σ else (Option.bind (x_Model_tellSite σ) (fun s95 => some s95))) else x_Model_answer_101 l1 k0 σ)))
def x_Model_answer_28 (l1 : Int32) (σ : St) : Option St := x_Model_answer_33 l1 (1 : Int32) σ
def x_Model_answer (σ : St) : Option St := (x_let (x_updR σ 51 8 (0 : Int32)) (fun (s2 : St) => (Option.bind (x_Model_resource s2) (fun r6 => (if (s2.1 51 12) = (121 : Int32) then x_Model_answer_28 r6 s2 else (if (s2.1 51 12) = (125 : Int32) then x_Model_answer_28 r6 s2 else x_Model_answer_33 r6 (0 : Int32) s2))))))
abbrev rm_Model_answer : Room := { frames := 7, cells := 0, slots := 0, locals := 174 }
set_option maxHeartbeats 4000000 in
set_option maxRecDepth 100000 in
theorem t_Model_answer (l : Launch) (G : xG) (σ : St) (σ' : St) (hE : x_Model_answer σ = some σ') : Met l y_Model_answer (ws_Model_answer) rm_Model_answer (xP G σ [.ref (G.2.1 51)]) (xQ G none σ') 0 0 (xA G) := by
  refine Met.ofW (cc := prog_14_method_42_code) (maxL := 3) (ret := none) (by decide) rfl ?_
  intro p e s m args below meth c s₁ B hml hv
  obtain ⟨rfl, hw, hC⟩ := hv
  have hx := B.exec
  have hb := B.bytes
  have hr := B.returns
  have hu : ∀ w ∈ UW, w.before _ s = true := fun w h => atoms_spec B.pre w (List.mem_cons_of_mem _ h)
  have hown : s.vm.findClass R_Model = some m.cls := findClass_of_methodNamed B.named
  have hlocks := B.notSynchronized
  have hK := hC.1
  have hI := hC.2.1
  have hG := hC.2.2.1
  have hN := hC.2.2.2
  have hS : va_S (xA G) s.heap s.heap [] := va_S.rf
  have jn101 : ∀ (ls : Array Slot) (H : Heap) (locs : List Loc) (σ : St) (l1 : Int32) (l2 : Int32), x_Model_answer_101 l1 l2 σ = some σ' → lv_has ls 3 [(0, .ref (G.2.1 51)), (1, .int l1), (2, .int l2)] → xw G σ H → va_S (xA G) s.heap H locs → W p l e (headSpec (ws_Model_answer) rm_Model_answer).room s m ([.ref (G.2.1 51)] : List Value).toArray below meth c H locs 0 0 (MQ below (xQ G none σ') ([.ref (G.2.1 51)] : List Value).toArray s 0 0 (xA G)) (F0 m 101 ls []) := by
    intro ls H locs σ l1 l2 hE hl hw hS
    unfold x_Model_answer_101 at hE
    refine lv_iload_n hx hb d_Model_answer_101 rfl (lv_at hl 1 rfl) ?_
    refine lv_if_ge (tgt := 120) hx hb d_Model_answer_102 (by decide) (fun hc102 => ?_) (fun hc102 => ?_)
    · rw [if_pos hc102] at hE
      refine lv_iload_n hx hb d_Model_answer_120 rfl (lv_at hl 2 rfl) ?_
      refine lv_if_eq (tgt := 132) hx hb d_Model_answer_121 (by decide) (fun hc121 => ?_) (fun hc121 => ?_)
      · rw [if_pos hc121] at hE
        refine lv_aload_n hx hb d_Model_answer_132 rfl (lv_at hl 0 rfl) ?_
        refine lv_iload_n hx hb d_Model_answer_133 rfl (lv_at hl 1 rfl) ?_
        obtain ⟨s134, hC134, hE⟩ := x_bind hE
        refine x_callV hS (W.runV (As := [.int l1]) (rest := []) ⟨hx, hb, hml, hown, hu⟩ (t_Model_change l G σ l1 s134 hC134) (cwV 1 hu (uw_V mw_1271 mw_1273 mw_43 mw_70 mw_1274) rfl rfl rfl hd_Model_change ⟨Nat.le_of_ble_eq_true rfl, Nat.le_of_ble_eq_true rfl⟩) (x_preV hC hS hw (va_recv hK hw (q := (R_Model, T_Model, 33)) (ci := 10) rfl (x_at (by decide) (xcl_51 G σ)))) rfl rfl hl.1 rfl (lv_room (Nat.le_of_ble_eq_true rfl)) d_Model_answer_134 ⟨Nat.le_of_ble_eq_true rfl, Nat.le_of_ble_eq_true rfl⟩) (fun H locs hw hS => ?_)
        have e1 := Option.some.inj hE
        exact W.vret hx hb hr (fun t ht hW => ⟨rfl, by rw [ht, ← e1]; exact hw, hS.F ht⟩) hS.2.2 d_Model_answer_137
      · rw [if_neg hc121] at hE
        refine lv_aload_n hx hb d_Model_answer_124 rfl (lv_at hl 0 rfl) ?_
        refine lv_iload_n hx hb d_Model_answer_125 rfl (lv_at hl 1 rfl) ?_
        obtain ⟨s126, hC126, hE⟩ := x_bind hE
        refine x_callV hS (W.runV (As := [.int l1]) (rest := []) ⟨hx, hb, hml, hown, hu⟩ (t_Model_tell l G σ l1 s126 hC126) (cwV 1 hu (uw_V mw_1235 mw_1237 mw_34 mw_70 mw_1238) rfl rfl rfl hd_Model_tell ⟨Nat.le_of_ble_eq_true rfl, Nat.le_of_ble_eq_true rfl⟩) (x_preV hC hS hw (va_recv hK hw (q := (R_Model, T_Model, 33)) (ci := 10) rfl (x_at (by decide) (xcl_51 G σ)))) rfl rfl hl.1 rfl (lv_room (Nat.le_of_ble_eq_true rfl)) d_Model_answer_126 ⟨Nat.le_of_ble_eq_true rfl, Nat.le_of_ble_eq_true rfl⟩) (fun H locs hw hS => ?_)
        refine lv_goto (tgt := 137) hx hb d_Model_answer_129 (by decide) ?_
        have e1 := Option.some.inj hE
        exact W.vret hx hb hr (fun t ht hW => ⟨rfl, by rw [ht, ← e1]; exact hw, hS.F ht⟩) hS.2.2 d_Model_answer_137
    · rw [if_neg hc102] at hE
      refine lv_aload_n hx hb d_Model_answer_105 rfl (lv_at hl 0 rfl) ?_
      refine lv_sipush (v := (404 : Int32)) hx hb d_Model_answer_106 (by decide) ?_
      refine lv_iconst (v := (0 : Int32)) hx hb d_Model_answer_109 (by decide) ?_
      refine lv_iconst (v := ((-1) : Int32)) hx hb d_Model_answer_110 (by decide) ?_
      refine lv_iconst (v := ((-1) : Int32)) hx hb d_Model_answer_111 (by decide) ?_
      refine lv_iconst (v := (0 : Int32)) hx hb d_Model_answer_112 (by decide) ?_
      refine lv_iconst (v := (0 : Int32)) hx hb d_Model_answer_113 (by decide) ?_
      obtain ⟨s114, hC114, hE⟩ := x_bind hE
      refine x_callV hS (W.runV (As := [.int (404 : Int32), .int (0 : Int32), .int ((-1) : Int32), .int ((-1) : Int32), .int (0 : Int32), .int (0 : Int32)]) (rest := []) ⟨hx, hb, hml, hown, hu⟩ (t_Model_respond l G σ (404 : Int32) (0 : Int32) ((-1) : Int32) ((-1) : Int32) (0 : Int32) (0 : Int32) s114 hC114) (cwV 6 hu (uw_V mw_1203 mw_1205 mw_26 mw_70 mw_1206) rfl rfl rfl hd_Model_respond ⟨Nat.le_of_ble_eq_true rfl, Nat.le_of_ble_eq_true rfl⟩) (x_preV hC hS hw (va_recv hK hw (q := (R_Model, T_Model, 33)) (ci := 10) rfl (x_at (by decide) (xcl_51 G σ)))) rfl rfl hl.1 rfl (lv_room (Nat.le_of_ble_eq_true rfl)) d_Model_answer_114 ⟨Nat.le_of_ble_eq_true rfl, Nat.le_of_ble_eq_true rfl⟩) (fun H locs hw hS => ?_)
      refine lv_goto (tgt := 137) hx hb d_Model_answer_117 (by decide) ?_
      have e1 := Option.some.inj hE
      exact W.vret hx hb hr (fun t ht hW => ⟨rfl, by rw [ht, ← e1]; exact hw, hS.F ht⟩) hS.2.2 d_Model_answer_137
  have jn33 : ∀ (ls : Array Slot) (H : Heap) (locs : List Loc) (σ : St) (l1 : Int32) (k0 : Int32), x_Model_answer_33 l1 k0 σ = some σ' → lv_has ls 3 [(0, .ref (G.2.1 51)), (1, .int l1)] → xw G σ H → va_S (xA G) s.heap H locs → W p l e (headSpec (ws_Model_answer) rm_Model_answer).room s m ([.ref (G.2.1 51)] : List Value).toArray below meth c H locs 0 0 (MQ below (xQ G none σ') ([.ref (G.2.1 51)] : List Value).toArray s 0 0 (xA G)) (F0 m 33 ls [.int k0]) := by
    intro ls H locs σ l1 k0 hE hl hw hS
    unfold x_Model_answer_33 at hE
    refine lv_istore_n hx hb d_Model_answer_33 rfl hl (by decide) rfl (fun ls hl => ?_)
    have hl : lv_has ls 3 [(2, .int k0), (0, .ref (G.2.1 51)), (1, .int l1)] := hl
    refine lv_aload_n hx hb d_Model_answer_34 rfl (lv_at hl 1 rfl) ?_
    refine va_get (D := G.1) (cl := xCl) (ci := 10) (v := .int (σ.1 51 12)) (C := R_Model) (T := T_Model) (N := 33) hx hb hu fi_Model hown hK hw 51 (x_at (by decide) (xcl_51 G σ)) rfl 12 (by decide) (hu _ mw_1080) (fun _ h9 => h9) rfl d_Model_answer_35 ?_
    refine lv_sipush (v := (146 : Int32)) hx hb d_Model_answer_38 (by decide) ?_
    refine lv_icmp_ne (tgt := 59) hx hb d_Model_answer_41 (by decide) (fun hc41 => ?_) (fun hc41 => ?_)
    · rw [if_neg hc41] at hE
      refine lv_aload_n hx hb d_Model_answer_59 rfl (lv_at hl 1 rfl) ?_
      refine va_get (D := G.1) (cl := xCl) (ci := 10) (v := .int (σ.1 51 12)) (C := R_Model) (T := T_Model) (N := 33) hx hb hu fi_Model hown hK hw 51 (x_at (by decide) (xcl_51 G σ)) rfl 12 (by decide) (hu _ mw_1080) (fun _ h9 => h9) rfl d_Model_answer_60 ?_
      refine lv_sipush (v := (154 : Int32)) hx hb d_Model_answer_63 (by decide) ?_
      refine lv_icmp_ne (tgt := 84) hx hb d_Model_answer_66 (by decide) (fun hc66 => ?_) (fun hc66 => ?_)
      · rw [if_neg hc66] at hE
        refine lv_iload_n hx hb d_Model_answer_84 rfl (lv_at hl 2 rfl) ?_
        refine lv_bipush (v := ((-2) : Int32)) hx hb d_Model_answer_85 (by decide) ?_
        refine lv_icmp_ne (tgt := 101) hx hb d_Model_answer_87 (by decide) (fun hc87 => ?_) (fun hc87 => ?_)
        · rw [if_neg hc87] at hE
          exact jn101 _ _ _ _ _ _ hE (lv_sub hl [1, 2, 0] rfl) hw hS
        · rw [if_pos hc87] at hE
          refine lv_iload_n hx hb d_Model_answer_90 rfl (lv_at hl 0 rfl) ?_
          refine lv_if_eq (tgt := 101) hx hb d_Model_answer_91 (by decide) (fun hc91 => ?_) (fun hc91 => ?_)
          · rw [if_pos hc91] at hE
            exact jn101 _ _ _ _ _ _ hE (lv_sub hl [1, 2, 0] rfl) hw hS
          · rw [if_neg hc91] at hE
            refine lv_aload_n hx hb d_Model_answer_94 rfl (lv_at hl 1 rfl) ?_
            obtain ⟨s95, hC95, hE⟩ := x_bind hE
            refine x_callV hS (W.runV (As := []) (rest := []) ⟨hx, hb, hml, hown, hu⟩ (t_Model_tellSite l G σ s95 hC95) (cwV 0 hu (uw_V mw_1231 mw_1233 mw_33 mw_70 mw_1234) rfl rfl rfl hd_Model_tellSite ⟨Nat.le_of_ble_eq_true rfl, Nat.le_of_ble_eq_true rfl⟩) (x_preV hC hS hw (va_recv hK hw (q := (R_Model, T_Model, 33)) (ci := 10) rfl (x_at (by decide) (xcl_51 G σ)))) rfl rfl hl.1 rfl (lv_room (Nat.le_of_ble_eq_true rfl)) d_Model_answer_95 ⟨Nat.le_of_ble_eq_true rfl, Nat.le_of_ble_eq_true rfl⟩) (fun H locs hw hS => ?_)
            refine lv_goto (tgt := 137) hx hb d_Model_answer_98 (by decide) ?_
            have e1 := Option.some.inj hE
            exact W.vret hx hb hr (fun t ht hW => ⟨rfl, by rw [ht, ← e1]; exact hw, hS.F ht⟩) hS.2.2 d_Model_answer_137
      · rw [if_pos hc66] at hE
        refine lv_aload_n hx hb d_Model_answer_69 rfl (lv_at hl 1 rfl) ?_
        refine lv_sipush (v := (405 : Int32)) hx hb d_Model_answer_70 (by decide) ?_
        refine lv_iconst (v := (0 : Int32)) hx hb d_Model_answer_73 (by decide) ?_
        refine lv_iconst (v := ((-1) : Int32)) hx hb d_Model_answer_74 (by decide) ?_
        refine lv_iconst (v := ((-1) : Int32)) hx hb d_Model_answer_75 (by decide) ?_
        refine lv_iconst (v := (0 : Int32)) hx hb d_Model_answer_76 (by decide) ?_
        refine lv_iconst (v := (0 : Int32)) hx hb d_Model_answer_77 (by decide) ?_
        obtain ⟨s78, hC78, hE⟩ := x_bind hE
        refine x_callV hS (W.runV (As := [.int (405 : Int32), .int (0 : Int32), .int ((-1) : Int32), .int ((-1) : Int32), .int (0 : Int32), .int (0 : Int32)]) (rest := []) ⟨hx, hb, hml, hown, hu⟩ (t_Model_respond l G σ (405 : Int32) (0 : Int32) ((-1) : Int32) ((-1) : Int32) (0 : Int32) (0 : Int32) s78 hC78) (cwV 6 hu (uw_V mw_1203 mw_1205 mw_26 mw_70 mw_1206) rfl rfl rfl hd_Model_respond ⟨Nat.le_of_ble_eq_true rfl, Nat.le_of_ble_eq_true rfl⟩) (x_preV hC hS hw (va_recv hK hw (q := (R_Model, T_Model, 33)) (ci := 10) rfl (x_at (by decide) (xcl_51 G σ)))) rfl rfl hl.1 rfl (lv_room (Nat.le_of_ble_eq_true rfl)) d_Model_answer_78 ⟨Nat.le_of_ble_eq_true rfl, Nat.le_of_ble_eq_true rfl⟩) (fun H locs hw hS => ?_)
        refine lv_goto (tgt := 137) hx hb d_Model_answer_81 (by decide) ?_
        have e1 := Option.some.inj hE
        exact W.vret hx hb hr (fun t ht hW => ⟨rfl, by rw [ht, ← e1]; exact hw, hS.F ht⟩) hS.2.2 d_Model_answer_137
    · rw [if_pos hc41] at hE
      refine lv_aload_n hx hb d_Model_answer_44 rfl (lv_at hl 1 rfl) ?_
      refine lv_sipush (v := (204 : Int32)) hx hb d_Model_answer_45 (by decide) ?_
      refine lv_iconst (v := (0 : Int32)) hx hb d_Model_answer_48 (by decide) ?_
      refine lv_iconst (v := ((-1) : Int32)) hx hb d_Model_answer_49 (by decide) ?_
      refine lv_iconst (v := ((-1) : Int32)) hx hb d_Model_answer_50 (by decide) ?_
      refine lv_iconst (v := (0 : Int32)) hx hb d_Model_answer_51 (by decide) ?_
      refine lv_iconst (v := (0 : Int32)) hx hb d_Model_answer_52 (by decide) ?_
      obtain ⟨s53, hC53, hE⟩ := x_bind hE
      refine x_callV hS (W.runV (As := [.int (204 : Int32), .int (0 : Int32), .int ((-1) : Int32), .int ((-1) : Int32), .int (0 : Int32), .int (0 : Int32)]) (rest := []) ⟨hx, hb, hml, hown, hu⟩ (t_Model_respond l G σ (204 : Int32) (0 : Int32) ((-1) : Int32) ((-1) : Int32) (0 : Int32) (0 : Int32) s53 hC53) (cwV 6 hu (uw_V mw_1203 mw_1205 mw_26 mw_70 mw_1206) rfl rfl rfl hd_Model_respond ⟨Nat.le_of_ble_eq_true rfl, Nat.le_of_ble_eq_true rfl⟩) (x_preV hC hS hw (va_recv hK hw (q := (R_Model, T_Model, 33)) (ci := 10) rfl (x_at (by decide) (xcl_51 G σ)))) rfl rfl hl.1 rfl (lv_room (Nat.le_of_ble_eq_true rfl)) d_Model_answer_53 ⟨Nat.le_of_ble_eq_true rfl, Nat.le_of_ble_eq_true rfl⟩) (fun H locs hw hS => ?_)
      refine lv_goto (tgt := 137) hx hb d_Model_answer_56 (by decide) ?_
      have e1 := Option.some.inj hE
      exact W.vret hx hb hr (fun t ht hW => ⟨rfl, by rw [ht, ← e1]; exact hw, hS.F ht⟩) hS.2.2 d_Model_answer_137
  have jn28 : ∀ (ls : Array Slot) (H : Heap) (locs : List Loc) (σ : St) (l1 : Int32), x_Model_answer_28 l1 σ = some σ' → lv_has ls 3 [(0, .ref (G.2.1 51)), (1, .int l1)] → xw G σ H → va_S (xA G) s.heap H locs → W p l e (headSpec (ws_Model_answer) rm_Model_answer).room s m ([.ref (G.2.1 51)] : List Value).toArray below meth c H locs 0 0 (MQ below (xQ G none σ') ([.ref (G.2.1 51)] : List Value).toArray s 0 0 (xA G)) (F0 m 28 ls []) := by
    intro ls H locs σ l1 hE hl hw hS
    unfold x_Model_answer_28 at hE
    refine lv_iconst (v := (1 : Int32)) hx hb d_Model_answer_28 (by decide) ?_
    refine lv_goto (tgt := 33) hx hb d_Model_answer_29 (by decide) ?_
    exact jn33 _ _ _ _ _ _ hE (lv_sub hl [0, 1] rfl) hw hS
  have hl := lv_entry ([.ref (G.2.1 51)]) (n := 3) (Nat.le_of_ble_eq_true rfl)
  rw [lg_entry_eq]
  generalize (lg_sl ([.ref (G.2.1 51)]) ++ List.replicate (3 - (lg_sl ([.ref (G.2.1 51)])).length) Slot.unset).toArray = ls at hl ⊢
  have hl : lv_has ls 3 [(0, .ref (G.2.1 51))] := hl
  unfold x_Model_answer at hE
  refine lv_aload_n hx hb d_Model_answer_0 rfl (lv_at hl 0 rfl) ?_
  refine lv_iconst (v := (0 : Int32)) hx hb d_Model_answer_1 (by decide) ?_
  refine va_put (D := G.1) (cl := xCl) (ci := 10) (v := .int (0 : Int32)) (ty := .int) (C := R_Model) (T := T_Model) (N := 33) hx hb hu fi_Model ty_Model tyok_Model nm_Model hown hK hw (x_D hI _) hS 51 (x_at (by decide) (xcl_51 G σ)) rfl 8 (by decide) (hu _ mw_1076) (fun _ h9 => h9) rfl (tyok_Model 8 (by decide)) rfl rfl (Nat.le_of_ble_eq_true rfl) d_Model_answer_2 (fun H locs hw _ hS => ?_)
  replace hw := x_setR hw (by decide) rfl
  obtain ⟨s2, e2, hE⟩ := x_letE hE
  rw [← e2] at hw
  refine lv_aload_n hx hb d_Model_answer_5 rfl (lv_at hl 0 rfl) ?_
  obtain ⟨r6, hC6, hE⟩ := x_bind hE
  refine x_callR (W.runV (As := []) (rest := []) ⟨hx, hb, hml, hown, hu⟩ (t_Model_resource l G s2 r6 hC6) (cwV 0 hu (uw_V mw_1190 mw_1192 mw_25 mw_70 mw_1193) rfl rfl rfl hd_Model_resource ⟨Nat.le_of_ble_eq_true rfl, Nat.le_of_ble_eq_true rfl⟩) (x_preV hC hS hw (va_recv hK hw (q := (R_Model, T_Model, 33)) (ci := 10) rfl (x_at (by decide) (xcl_51 G s2)))) rfl rfl hl.1 rfl (lv_room (Nat.le_of_ble_eq_true rfl)) d_Model_answer_6 ⟨Nat.le_of_ble_eq_true rfl, Nat.le_of_ble_eq_true rfl⟩) ?_
  refine lv_istore_n hx hb d_Model_answer_9 rfl hl (by decide) rfl (fun ls hl => ?_)
  have hl : lv_has ls 3 [(1, .int r6), (0, .ref (G.2.1 51))] := hl
  refine lv_aload_n hx hb d_Model_answer_10 rfl (lv_at hl 1 rfl) ?_
  refine va_get (D := G.1) (cl := xCl) (ci := 10) (v := .int (s2.1 51 12)) (C := R_Model) (T := T_Model) (N := 33) hx hb hu fi_Model hown hK hw 51 (x_at (by decide) (xcl_51 G s2)) rfl 12 (by decide) (hu _ mw_1080) (fun _ h9 => h9) rfl d_Model_answer_11 ?_
  refine lv_bipush (v := (121 : Int32)) hx hb d_Model_answer_14 (by decide) ?_
  refine lv_icmp_eq (tgt := 28) hx hb d_Model_answer_16 (by decide) (fun hc16 => ?_) (fun hc16 => ?_)
  · rw [if_pos hc16] at hE
    exact jn28 _ _ _ _ _ hE (lv_sub hl [1, 0] rfl) hw hS
  · rw [if_neg hc16] at hE
    refine lv_aload_n hx hb d_Model_answer_19 rfl (lv_at hl 1 rfl) ?_
    refine va_get (D := G.1) (cl := xCl) (ci := 10) (v := .int (s2.1 51 12)) (C := R_Model) (T := T_Model) (N := 33) hx hb hu fi_Model hown hK hw 51 (x_at (by decide) (xcl_51 G s2)) rfl 12 (by decide) (hu _ mw_1080) (fun _ h9 => h9) rfl d_Model_answer_20 ?_
    refine lv_bipush (v := (125 : Int32)) hx hb d_Model_answer_23 (by decide) ?_
    refine lv_icmp_ne (tgt := 32) hx hb d_Model_answer_25 (by decide) (fun hc25 => ?_) (fun hc25 => ?_)
    · rw [if_neg hc25] at hE
      refine lv_iconst (v := (0 : Int32)) hx hb d_Model_answer_32 (by decide) ?_
      exact jn33 _ _ _ _ _ _ hE (lv_sub hl [1, 0] rfl) hw hS
    · rw [if_pos hc25] at hE
      exact jn28 _ _ _ _ _ hE (lv_sub hl [1, 0] rfl) hw hS

def y_Model_endHead : MethodName := ⟨"PlainOriginModel", "endHead", "()V"⟩
def ws_Model_endHead : List Cond := Cond.code y_Model_endHead prog_14_method_33_code 4 none :: UW
theorem hd_Model_endHead : y_Model_endHead.cls = R_Model ∧ y_Model_endHead.cls ≠ "java/lang/invoke/MethodHandle" ∧ y_Model_endHead.cls ≠ "java/lang/invoke/VarHandle" ∧ (parseMethodDescriptor y_Model_endHead.desc).map (fun d => d.parameters.length) = some 0 := by decide +kernel
theorem d_Model_endHead_0 : decode prog_14_method_33_code 0 = .ok (.aload_n 0, 1) := by decide +kernel
theorem d_Model_endHead_1 : decode prog_14_method_33_code 1 = .ok (.invokevirtual 279, 3) := by decide +kernel
theorem d_Model_endHead_4 : decode prog_14_method_33_code 4 = .ok (.aload_n 0, 1) := by decide +kernel
theorem d_Model_endHead_5 : decode prog_14_method_33_code 5 = .ok (.getfield 162, 3) := by decide +kernel
theorem d_Model_endHead_8 : decode prog_14_method_33_code 8 = .ok (.ifCond .le (4), 3) := by decide +kernel
theorem d_Model_endHead_11 : decode prog_14_method_33_code 11 = .ok (.return_, 1) := by decide +kernel
theorem d_Model_endHead_12 : decode prog_14_method_33_code 12 = .ok (.aload_n 0, 1) := by decide +kernel
theorem d_Model_endHead_13 : decode prog_14_method_33_code 13 = .ok (.iconst 5, 1) := by decide +kernel
theorem d_Model_endHead_14 : decode prog_14_method_33_code 14 = .ok (.invokevirtual 273, 3) := by decide +kernel
theorem d_Model_endHead_17 : decode prog_14_method_33_code 17 = .ok (.ifCond .le (7), 3) := by decide +kernel
theorem d_Model_endHead_20 : decode prog_14_method_33_code 20 = .ok (.iconst 1, 1) := by decide +kernel
theorem d_Model_endHead_21 : decode prog_14_method_33_code 21 = .ok (.goto (4), 3) := by decide +kernel
theorem d_Model_endHead_24 : decode prog_14_method_33_code 24 = .ok (.iconst 0, 1) := by decide +kernel
theorem d_Model_endHead_25 : decode prog_14_method_33_code 25 = .ok (.istore_n 1, 1) := by decide +kernel
theorem d_Model_endHead_26 : decode prog_14_method_33_code 26 = .ok (.iload_n 1, 1) := by decide +kernel
theorem d_Model_endHead_27 : decode prog_14_method_33_code 27 = .ok (.ifCond .eq (10), 3) := by decide +kernel
theorem d_Model_endHead_30 : decode prog_14_method_33_code 30 = .ok (.aload_n 0, 1) := by decide +kernel
theorem d_Model_endHead_31 : decode prog_14_method_33_code 31 = .ok (.invokevirtual 282, 3) := by decide +kernel
theorem d_Model_endHead_34 : decode prog_14_method_33_code 34 = .ok (.goto (16), 3) := by decide +kernel
theorem d_Model_endHead_37 : decode prog_14_method_33_code 37 = .ok (.aload_n 0, 1) := by decide +kernel
theorem d_Model_endHead_38 : decode prog_14_method_33_code 38 = .ok (.bipush (23), 2) := by decide +kernel
theorem d_Model_endHead_40 : decode prog_14_method_33_code 40 = .ok (.invokevirtual 273, 3) := by decide +kernel
theorem d_Model_endHead_43 : decode prog_14_method_33_code 43 = .ok (.ifCond .le (7), 3) := by decide +kernel
theorem d_Model_endHead_46 : decode prog_14_method_33_code 46 = .ok (.aload_n 0, 1) := by decide +kernel
theorem d_Model_endHead_47 : decode prog_14_method_33_code 47 = .ok (.invokevirtual 285, 3) := by decide +kernel
theorem d_Model_endHead_50 : decode prog_14_method_33_code 50 = .ok (.aload_n 0, 1) := by decide +kernel
theorem d_Model_endHead_51 : decode prog_14_method_33_code 51 = .ok (.bipush (38), 2) := by decide +kernel
theorem d_Model_endHead_53 : decode prog_14_method_33_code 53 = .ok (.invokevirtual 270, 3) := by decide +kernel
theorem d_Model_endHead_56 : decode prog_14_method_33_code 56 = .ok (.aload_n 0, 1) := by decide +kernel
theorem d_Model_endHead_57 : decode prog_14_method_33_code 57 = .ok (.getfield 115, 3) := by decide +kernel
theorem d_Model_endHead_60 : decode prog_14_method_33_code 60 = .ok (.ifCond .le (14), 3) := by decide +kernel
theorem d_Model_endHead_63 : decode prog_14_method_33_code 63 = .ok (.aload_n 0, 1) := by decide +kernel
theorem d_Model_endHead_64 : decode prog_14_method_33_code 64 = .ok (.getfield 263, 3) := by decide +kernel
theorem d_Model_endHead_67 : decode prog_14_method_33_code 67 = .ok (.ifCond .le (7), 3) := by decide +kernel
theorem d_Model_endHead_70 : decode prog_14_method_33_code 70 = .ok (.iconst 1, 1) := by decide +kernel
theorem d_Model_endHead_71 : decode prog_14_method_33_code 71 = .ok (.goto (4), 3) := by decide +kernel
theorem d_Model_endHead_74 : decode prog_14_method_33_code 74 = .ok (.iconst 0, 1) := by decide +kernel
theorem d_Model_endHead_75 : decode prog_14_method_33_code 75 = .ok (.istore_n 2, 1) := by decide +kernel
theorem d_Model_endHead_76 : decode prog_14_method_33_code 76 = .ok (.iconst 0, 1) := by decide +kernel
theorem d_Model_endHead_77 : decode prog_14_method_33_code 77 = .ok (.istore_n 3, 1) := by decide +kernel
theorem d_Model_endHead_78 : decode prog_14_method_33_code 78 = .ok (.iload_n 3, 1) := by decide +kernel
theorem d_Model_endHead_79 : decode prog_14_method_33_code 79 = .ok (.aload_n 0, 1) := by decide +kernel
theorem d_Model_endHead_80 : decode prog_14_method_33_code 80 = .ok (.getfield 263, 3) := by decide +kernel
theorem d_Model_endHead_83 : decode prog_14_method_33_code 83 = .ok (.if_icmp .ge (41), 3) := by decide +kernel
theorem d_Model_endHead_86 : decode prog_14_method_33_code 86 = .ok (.aload_n 0, 1) := by decide +kernel
theorem d_Model_endHead_87 : decode prog_14_method_33_code 87 = .ok (.getfield 115, 3) := by decide +kernel
theorem d_Model_endHead_90 : decode prog_14_method_33_code 90 = .ok (.ifCond .le (34), 3) := by decide +kernel
theorem d_Model_endHead_93 : decode prog_14_method_33_code 93 = .ok (.aload_n 0, 1) := by decide +kernel
theorem d_Model_endHead_94 : decode prog_14_method_33_code 94 = .ok (.aload_n 0, 1) := by decide +kernel
theorem d_Model_endHead_95 : decode prog_14_method_33_code 95 = .ok (.aload_n 0, 1) := by decide +kernel
theorem d_Model_endHead_96 : decode prog_14_method_33_code 96 = .ok (.getfield 130, 3) := by decide +kernel
theorem d_Model_endHead_99 : decode prog_14_method_33_code 99 = .ok (.iload_n 3, 1) := by decide +kernel
theorem d_Model_endHead_100 : decode prog_14_method_33_code 100 = .ok (.iaload, 1) := by decide +kernel
theorem d_Model_endHead_101 : decode prog_14_method_33_code 101 = .ok (.aload_n 0, 1) := by decide +kernel
theorem d_Model_endHead_102 : decode prog_14_method_33_code 102 = .ok (.getfield 133, 3) := by decide +kernel
theorem d_Model_endHead_105 : decode prog_14_method_33_code 105 = .ok (.iload_n 3, 1) := by decide +kernel
theorem d_Model_endHead_106 : decode prog_14_method_33_code 106 = .ok (.iaload, 1) := by decide +kernel
theorem d_Model_endHead_107 : decode prog_14_method_33_code 107 = .ok (.bipush (84), 2) := by decide +kernel
theorem d_Model_endHead_109 : decode prog_14_method_33_code 109 = .ok (.invokevirtual 254, 3) := by decide +kernel
theorem d_Model_endHead_112 : decode prog_14_method_33_code 112 = .ok (.sipush (417), 3) := by decide +kernel
theorem d_Model_endHead_115 : decode prog_14_method_33_code 115 = .ok (.invokevirtual 194, 3) := by decide +kernel
theorem d_Model_endHead_118 : decode prog_14_method_33_code 118 = .ok (.iinc 3 (1), 3) := by decide +kernel
theorem d_Model_endHead_121 : decode prog_14_method_33_code 121 = .ok (.goto (-43), 3) := by decide +kernel
theorem d_Model_endHead_124 : decode prog_14_method_33_code 124 = .ok (.aload_n 0, 1) := by decide +kernel
theorem d_Model_endHead_125 : decode prog_14_method_33_code 125 = .ok (.getfield 162, 3) := by decide +kernel
theorem d_Model_endHead_128 : decode prog_14_method_33_code 128 = .ok (.ifCond .le (4), 3) := by decide +kernel
theorem d_Model_endHead_131 : decode prog_14_method_33_code 131 = .ok (.return_, 1) := by decide +kernel
theorem d_Model_endHead_132 : decode prog_14_method_33_code 132 = .ok (.aload_n 0, 1) := by decide +kernel
theorem d_Model_endHead_133 : decode prog_14_method_33_code 133 = .ok (.aload_n 0, 1) := by decide +kernel
theorem d_Model_endHead_134 : decode prog_14_method_33_code 134 = .ok (.bipush (45), 2) := by decide +kernel
theorem d_Model_endHead_136 : decode prog_14_method_33_code 136 = .ok (.bipush (97), 2) := by decide +kernel
theorem d_Model_endHead_138 : decode prog_14_method_33_code 138 = .ok (.invokevirtual 288, 3) := by decide +kernel
theorem d_Model_endHead_141 : decode prog_14_method_33_code 141 = .ok (.putfield 172, 3) := by decide +kernel
theorem d_Model_endHead_144 : decode prog_14_method_33_code 144 = .ok (.aload_n 0, 1) := by decide +kernel
theorem d_Model_endHead_145 : decode prog_14_method_33_code 145 = .ok (.aload_n 0, 1) := by decide +kernel
theorem d_Model_endHead_146 : decode prog_14_method_33_code 146 = .ok (.getfield 172, 3) := by decide +kernel
theorem d_Model_endHead_149 : decode prog_14_method_33_code 149 = .ok (.ifCond .ne (21), 3) := by decide +kernel
theorem d_Model_endHead_152 : decode prog_14_method_33_code 152 = .ok (.aload_n 0, 1) := by decide +kernel
theorem d_Model_endHead_153 : decode prog_14_method_33_code 153 = .ok (.getfield 115, 3) := by decide +kernel
theorem d_Model_endHead_156 : decode prog_14_method_33_code 156 = .ok (.ifCond .ne (18), 3) := by decide +kernel
theorem d_Model_endHead_159 : decode prog_14_method_33_code 159 = .ok (.aload_n 0, 1) := by decide +kernel
theorem d_Model_endHead_160 : decode prog_14_method_33_code 160 = .ok (.bipush (45), 2) := by decide +kernel
theorem d_Model_endHead_162 : decode prog_14_method_33_code 162 = .ok (.bipush (103), 2) := by decide +kernel
theorem d_Model_endHead_164 : decode prog_14_method_33_code 164 = .ok (.invokevirtual 288, 3) := by decide +kernel
theorem d_Model_endHead_167 : decode prog_14_method_33_code 167 = .ok (.ifCond .ne (7), 3) := by decide +kernel
theorem d_Model_endHead_170 : decode prog_14_method_33_code 170 = .ok (.iconst 1, 1) := by decide +kernel
theorem d_Model_endHead_171 : decode prog_14_method_33_code 171 = .ok (.goto (4), 3) := by decide +kernel
theorem d_Model_endHead_174 : decode prog_14_method_33_code 174 = .ok (.iconst 0, 1) := by decide +kernel
theorem d_Model_endHead_175 : decode prog_14_method_33_code 175 = .ok (.putfield 172, 3) := by decide +kernel
theorem d_Model_endHead_178 : decode prog_14_method_33_code 178 = .ok (.iload_n 2, 1) := by decide +kernel
theorem d_Model_endHead_179 : decode prog_14_method_33_code 179 = .ok (.ifCond .eq (32), 3) := by decide +kernel
theorem d_Model_endHead_182 : decode prog_14_method_33_code 182 = .ok (.iload_n 1, 1) := by decide +kernel
theorem d_Model_endHead_183 : decode prog_14_method_33_code 183 = .ok (.ifCond .ne (10), 3) := by decide +kernel
theorem d_Model_endHead_186 : decode prog_14_method_33_code 186 = .ok (.aload_n 0, 1) := by decide +kernel
theorem d_Model_endHead_187 : decode prog_14_method_33_code 187 = .ok (.getfield 182, 3) := by decide +kernel
theorem d_Model_endHead_190 : decode prog_14_method_33_code 190 = .ok (.ifCond .le (21), 3) := by decide +kernel
theorem d_Model_endHead_193 : decode prog_14_method_33_code 193 = .ok (.aload_n 0, 1) := by decide +kernel
theorem d_Model_endHead_194 : decode prog_14_method_33_code 194 = .ok (.bipush (100), 2) := by decide +kernel
theorem d_Model_endHead_196 : decode prog_14_method_33_code 196 = .ok (.invokevirtual 291, 3) := by decide +kernel
theorem d_Model_endHead_199 : decode prog_14_method_33_code 199 = .ok (.aload_n 0, 1) := by decide +kernel
theorem d_Model_endHead_200 : decode prog_14_method_33_code 200 = .ok (.bipush (13), 2) := by decide +kernel
theorem d_Model_endHead_202 : decode prog_14_method_33_code 202 = .ok (.invokevirtual 294, 3) := by decide +kernel
theorem d_Model_endHead_205 : decode prog_14_method_33_code 205 = .ok (.aload_n 0, 1) := by decide +kernel
theorem d_Model_endHead_206 : decode prog_14_method_33_code 206 = .ok (.bipush (10), 2) := by decide +kernel
theorem d_Model_endHead_208 : decode prog_14_method_33_code 208 = .ok (.invokevirtual 294, 3) := by decide +kernel
theorem d_Model_endHead_211 : decode prog_14_method_33_code 211 = .ok (.aload_n 0, 1) := by decide +kernel
theorem d_Model_endHead_212 : decode prog_14_method_33_code 212 = .ok (.iconst 0, 1) := by decide +kernel
theorem d_Model_endHead_213 : decode prog_14_method_33_code 213 = .ok (.putfield 251, 3) := by decide +kernel
theorem d_Model_endHead_216 : decode prog_14_method_33_code 216 = .ok (.aload_n 0, 1) := by decide +kernel
theorem d_Model_endHead_217 : decode prog_14_method_33_code 217 = .ok (.iload_n 1, 1) := by decide +kernel
theorem d_Model_endHead_218 : decode prog_14_method_33_code 218 = .ok (.ifCond .eq (7), 3) := by decide +kernel
theorem d_Model_endHead_221 : decode prog_14_method_33_code 221 = .ok (.iconst 3, 1) := by decide +kernel
theorem d_Model_endHead_222 : decode prog_14_method_33_code 222 = .ok (.goto (4), 3) := by decide +kernel
theorem d_Model_endHead_225 : decode prog_14_method_33_code 225 = .ok (.iconst 2, 1) := by decide +kernel
theorem d_Model_endHead_226 : decode prog_14_method_33_code 226 = .ok (.putfield 179, 3) := by decide +kernel
theorem d_Model_endHead_229 : decode prog_14_method_33_code 229 = .ok (.iload_n 1, 1) := by decide +kernel
theorem d_Model_endHead_230 : decode prog_14_method_33_code 230 = .ok (.ifCond .ne (14), 3) := by decide +kernel
theorem d_Model_endHead_233 : decode prog_14_method_33_code 233 = .ok (.aload_n 0, 1) := by decide +kernel
theorem d_Model_endHead_234 : decode prog_14_method_33_code 234 = .ok (.getfield 182, 3) := by decide +kernel
theorem d_Model_endHead_237 : decode prog_14_method_33_code 237 = .ok (.ifCond .ne (7), 3) := by decide +kernel
theorem d_Model_endHead_240 : decode prog_14_method_33_code 240 = .ok (.aload_n 0, 1) := by decide +kernel
theorem d_Model_endHead_241 : decode prog_14_method_33_code 241 = .ok (.invokevirtual 188, 3) := by decide +kernel
theorem d_Model_endHead_244 : decode prog_14_method_33_code 244 = .ok (.return_, 1) := by decide +kernel
def x_Model_endHead_226 (l1 : Int32) (k0 : Int32) (σ : St) : Option St := (x_let (x_updR σ 51 8 k0) (fun (s226 : St) => (if l1 = 0 then (if (s226.1 51 21) = 0 then (Option.bind (x_Model_answer s226) (fun s241 => some s241)) else some s226) else some s226)))
def x_Model_endHead_211 (l1 : Int32) (σ : St) : Option St := (x_let (x_updR σ 51 24 (0 : Int32)) (fun (s213 : St) => (if l1 = 0 then x_Model_endHead_226 l1 (2 : Int32) s213 else x_Model_endHead_226 l1 (3 : Int32) s213)))
def x_Model_endHead_193 (l1 : Int32) (σ : St) : Option St := (Option.bind (x_Model_sayStatus (100 : Int32) σ) (fun s196 => (Option.bind (x_Model_say (13 : Int32) s196) (fun s202 => (Option.bind (x_Model_say (10 : Int32) s202) (fun s208 => x_Model_endHead_211 l1 s208))))))
def x_Model_endHead_175 (l1 : Int32) (l2 : Int32) (k0 : Int32) (σ : St) : Option St := (if x_bit k0 then (x_let (x_updR σ 51 16 k0) (fun (s175 : St) => (if l2 = 0 then x_Model_endHead_211 l1 s175 else (if l1 = 0 then (if (s175.1 51 21) ≤ 0 then x_Model_endHead_211 l1 s175 else x_Model_endHead_193 l1 s175) else x_Model_endHead_193 l1 s175)))) else none)
def x_Model_endHead_170 (l1 : Int32) (l2 : Int32) (σ : St) : Option St := x_Model_endHead_175 l1 l2 (1 : Int32) σ
def x_Model_endHead_174 (l1 : Int32) (l2 : Int32) (σ : St) : Option St := x_Model_endHead_175 l1 l2 (0 : Int32) σ
def x_Model_endHead_124 (l1 : Int32) (l2 : Int32) (σ : St) : Option St := (if (σ.1 51 25) ≤ 0 then (x_bind2 (x_Model_has (45 : Int32) (97 : Int32) σ) (fun r138 s138 => (if x_bit r138 then (x_let (x_updR s138 51 16 r138) (fun (s141 : St) => (if (s141.1 51 16) = 0 then (if (s141.1 51 15) = 0 then (x_bind2 (x_Model_has (45 : Int32) (103 : Int32) s141) (fun r164 s164 => (if r164 = 0 then x_Model_endHead_170 l1 l2 s164 else x_Model_endHead_174 l1 l2 s164))) else x_Model_endHead_174 l1 l2 s141) else x_Model_endHead_170 l1 l2 s141))) else none))) else some σ)
def x_Model_endHead_78 : Nat → Int32 → Int32 → Int32 → St → Option St
  | 0, _, _, _, _ => none
  | n + 1, l1, l2, l3, σ => (if (σ.1 51 26) ≤ l3 then x_Model_endHead_124 l1 l2 σ else (if (σ.1 51 15) ≤ 0 then x_Model_endHead_124 l1 l2 σ else (if x_in l3 512 then (if x_in l3 512 then (Option.bind (x_Model_isWord (σ.2.1 63 l3.toNatClampNeg) (σ.2.1 64 l3.toNatClampNeg) (84 : Int32) σ) (fun r109 => (Option.bind (x_Model_blame r109 (417 : Int32) σ) (fun s115 => (x_let (l3 + (1 : Int32)) (fun (v118 : Int32) => x_Model_endHead_78 n l1 l2 v118 s115)))))) else none) else none)))
def x_Model_endHead_75 (l1 : Int32) (k0 : Int32) (σ : St) : Option St := x_Model_endHead_78 x_fuel l1 k0 (0 : Int32) σ
def x_Model_endHead_74 (l1 : Int32) (σ : St) : Option St := x_Model_endHead_75 l1 (0 : Int32) σ
def x_Model_endHead_50 (l1 : Int32) (σ : St) : Option St := (Option.bind (x_Model_list (38 : Int32) σ) (fun s53 => (if (s53.1 51 15) ≤ 0 then x_Model_endHead_74 l1 s53 else (if (s53.1 51 26) ≤ 0 then x_Model_endHead_74 l1 s53 else x_Model_endHead_75 l1 (1 : Int32) s53))))
def x_Model_endHead_25 (k0 : Int32) (σ : St) : Option St := (if k0 = 0 then (Option.bind (x_Model_count (23 : Int32) σ) (fun r40 => (if r40 ≤ 0 then x_Model_endHead_50 k0 σ else (Option.bind (x_Model_checkLength σ) (fun s47 => x_Model_endHead_50 k0 s47))))) else (Option.bind (x_Model_checkCoding σ) (fun s31 => x_Model_endHead_50 k0 s31)))
def x_Model_endHead (σ : St) : Option St := (Option.bind (x_Model_checkHost σ) (fun s1 => (if (s1.1 51 25) ≤ 0 then (Option.bind (x_Model_count (5 : Int32) s1) (fun r14 => (if r14 ≤ 0 then x_Model_endHead_25 (0 : Int32) s1 else x_Model_endHead_25 (1 : Int32) s1))) else some s1)))
abbrev rm_Model_endHead : Room := { frames := 8, cells := 0, slots := 0, locals := 196 }
set_option maxHeartbeats 4000000 in
set_option maxRecDepth 100000 in
theorem t_Model_endHead (l : Launch) (G : xG) (σ : St) (σ' : St) (hE : x_Model_endHead σ = some σ') : Met l y_Model_endHead (ws_Model_endHead) rm_Model_endHead (xP G σ [.ref (G.2.1 51)]) (xQ G none σ') 0 0 (xA G) := by
  refine Met.ofW (cc := prog_14_method_33_code) (maxL := 4) (ret := none) (by decide) rfl ?_
  intro p e s m args below meth c s₁ B hml hv
  obtain ⟨rfl, hw, hC⟩ := hv
  have hx := B.exec
  have hb := B.bytes
  have hr := B.returns
  have hu : ∀ w ∈ UW, w.before _ s = true := fun w h => atoms_spec B.pre w (List.mem_cons_of_mem _ h)
  have hown : s.vm.findClass R_Model = some m.cls := findClass_of_methodNamed B.named
  have hlocks := B.notSynchronized
  have hK := hC.1
  have hI := hC.2.1
  have hG := hC.2.2.1
  have hN := hC.2.2.2
  have hS : va_S (xA G) s.heap s.heap [] := va_S.rf
  have jn226 : ∀ (ls : Array Slot) (H : Heap) (locs : List Loc) (σ : St) (l1 : Int32) (k0 : Int32), x_Model_endHead_226 l1 k0 σ = some σ' → lv_has ls 4 [(0, .ref (G.2.1 51)), (1, .int l1)] → xw G σ H → va_S (xA G) s.heap H locs → W p l e (headSpec (ws_Model_endHead) rm_Model_endHead).room s m ([.ref (G.2.1 51)] : List Value).toArray below meth c H locs 0 0 (MQ below (xQ G none σ') ([.ref (G.2.1 51)] : List Value).toArray s 0 0 (xA G)) (F0 m 226 ls [.int k0, .ref (G.2.1 51)]) := by
    intro ls H locs σ l1 k0 hE hl hw hS
    unfold x_Model_endHead_226 at hE
    refine va_put (D := G.1) (cl := xCl) (ci := 10) (v := .int k0) (ty := .int) (C := R_Model) (T := T_Model) (N := 33) hx hb hu fi_Model ty_Model tyok_Model nm_Model hown hK hw (x_D hI _) hS 51 (x_at (by decide) (xcl_51 G σ)) rfl 8 (by decide) (hu _ mw_1076) (fun _ h9 => h9) rfl (tyok_Model 8 (by decide)) rfl rfl (Nat.le_of_ble_eq_true rfl) d_Model_endHead_226 (fun H locs hw _ hS => ?_)
    replace hw := x_setR hw (by decide) rfl
    obtain ⟨s226, e226, hE⟩ := x_letE hE
    rw [← e226] at hw
    refine lv_iload_n hx hb d_Model_endHead_229 rfl (lv_at hl 1 rfl) ?_
    refine lv_if_ne (tgt := 244) hx hb d_Model_endHead_230 (by decide) (fun hc230 => ?_) (fun hc230 => ?_)
    · rw [if_neg hc230] at hE
      have e1 := Option.some.inj hE
      exact W.vret hx hb hr (fun t ht hW => ⟨rfl, by rw [ht, ← e1]; exact hw, hS.F ht⟩) hS.2.2 d_Model_endHead_244
    · rw [if_pos hc230] at hE
      refine lv_aload_n hx hb d_Model_endHead_233 rfl (lv_at hl 0 rfl) ?_
      refine va_get (D := G.1) (cl := xCl) (ci := 10) (v := .int (s226.1 51 21)) (C := R_Model) (T := T_Model) (N := 33) hx hb hu fi_Model hown hK hw 51 (x_at (by decide) (xcl_51 G s226)) rfl 21 (by decide) (hu _ mw_1089) (fun _ h9 => h9) rfl d_Model_endHead_234 ?_
      refine lv_if_ne (tgt := 244) hx hb d_Model_endHead_237 (by decide) (fun hc237 => ?_) (fun hc237 => ?_)
      · rw [if_neg hc237] at hE
        have e1 := Option.some.inj hE
        exact W.vret hx hb hr (fun t ht hW => ⟨rfl, by rw [ht, ← e1]; exact hw, hS.F ht⟩) hS.2.2 d_Model_endHead_244
      · rw [if_pos hc237] at hE
        refine lv_aload_n hx hb d_Model_endHead_240 rfl (lv_at hl 0 rfl) ?_
        obtain ⟨s241, hC241, hE⟩ := x_bind hE
        refine x_callV hS (W.runV (As := []) (rest := []) ⟨hx, hb, hml, hown, hu⟩ (t_Model_answer l G s226 s241 hC241) (cwV 0 hu (uw_V mw_1186 mw_1188 mw_24 mw_70 mw_1189) rfl rfl rfl hd_Model_answer ⟨Nat.le_of_ble_eq_true rfl, Nat.le_of_ble_eq_true rfl⟩) (x_preV hC hS hw (va_recv hK hw (q := (R_Model, T_Model, 33)) (ci := 10) rfl (x_at (by decide) (xcl_51 G s226)))) rfl rfl hl.1 rfl (lv_room (Nat.le_of_ble_eq_true rfl)) d_Model_endHead_241 ⟨Nat.le_of_ble_eq_true rfl, Nat.le_of_ble_eq_true rfl⟩) (fun H locs hw hS => ?_)
        have e1 := Option.some.inj hE
        exact W.vret hx hb hr (fun t ht hW => ⟨rfl, by rw [ht, ← e1]; exact hw, hS.F ht⟩) hS.2.2 d_Model_endHead_244
  have jn211 : ∀ (ls : Array Slot) (H : Heap) (locs : List Loc) (σ : St) (l1 : Int32), x_Model_endHead_211 l1 σ = some σ' → lv_has ls 4 [(0, .ref (G.2.1 51)), (1, .int l1)] → xw G σ H → va_S (xA G) s.heap H locs → W p l e (headSpec (ws_Model_endHead) rm_Model_endHead).room s m ([.ref (G.2.1 51)] : List Value).toArray below meth c H locs 0 0 (MQ below (xQ G none σ') ([.ref (G.2.1 51)] : List Value).toArray s 0 0 (xA G)) (F0 m 211 ls []) := by
    intro ls H locs σ l1 hE hl hw hS
    unfold x_Model_endHead_211 at hE
    refine lv_aload_n hx hb d_Model_endHead_211 rfl (lv_at hl 0 rfl) ?_
    refine lv_iconst (v := (0 : Int32)) hx hb d_Model_endHead_212 (by decide) ?_
    refine va_put (D := G.1) (cl := xCl) (ci := 10) (v := .int (0 : Int32)) (ty := .int) (C := R_Model) (T := T_Model) (N := 33) hx hb hu fi_Model ty_Model tyok_Model nm_Model hown hK hw (x_D hI _) hS 51 (x_at (by decide) (xcl_51 G σ)) rfl 24 (by decide) (hu _ mw_1092) (fun _ h9 => h9) rfl (tyok_Model 24 (by decide)) rfl rfl (Nat.le_of_ble_eq_true rfl) d_Model_endHead_213 (fun H locs hw _ hS => ?_)
    replace hw := x_setR hw (by decide) rfl
    obtain ⟨s213, e213, hE⟩ := x_letE hE
    rw [← e213] at hw
    refine lv_aload_n hx hb d_Model_endHead_216 rfl (lv_at hl 0 rfl) ?_
    refine lv_iload_n hx hb d_Model_endHead_217 rfl (lv_at hl 1 rfl) ?_
    refine lv_if_eq (tgt := 225) hx hb d_Model_endHead_218 (by decide) (fun hc218 => ?_) (fun hc218 => ?_)
    · rw [if_pos hc218] at hE
      refine lv_iconst (v := (2 : Int32)) hx hb d_Model_endHead_225 (by decide) ?_
      exact jn226 _ _ _ _ _ _ hE (lv_sub hl [0, 1] rfl) hw hS
    · rw [if_neg hc218] at hE
      refine lv_iconst (v := (3 : Int32)) hx hb d_Model_endHead_221 (by decide) ?_
      refine lv_goto (tgt := 226) hx hb d_Model_endHead_222 (by decide) ?_
      exact jn226 _ _ _ _ _ _ hE (lv_sub hl [0, 1] rfl) hw hS
  have jn193 : ∀ (ls : Array Slot) (H : Heap) (locs : List Loc) (σ : St) (l1 : Int32), x_Model_endHead_193 l1 σ = some σ' → lv_has ls 4 [(0, .ref (G.2.1 51)), (1, .int l1)] → xw G σ H → va_S (xA G) s.heap H locs → W p l e (headSpec (ws_Model_endHead) rm_Model_endHead).room s m ([.ref (G.2.1 51)] : List Value).toArray below meth c H locs 0 0 (MQ below (xQ G none σ') ([.ref (G.2.1 51)] : List Value).toArray s 0 0 (xA G)) (F0 m 193 ls []) := by
    intro ls H locs σ l1 hE hl hw hS
    unfold x_Model_endHead_193 at hE
    refine lv_aload_n hx hb d_Model_endHead_193 rfl (lv_at hl 0 rfl) ?_
    refine lv_bipush (v := (100 : Int32)) hx hb d_Model_endHead_194 (by decide) ?_
    obtain ⟨s196, hC196, hE⟩ := x_bind hE
    refine x_callV hS (W.runV (As := [.int (100 : Int32)]) (rest := []) ⟨hx, hb, hml, hown, hu⟩ (t_Model_sayStatus l G σ (100 : Int32) s196 hC196) (cwV 1 hu (uw_V mw_1207 mw_1209 mw_27 mw_70 mw_1210) rfl rfl rfl hd_Model_sayStatus ⟨Nat.le_of_ble_eq_true rfl, Nat.le_of_ble_eq_true rfl⟩) (x_preV hC hS hw (va_recv hK hw (q := (R_Model, T_Model, 33)) (ci := 10) rfl (x_at (by decide) (xcl_51 G σ)))) rfl rfl hl.1 rfl (lv_room (Nat.le_of_ble_eq_true rfl)) d_Model_endHead_196 ⟨Nat.le_of_ble_eq_true rfl, Nat.le_of_ble_eq_true rfl⟩) (fun H locs hw hS => ?_)
    refine lv_aload_n hx hb d_Model_endHead_199 rfl (lv_at hl 0 rfl) ?_
    refine lv_bipush (v := (13 : Int32)) hx hb d_Model_endHead_200 (by decide) ?_
    obtain ⟨s202, hC202, hE⟩ := x_bind hE
    refine x_callV hS (W.runV (As := [.int (13 : Int32)]) (rest := []) ⟨hx, hb, hml, hown, hu⟩ (t_Model_say l G s196 (13 : Int32) s202 hC202) (cwV 1 hu (uw_V mw_1219 mw_1221 mw_30 mw_70 mw_1222) rfl rfl rfl hd_Model_say ⟨Nat.le_of_ble_eq_true rfl, Nat.le_of_ble_eq_true rfl⟩) (x_preV hC hS hw (va_recv hK hw (q := (R_Model, T_Model, 33)) (ci := 10) rfl (x_at (by decide) (xcl_51 G s196)))) rfl rfl hl.1 rfl (lv_room (Nat.le_of_ble_eq_true rfl)) d_Model_endHead_202 ⟨Nat.le_of_ble_eq_true rfl, Nat.le_of_ble_eq_true rfl⟩) (fun H locs hw hS => ?_)
    refine lv_aload_n hx hb d_Model_endHead_205 rfl (lv_at hl 0 rfl) ?_
    refine lv_bipush (v := (10 : Int32)) hx hb d_Model_endHead_206 (by decide) ?_
    obtain ⟨s208, hC208, hE⟩ := x_bind hE
    refine x_callV hS (W.runV (As := [.int (10 : Int32)]) (rest := []) ⟨hx, hb, hml, hown, hu⟩ (t_Model_say l G s202 (10 : Int32) s208 hC208) (cwV 1 hu (uw_V mw_1219 mw_1221 mw_30 mw_70 mw_1222) rfl rfl rfl hd_Model_say ⟨Nat.le_of_ble_eq_true rfl, Nat.le_of_ble_eq_true rfl⟩) (x_preV hC hS hw (va_recv hK hw (q := (R_Model, T_Model, 33)) (ci := 10) rfl (x_at (by decide) (xcl_51 G s202)))) rfl rfl hl.1 rfl (lv_room (Nat.le_of_ble_eq_true rfl)) d_Model_endHead_208 ⟨Nat.le_of_ble_eq_true rfl, Nat.le_of_ble_eq_true rfl⟩) (fun H locs hw hS => ?_)
    exact jn211 _ _ _ _ _ hE (lv_sub hl [0, 1] rfl) hw hS
  have jn175 : ∀ (ls : Array Slot) (H : Heap) (locs : List Loc) (σ : St) (l1 : Int32) (l2 : Int32) (k0 : Int32), x_Model_endHead_175 l1 l2 k0 σ = some σ' → lv_has ls 4 [(0, .ref (G.2.1 51)), (1, .int l1), (2, .int l2)] → xw G σ H → va_S (xA G) s.heap H locs → W p l e (headSpec (ws_Model_endHead) rm_Model_endHead).room s m ([.ref (G.2.1 51)] : List Value).toArray below meth c H locs 0 0 (MQ below (xQ G none σ') ([.ref (G.2.1 51)] : List Value).toArray s 0 0 (xA G)) (F0 m 175 ls [.int k0, .ref (G.2.1 51)]) := by
    intro ls H locs σ l1 l2 k0 hE hl hw hS
    unfold x_Model_endHead_175 at hE
    obtain ⟨g175, hE⟩ := x_guard hE
    refine va_put (D := G.1) (cl := xCl) (ci := 10) (v := .int k0) (ty := .boolean) (C := R_Model) (T := T_Model) (N := 33) hx hb hu fi_Model ty_Model tyok_Model nm_Model hown hK hw (x_D hI _) hS 51 (x_at (by decide) (xcl_51 G σ)) rfl 16 (by decide) (hu _ mw_1084) (fun _ h9 => h9) rfl (tyok_Model 16 (by decide)) (x_nz g175) (x_fz g175) (Nat.le_of_ble_eq_true rfl) d_Model_endHead_175 (fun H locs hw _ hS => ?_)
    replace hw := x_setR hw (by decide) rfl
    obtain ⟨s175, e175, hE⟩ := x_letE hE
    rw [← e175] at hw
    refine lv_iload_n hx hb d_Model_endHead_178 rfl (lv_at hl 2 rfl) ?_
    refine lv_if_eq (tgt := 211) hx hb d_Model_endHead_179 (by decide) (fun hc179 => ?_) (fun hc179 => ?_)
    · rw [if_pos hc179] at hE
      exact jn211 _ _ _ _ _ hE (lv_sub hl [0, 1] rfl) hw hS
    · rw [if_neg hc179] at hE
      refine lv_iload_n hx hb d_Model_endHead_182 rfl (lv_at hl 1 rfl) ?_
      refine lv_if_ne (tgt := 193) hx hb d_Model_endHead_183 (by decide) (fun hc183 => ?_) (fun hc183 => ?_)
      · rw [if_neg hc183] at hE
        exact jn193 _ _ _ _ _ hE (lv_sub hl [0, 1] rfl) hw hS
      · rw [if_pos hc183] at hE
        refine lv_aload_n hx hb d_Model_endHead_186 rfl (lv_at hl 0 rfl) ?_
        refine va_get (D := G.1) (cl := xCl) (ci := 10) (v := .int (s175.1 51 21)) (C := R_Model) (T := T_Model) (N := 33) hx hb hu fi_Model hown hK hw 51 (x_at (by decide) (xcl_51 G s175)) rfl 21 (by decide) (hu _ mw_1089) (fun _ h9 => h9) rfl d_Model_endHead_187 ?_
        refine lv_if_le (tgt := 211) hx hb d_Model_endHead_190 (by decide) (fun hc190 => ?_) (fun hc190 => ?_)
        · rw [if_pos hc190] at hE
          exact jn211 _ _ _ _ _ hE (lv_sub hl [0, 1] rfl) hw hS
        · rw [if_neg hc190] at hE
          exact jn193 _ _ _ _ _ hE (lv_sub hl [0, 1] rfl) hw hS
  have jn170 : ∀ (ls : Array Slot) (H : Heap) (locs : List Loc) (σ : St) (l1 : Int32) (l2 : Int32), x_Model_endHead_170 l1 l2 σ = some σ' → lv_has ls 4 [(0, .ref (G.2.1 51)), (1, .int l1), (2, .int l2)] → xw G σ H → va_S (xA G) s.heap H locs → W p l e (headSpec (ws_Model_endHead) rm_Model_endHead).room s m ([.ref (G.2.1 51)] : List Value).toArray below meth c H locs 0 0 (MQ below (xQ G none σ') ([.ref (G.2.1 51)] : List Value).toArray s 0 0 (xA G)) (F0 m 170 ls [.ref (G.2.1 51)]) := by
    intro ls H locs σ l1 l2 hE hl hw hS
    unfold x_Model_endHead_170 at hE
    refine lv_iconst (v := (1 : Int32)) hx hb d_Model_endHead_170 (by decide) ?_
    refine lv_goto (tgt := 175) hx hb d_Model_endHead_171 (by decide) ?_
    exact jn175 _ _ _ _ _ _ _ hE (lv_sub hl [0, 1, 2] rfl) hw hS
  have jn174 : ∀ (ls : Array Slot) (H : Heap) (locs : List Loc) (σ : St) (l1 : Int32) (l2 : Int32), x_Model_endHead_174 l1 l2 σ = some σ' → lv_has ls 4 [(0, .ref (G.2.1 51)), (1, .int l1), (2, .int l2)] → xw G σ H → va_S (xA G) s.heap H locs → W p l e (headSpec (ws_Model_endHead) rm_Model_endHead).room s m ([.ref (G.2.1 51)] : List Value).toArray below meth c H locs 0 0 (MQ below (xQ G none σ') ([.ref (G.2.1 51)] : List Value).toArray s 0 0 (xA G)) (F0 m 174 ls [.ref (G.2.1 51)]) := by
    intro ls H locs σ l1 l2 hE hl hw hS
    unfold x_Model_endHead_174 at hE
    refine lv_iconst (v := (0 : Int32)) hx hb d_Model_endHead_174 (by decide) ?_
    exact jn175 _ _ _ _ _ _ _ hE (lv_sub hl [0, 1, 2] rfl) hw hS
  have jn124 : ∀ (ls : Array Slot) (H : Heap) (locs : List Loc) (σ : St) (l1 : Int32) (l2 : Int32), x_Model_endHead_124 l1 l2 σ = some σ' → lv_has ls 4 [(0, .ref (G.2.1 51)), (1, .int l1), (2, .int l2)] → xw G σ H → va_S (xA G) s.heap H locs → W p l e (headSpec (ws_Model_endHead) rm_Model_endHead).room s m ([.ref (G.2.1 51)] : List Value).toArray below meth c H locs 0 0 (MQ below (xQ G none σ') ([.ref (G.2.1 51)] : List Value).toArray s 0 0 (xA G)) (F0 m 124 ls []) := by
    intro ls H locs σ l1 l2 hE hl hw hS
    unfold x_Model_endHead_124 at hE
    refine lv_aload_n hx hb d_Model_endHead_124 rfl (lv_at hl 0 rfl) ?_
    refine va_get (D := G.1) (cl := xCl) (ci := 10) (v := .int (σ.1 51 25)) (C := R_Model) (T := T_Model) (N := 33) hx hb hu fi_Model hown hK hw 51 (x_at (by decide) (xcl_51 G σ)) rfl 25 (by decide) (hu _ mw_1093) (fun _ h9 => h9) rfl d_Model_endHead_125 ?_
    refine lv_if_le (tgt := 132) hx hb d_Model_endHead_128 (by decide) (fun hc128 => ?_) (fun hc128 => ?_)
    · rw [if_pos hc128] at hE
      refine lv_aload_n hx hb d_Model_endHead_132 rfl (lv_at hl 0 rfl) ?_
      refine lv_aload_n hx hb d_Model_endHead_133 rfl (lv_at hl 0 rfl) ?_
      refine lv_bipush (v := (45 : Int32)) hx hb d_Model_endHead_134 (by decide) ?_
      refine lv_bipush (v := (97 : Int32)) hx hb d_Model_endHead_136 (by decide) ?_
      obtain ⟨r138, s138, hC138, hE⟩ := x_bind2E hE
      refine x_callS hS (W.runV (As := [.int (45 : Int32), .int (97 : Int32)]) (rest := [.ref (G.2.1 51)]) ⟨hx, hb, hml, hown, hu⟩ (t_Model_has l G σ (45 : Int32) (97 : Int32) r138 s138 hC138) (cwV 2 hu (uw_V mw_1339 mw_1341 mw_57 mw_70 mw_1342) rfl rfl rfl hd_Model_has ⟨Nat.le_of_ble_eq_true rfl, Nat.le_of_ble_eq_true rfl⟩) (x_preV hC hS hw (va_recv hK hw (q := (R_Model, T_Model, 33)) (ci := 10) rfl (x_at (by decide) (xcl_51 G σ)))) rfl rfl hl.1 rfl (lv_room (Nat.le_of_ble_eq_true rfl)) d_Model_endHead_138 ⟨Nat.le_of_ble_eq_true rfl, Nat.le_of_ble_eq_true rfl⟩) (fun H locs hw hS => ?_)
      obtain ⟨g141, hE⟩ := x_guard hE
      refine va_put (D := G.1) (cl := xCl) (ci := 10) (v := .int r138) (ty := .boolean) (C := R_Model) (T := T_Model) (N := 33) hx hb hu fi_Model ty_Model tyok_Model nm_Model hown hK hw (x_D hI _) hS 51 (x_at (by decide) (xcl_51 G s138)) rfl 16 (by decide) (hu _ mw_1084) (fun _ h9 => h9) rfl (tyok_Model 16 (by decide)) (x_nz g141) (x_fz g141) (Nat.le_of_ble_eq_true rfl) d_Model_endHead_141 (fun H locs hw _ hS => ?_)
      replace hw := x_setR hw (by decide) rfl
      obtain ⟨s141, e141, hE⟩ := x_letE hE
      rw [← e141] at hw
      refine lv_aload_n hx hb d_Model_endHead_144 rfl (lv_at hl 0 rfl) ?_
      refine lv_aload_n hx hb d_Model_endHead_145 rfl (lv_at hl 0 rfl) ?_
      refine va_get (D := G.1) (cl := xCl) (ci := 10) (v := .int (s141.1 51 16)) (C := R_Model) (T := T_Model) (N := 33) hx hb hu fi_Model hown hK hw 51 (x_at (by decide) (xcl_51 G s141)) rfl 16 (by decide) (hu _ mw_1084) (fun _ h9 => h9) rfl d_Model_endHead_146 ?_
      refine lv_if_ne (tgt := 170) hx hb d_Model_endHead_149 (by decide) (fun hc149 => ?_) (fun hc149 => ?_)
      · rw [if_neg hc149] at hE
        exact jn170 _ _ _ _ _ _ hE (lv_sub hl [0, 1, 2] rfl) hw hS
      · rw [if_pos hc149] at hE
        refine lv_aload_n hx hb d_Model_endHead_152 rfl (lv_at hl 0 rfl) ?_
        refine va_get (D := G.1) (cl := xCl) (ci := 10) (v := .int (s141.1 51 15)) (C := R_Model) (T := T_Model) (N := 33) hx hb hu fi_Model hown hK hw 51 (x_at (by decide) (xcl_51 G s141)) rfl 15 (by decide) (hu _ mw_1083) (fun _ h9 => h9) rfl d_Model_endHead_153 ?_
        refine lv_if_ne (tgt := 174) hx hb d_Model_endHead_156 (by decide) (fun hc156 => ?_) (fun hc156 => ?_)
        · rw [if_neg hc156] at hE
          exact jn174 _ _ _ _ _ _ hE (lv_sub hl [0, 1, 2] rfl) hw hS
        · rw [if_pos hc156] at hE
          refine lv_aload_n hx hb d_Model_endHead_159 rfl (lv_at hl 0 rfl) ?_
          refine lv_bipush (v := (45 : Int32)) hx hb d_Model_endHead_160 (by decide) ?_
          refine lv_bipush (v := (103 : Int32)) hx hb d_Model_endHead_162 (by decide) ?_
          obtain ⟨r164, s164, hC164, hE⟩ := x_bind2E hE
          refine x_callS hS (W.runV (As := [.int (45 : Int32), .int (103 : Int32)]) (rest := [.ref (G.2.1 51)]) ⟨hx, hb, hml, hown, hu⟩ (t_Model_has l G s141 (45 : Int32) (103 : Int32) r164 s164 hC164) (cwV 2 hu (uw_V mw_1339 mw_1341 mw_57 mw_70 mw_1342) rfl rfl rfl hd_Model_has ⟨Nat.le_of_ble_eq_true rfl, Nat.le_of_ble_eq_true rfl⟩) (x_preV hC hS hw (va_recv hK hw (q := (R_Model, T_Model, 33)) (ci := 10) rfl (x_at (by decide) (xcl_51 G s141)))) rfl rfl hl.1 rfl (lv_room (Nat.le_of_ble_eq_true rfl)) d_Model_endHead_164 ⟨Nat.le_of_ble_eq_true rfl, Nat.le_of_ble_eq_true rfl⟩) (fun H locs hw hS => ?_)
          refine lv_if_ne (tgt := 174) hx hb d_Model_endHead_167 (by decide) (fun hc167 => ?_) (fun hc167 => ?_)
          · rw [if_neg hc167] at hE
            exact jn174 _ _ _ _ _ _ hE (lv_sub hl [0, 1, 2] rfl) hw hS
          · rw [if_pos hc167] at hE
            exact jn170 _ _ _ _ _ _ hE (lv_sub hl [0, 1, 2] rfl) hw hS
    · rw [if_neg hc128] at hE
      have e1 := Option.some.inj hE
      exact W.vret hx hb hr (fun t ht hW => ⟨rfl, by rw [ht, ← e1]; exact hw, hS.F ht⟩) hS.2.2 d_Model_endHead_131
  have jn78 : ∀ (n : Nat) (ls : Array Slot) (H : Heap) (locs : List Loc) (σ : St) (l1 : Int32) (l2 : Int32) (l3 : Int32), x_Model_endHead_78 n l1 l2 l3 σ = some σ' → lv_has ls 4 [(0, .ref (G.2.1 51)), (1, .int l1), (2, .int l2), (3, .int l3)] → xw G σ H → va_S (xA G) s.heap H locs → W p l e (headSpec (ws_Model_endHead) rm_Model_endHead).room s m ([.ref (G.2.1 51)] : List Value).toArray below meth c H locs 0 0 (MQ below (xQ G none σ') ([.ref (G.2.1 51)] : List Value).toArray s 0 0 (xA G)) (F0 m 78 ls []) := by
    intro n
    induction n with
    | zero => intro ls H locs σ l1 l2 l3 hE; rw [x_Model_endHead_78] at hE; cases hE
    | succ n ih =>
      intro ls H locs σ l1 l2 l3 hE hl hw hS
      rw [x_Model_endHead_78] at hE
      refine lv_iload_n hx hb d_Model_endHead_78 rfl (lv_at hl 3 rfl) ?_
      refine lv_aload_n hx hb d_Model_endHead_79 rfl (lv_at hl 0 rfl) ?_
      refine va_get (D := G.1) (cl := xCl) (ci := 10) (v := .int (σ.1 51 26)) (C := R_Model) (T := T_Model) (N := 33) hx hb hu fi_Model hown hK hw 51 (x_at (by decide) (xcl_51 G σ)) rfl 26 (by decide) (hu _ mw_1094) (fun _ h9 => h9) rfl d_Model_endHead_80 ?_
      refine lv_icmp_ge (tgt := 124) hx hb d_Model_endHead_83 (by decide) (fun hc83 => ?_) (fun hc83 => ?_)
      · rw [if_pos hc83] at hE
        exact jn124 _ _ _ _ _ _ hE (lv_sub hl [0, 1, 2] rfl) hw hS
      · rw [if_neg hc83] at hE
        refine lv_aload_n hx hb d_Model_endHead_86 rfl (lv_at hl 0 rfl) ?_
        refine va_get (D := G.1) (cl := xCl) (ci := 10) (v := .int (σ.1 51 15)) (C := R_Model) (T := T_Model) (N := 33) hx hb hu fi_Model hown hK hw 51 (x_at (by decide) (xcl_51 G σ)) rfl 15 (by decide) (hu _ mw_1083) (fun _ h9 => h9) rfl d_Model_endHead_87 ?_
        refine lv_if_le (tgt := 124) hx hb d_Model_endHead_90 (by decide) (fun hc90 => ?_) (fun hc90 => ?_)
        · rw [if_pos hc90] at hE
          exact jn124 _ _ _ _ _ _ hE (lv_sub hl [0, 1, 2] rfl) hw hS
        · rw [if_neg hc90] at hE
          refine lv_aload_n hx hb d_Model_endHead_93 rfl (lv_at hl 0 rfl) ?_
          refine lv_aload_n hx hb d_Model_endHead_94 rfl (lv_at hl 0 rfl) ?_
          refine lv_aload_n hx hb d_Model_endHead_95 rfl (lv_at hl 0 rfl) ?_
          refine va_get (D := G.1) (cl := xCl) (ci := 10) (v := .ref (G.2.1 63)) (C := R_Model) (T := T_Model) (N := 33) hx hb hu fi_Model hown hK hw 51 (x_at (by decide) (xcl_51 G σ)) rfl 27 (by decide) (hu _ mw_1095) (fun _ h9 => h9) rfl d_Model_endHead_96 ?_
          refine lv_iload_n hx hb d_Model_endHead_99 rfl (lv_at hl 3 rfl) ?_
          obtain ⟨g100, hE⟩ := x_guard hE
          refine va_iald hx hb hK hw 63 0 (x_at (by decide) (xcl_63 G σ)) rfl g100 d_Model_endHead_100 ?_
          refine lv_aload_n hx hb d_Model_endHead_101 rfl (lv_at hl 0 rfl) ?_
          refine va_get (D := G.1) (cl := xCl) (ci := 10) (v := .ref (G.2.1 64)) (C := R_Model) (T := T_Model) (N := 33) hx hb hu fi_Model hown hK hw 51 (x_at (by decide) (xcl_51 G σ)) rfl 28 (by decide) (hu _ mw_1096) (fun _ h9 => h9) rfl d_Model_endHead_102 ?_
          refine lv_iload_n hx hb d_Model_endHead_105 rfl (lv_at hl 3 rfl) ?_
          obtain ⟨g106, hE⟩ := x_guard hE
          refine va_iald hx hb hK hw 64 0 (x_at (by decide) (xcl_64 G σ)) rfl g106 d_Model_endHead_106 ?_
          refine lv_bipush (v := (84 : Int32)) hx hb d_Model_endHead_107 (by decide) ?_
          obtain ⟨r109, hC109, hE⟩ := x_bind hE
          refine x_callR (W.runV (As := [.int (σ.2.1 63 l3.toNatClampNeg), .int (σ.2.1 64 l3.toNatClampNeg), .int (84 : Int32)]) (rest := [.ref (G.2.1 51)]) ⟨hx, hb, hml, hown, hu⟩ (t_Model_isWord l G σ (σ.2.1 63 l3.toNatClampNeg) (σ.2.1 64 l3.toNatClampNeg) (84 : Int32) r109 hC109) (cwV 3 hu (uw_V mw_1251 mw_1253 mw_38 mw_70 mw_1254) rfl rfl rfl hd_Model_isWord ⟨Nat.le_of_ble_eq_true rfl, Nat.le_of_ble_eq_true rfl⟩) (x_preV hC hS hw (va_recv hK hw (q := (R_Model, T_Model, 33)) (ci := 10) rfl (x_at (by decide) (xcl_51 G σ)))) rfl rfl hl.1 rfl (lv_room (Nat.le_of_ble_eq_true rfl)) d_Model_endHead_109 ⟨Nat.le_of_ble_eq_true rfl, Nat.le_of_ble_eq_true rfl⟩) ?_
          refine lv_sipush (v := (417 : Int32)) hx hb d_Model_endHead_112 (by decide) ?_
          obtain ⟨s115, hC115, hE⟩ := x_bind hE
          refine x_callV hS (W.runV (As := [.int r109, .int (417 : Int32)]) (rest := []) ⟨hx, hb, hml, hown, hu⟩ (t_Model_blame l G σ r109 (417 : Int32) s115 hC115) (cwV 2 hu (uw_V mw_1279 mw_1281 mw_45 mw_70 mw_1282) rfl rfl rfl hd_Model_blame ⟨Nat.le_of_ble_eq_true rfl, Nat.le_of_ble_eq_true rfl⟩) (x_preV hC hS hw (va_recv hK hw (q := (R_Model, T_Model, 33)) (ci := 10) rfl (x_at (by decide) (xcl_51 G σ)))) rfl rfl hl.1 rfl (lv_room (Nat.le_of_ble_eq_true rfl)) d_Model_endHead_115 ⟨Nat.le_of_ble_eq_true rfl, Nat.le_of_ble_eq_true rfl⟩) (fun H locs hw hS => ?_)
          obtain ⟨v118, e118, hE⟩ := x_letE hE
          refine lv_iinc hx hb d_Model_endHead_118 hl (k := 3) rfl (x_inc v118 e118 (by decide)) (by decide) rfl (fun ls hl => ?_)
          have hl : lv_has ls 4 [(3, .int v118), (0, .ref (G.2.1 51)), (1, .int l1), (2, .int l2)] := hl
          refine lv_goto (tgt := 78) hx hb d_Model_endHead_121 (by decide) ?_
          exact ih _ _ _ _ _ _ _ hE (lv_sub hl [1, 2, 3, 0] rfl) hw hS
  have jn75 : ∀ (ls : Array Slot) (H : Heap) (locs : List Loc) (σ : St) (l1 : Int32) (k0 : Int32), x_Model_endHead_75 l1 k0 σ = some σ' → lv_has ls 4 [(0, .ref (G.2.1 51)), (1, .int l1)] → xw G σ H → va_S (xA G) s.heap H locs → W p l e (headSpec (ws_Model_endHead) rm_Model_endHead).room s m ([.ref (G.2.1 51)] : List Value).toArray below meth c H locs 0 0 (MQ below (xQ G none σ') ([.ref (G.2.1 51)] : List Value).toArray s 0 0 (xA G)) (F0 m 75 ls [.int k0]) := by
    intro ls H locs σ l1 k0 hE hl hw hS
    unfold x_Model_endHead_75 at hE
    refine lv_istore_n hx hb d_Model_endHead_75 rfl hl (by decide) rfl (fun ls hl => ?_)
    have hl : lv_has ls 4 [(2, .int k0), (0, .ref (G.2.1 51)), (1, .int l1)] := hl
    refine lv_iconst (v := (0 : Int32)) hx hb d_Model_endHead_76 (by decide) ?_
    refine lv_istore_n hx hb d_Model_endHead_77 rfl hl (by decide) rfl (fun ls hl => ?_)
    have hl : lv_has ls 4 [(3, .int (0 : Int32)), (2, .int k0), (0, .ref (G.2.1 51)), (1, .int l1)] := hl
    exact jn78 x_fuel _ _ _ _ _ _ _ hE (lv_sub hl [2, 3, 1, 0] rfl) hw hS
  have jn74 : ∀ (ls : Array Slot) (H : Heap) (locs : List Loc) (σ : St) (l1 : Int32), x_Model_endHead_74 l1 σ = some σ' → lv_has ls 4 [(0, .ref (G.2.1 51)), (1, .int l1)] → xw G σ H → va_S (xA G) s.heap H locs → W p l e (headSpec (ws_Model_endHead) rm_Model_endHead).room s m ([.ref (G.2.1 51)] : List Value).toArray below meth c H locs 0 0 (MQ below (xQ G none σ') ([.ref (G.2.1 51)] : List Value).toArray s 0 0 (xA G)) (F0 m 74 ls []) := by
    intro ls H locs σ l1 hE hl hw hS
    unfold x_Model_endHead_74 at hE
    refine lv_iconst (v := (0 : Int32)) hx hb d_Model_endHead_74 (by decide) ?_
    exact jn75 _ _ _ _ _ _ hE (lv_sub hl [0, 1] rfl) hw hS
  have jn50 : ∀ (ls : Array Slot) (H : Heap) (locs : List Loc) (σ : St) (l1 : Int32), x_Model_endHead_50 l1 σ = some σ' → lv_has ls 4 [(0, .ref (G.2.1 51)), (1, .int l1)] → xw G σ H → va_S (xA G) s.heap H locs → W p l e (headSpec (ws_Model_endHead) rm_Model_endHead).room s m ([.ref (G.2.1 51)] : List Value).toArray below meth c H locs 0 0 (MQ below (xQ G none σ') ([.ref (G.2.1 51)] : List Value).toArray s 0 0 (xA G)) (F0 m 50 ls []) := by
    intro ls H locs σ l1 hE hl hw hS
    unfold x_Model_endHead_50 at hE
    refine lv_aload_n hx hb d_Model_endHead_50 rfl (lv_at hl 0 rfl) ?_
    refine lv_bipush (v := (38 : Int32)) hx hb d_Model_endHead_51 (by decide) ?_
    obtain ⟨s53, hC53, hE⟩ := x_bind hE
    refine x_callV hS (W.runV (As := [.int (38 : Int32)]) (rest := []) ⟨hx, hb, hml, hown, hu⟩ (t_Model_list l G σ (38 : Int32) s53 hC53) (cwV 1 hu (uw_V mw_1243 mw_1245 mw_36 mw_70 mw_1246) rfl rfl rfl hd_Model_list ⟨Nat.le_of_ble_eq_true rfl, Nat.le_of_ble_eq_true rfl⟩) (x_preV hC hS hw (va_recv hK hw (q := (R_Model, T_Model, 33)) (ci := 10) rfl (x_at (by decide) (xcl_51 G σ)))) rfl rfl hl.1 rfl (lv_room (Nat.le_of_ble_eq_true rfl)) d_Model_endHead_53 ⟨Nat.le_of_ble_eq_true rfl, Nat.le_of_ble_eq_true rfl⟩) (fun H locs hw hS => ?_)
    refine lv_aload_n hx hb d_Model_endHead_56 rfl (lv_at hl 0 rfl) ?_
    refine va_get (D := G.1) (cl := xCl) (ci := 10) (v := .int (s53.1 51 15)) (C := R_Model) (T := T_Model) (N := 33) hx hb hu fi_Model hown hK hw 51 (x_at (by decide) (xcl_51 G s53)) rfl 15 (by decide) (hu _ mw_1083) (fun _ h9 => h9) rfl d_Model_endHead_57 ?_
    refine lv_if_le (tgt := 74) hx hb d_Model_endHead_60 (by decide) (fun hc60 => ?_) (fun hc60 => ?_)
    · rw [if_pos hc60] at hE
      exact jn74 _ _ _ _ _ hE (lv_sub hl [0, 1] rfl) hw hS
    · rw [if_neg hc60] at hE
      refine lv_aload_n hx hb d_Model_endHead_63 rfl (lv_at hl 0 rfl) ?_
      refine va_get (D := G.1) (cl := xCl) (ci := 10) (v := .int (s53.1 51 26)) (C := R_Model) (T := T_Model) (N := 33) hx hb hu fi_Model hown hK hw 51 (x_at (by decide) (xcl_51 G s53)) rfl 26 (by decide) (hu _ mw_1094) (fun _ h9 => h9) rfl d_Model_endHead_64 ?_
      refine lv_if_le (tgt := 74) hx hb d_Model_endHead_67 (by decide) (fun hc67 => ?_) (fun hc67 => ?_)
      · rw [if_pos hc67] at hE
        exact jn74 _ _ _ _ _ hE (lv_sub hl [0, 1] rfl) hw hS
      · rw [if_neg hc67] at hE
        refine lv_iconst (v := (1 : Int32)) hx hb d_Model_endHead_70 (by decide) ?_
        refine lv_goto (tgt := 75) hx hb d_Model_endHead_71 (by decide) ?_
        exact jn75 _ _ _ _ _ _ hE (lv_sub hl [0, 1] rfl) hw hS
  have jn25 : ∀ (ls : Array Slot) (H : Heap) (locs : List Loc) (σ : St) (k0 : Int32), x_Model_endHead_25 k0 σ = some σ' → lv_has ls 4 [(0, .ref (G.2.1 51))] → xw G σ H → va_S (xA G) s.heap H locs → W p l e (headSpec (ws_Model_endHead) rm_Model_endHead).room s m ([.ref (G.2.1 51)] : List Value).toArray below meth c H locs 0 0 (MQ below (xQ G none σ') ([.ref (G.2.1 51)] : List Value).toArray s 0 0 (xA G)) (F0 m 25 ls [.int k0]) := by
    intro ls H locs σ k0 hE hl hw hS
    unfold x_Model_endHead_25 at hE
    refine lv_istore_n hx hb d_Model_endHead_25 rfl hl (by decide) rfl (fun ls hl => ?_)
    have hl : lv_has ls 4 [(1, .int k0), (0, .ref (G.2.1 51))] := hl
    refine lv_iload_n hx hb d_Model_endHead_26 rfl (lv_at hl 0 rfl) ?_
    refine lv_if_eq (tgt := 37) hx hb d_Model_endHead_27 (by decide) (fun hc27 => ?_) (fun hc27 => ?_)
    · rw [if_pos hc27] at hE
      refine lv_aload_n hx hb d_Model_endHead_37 rfl (lv_at hl 1 rfl) ?_
      refine lv_bipush (v := (23 : Int32)) hx hb d_Model_endHead_38 (by decide) ?_
      obtain ⟨r40, hC40, hE⟩ := x_bind hE
      refine x_callR (W.runV (As := [.int (23 : Int32)]) (rest := []) ⟨hx, hb, hml, hown, hu⟩ (t_Model_count l G σ (23 : Int32) r40 hC40) (cwV 1 hu (uw_V mw_1267 mw_1269 mw_42 mw_70 mw_1270) rfl rfl rfl hd_Model_count ⟨Nat.le_of_ble_eq_true rfl, Nat.le_of_ble_eq_true rfl⟩) (x_preV hC hS hw (va_recv hK hw (q := (R_Model, T_Model, 33)) (ci := 10) rfl (x_at (by decide) (xcl_51 G σ)))) rfl rfl hl.1 rfl (lv_room (Nat.le_of_ble_eq_true rfl)) d_Model_endHead_40 ⟨Nat.le_of_ble_eq_true rfl, Nat.le_of_ble_eq_true rfl⟩) ?_
      refine lv_if_le (tgt := 50) hx hb d_Model_endHead_43 (by decide) (fun hc43 => ?_) (fun hc43 => ?_)
      · rw [if_pos hc43] at hE
        exact jn50 _ _ _ _ _ hE (lv_sub hl [1, 0] rfl) hw hS
      · rw [if_neg hc43] at hE
        refine lv_aload_n hx hb d_Model_endHead_46 rfl (lv_at hl 1 rfl) ?_
        obtain ⟨s47, hC47, hE⟩ := x_bind hE
        refine x_callV hS (W.runV (As := []) (rest := []) ⟨hx, hb, hml, hown, hu⟩ (t_Model_checkLength l G σ s47 hC47) (cwV 0 hu (uw_V mw_1335 mw_1337 mw_56 mw_70 mw_1338) rfl rfl rfl hd_Model_checkLength ⟨Nat.le_of_ble_eq_true rfl, Nat.le_of_ble_eq_true rfl⟩) (x_preV hC hS hw (va_recv hK hw (q := (R_Model, T_Model, 33)) (ci := 10) rfl (x_at (by decide) (xcl_51 G σ)))) rfl rfl hl.1 rfl (lv_room (Nat.le_of_ble_eq_true rfl)) d_Model_endHead_47 ⟨Nat.le_of_ble_eq_true rfl, Nat.le_of_ble_eq_true rfl⟩) (fun H locs hw hS => ?_)
        exact jn50 _ _ _ _ _ hE (lv_sub hl [1, 0] rfl) hw hS
    · rw [if_neg hc27] at hE
      refine lv_aload_n hx hb d_Model_endHead_30 rfl (lv_at hl 1 rfl) ?_
      obtain ⟨s31, hC31, hE⟩ := x_bind hE
      refine x_callV hS (W.runV (As := []) (rest := []) ⟨hx, hb, hml, hown, hu⟩ (t_Model_checkCoding l G σ s31 hC31) (cwV 0 hu (uw_V mw_1331 mw_1333 mw_55 mw_70 mw_1334) rfl rfl rfl hd_Model_checkCoding ⟨Nat.le_of_ble_eq_true rfl, Nat.le_of_ble_eq_true rfl⟩) (x_preV hC hS hw (va_recv hK hw (q := (R_Model, T_Model, 33)) (ci := 10) rfl (x_at (by decide) (xcl_51 G σ)))) rfl rfl hl.1 rfl (lv_room (Nat.le_of_ble_eq_true rfl)) d_Model_endHead_31 ⟨Nat.le_of_ble_eq_true rfl, Nat.le_of_ble_eq_true rfl⟩) (fun H locs hw hS => ?_)
      refine lv_goto (tgt := 50) hx hb d_Model_endHead_34 (by decide) ?_
      exact jn50 _ _ _ _ _ hE (lv_sub hl [1, 0] rfl) hw hS
  have hl := lv_entry ([.ref (G.2.1 51)]) (n := 4) (Nat.le_of_ble_eq_true rfl)
  rw [lg_entry_eq]
  generalize (lg_sl ([.ref (G.2.1 51)]) ++ List.replicate (4 - (lg_sl ([.ref (G.2.1 51)])).length) Slot.unset).toArray = ls at hl ⊢
  have hl : lv_has ls 4 [(0, .ref (G.2.1 51))] := hl
  unfold x_Model_endHead at hE
  refine lv_aload_n hx hb d_Model_endHead_0 rfl (lv_at hl 0 rfl) ?_
  obtain ⟨s1, hC1, hE⟩ := x_bind hE
  refine x_callV hS (W.runV (As := []) (rest := []) ⟨hx, hb, hml, hown, hu⟩ (t_Model_checkHost l G σ s1 hC1) (cwV 0 hu (uw_V mw_1327 mw_1329 mw_54 mw_70 mw_1330) rfl rfl rfl hd_Model_checkHost ⟨Nat.le_of_ble_eq_true rfl, Nat.le_of_ble_eq_true rfl⟩) (x_preV hC hS hw (va_recv hK hw (q := (R_Model, T_Model, 33)) (ci := 10) rfl (x_at (by decide) (xcl_51 G σ)))) rfl rfl hl.1 rfl (lv_room (Nat.le_of_ble_eq_true rfl)) d_Model_endHead_1 ⟨Nat.le_of_ble_eq_true rfl, Nat.le_of_ble_eq_true rfl⟩) (fun H locs hw hS => ?_)
  refine lv_aload_n hx hb d_Model_endHead_4 rfl (lv_at hl 0 rfl) ?_
  refine va_get (D := G.1) (cl := xCl) (ci := 10) (v := .int (s1.1 51 25)) (C := R_Model) (T := T_Model) (N := 33) hx hb hu fi_Model hown hK hw 51 (x_at (by decide) (xcl_51 G s1)) rfl 25 (by decide) (hu _ mw_1093) (fun _ h9 => h9) rfl d_Model_endHead_5 ?_
  refine lv_if_le (tgt := 12) hx hb d_Model_endHead_8 (by decide) (fun hc8 => ?_) (fun hc8 => ?_)
  · rw [if_pos hc8] at hE
    refine lv_aload_n hx hb d_Model_endHead_12 rfl (lv_at hl 0 rfl) ?_
    refine lv_iconst (v := (5 : Int32)) hx hb d_Model_endHead_13 (by decide) ?_
    obtain ⟨r14, hC14, hE⟩ := x_bind hE
    refine x_callR (W.runV (As := [.int (5 : Int32)]) (rest := []) ⟨hx, hb, hml, hown, hu⟩ (t_Model_count l G s1 (5 : Int32) r14 hC14) (cwV 1 hu (uw_V mw_1267 mw_1269 mw_42 mw_70 mw_1270) rfl rfl rfl hd_Model_count ⟨Nat.le_of_ble_eq_true rfl, Nat.le_of_ble_eq_true rfl⟩) (x_preV hC hS hw (va_recv hK hw (q := (R_Model, T_Model, 33)) (ci := 10) rfl (x_at (by decide) (xcl_51 G s1)))) rfl rfl hl.1 rfl (lv_room (Nat.le_of_ble_eq_true rfl)) d_Model_endHead_14 ⟨Nat.le_of_ble_eq_true rfl, Nat.le_of_ble_eq_true rfl⟩) ?_
    refine lv_if_le (tgt := 24) hx hb d_Model_endHead_17 (by decide) (fun hc17 => ?_) (fun hc17 => ?_)
    · rw [if_pos hc17] at hE
      refine lv_iconst (v := (0 : Int32)) hx hb d_Model_endHead_24 (by decide) ?_
      exact jn25 _ _ _ _ _ hE (lv_sub hl [0] rfl) hw hS
    · rw [if_neg hc17] at hE
      refine lv_iconst (v := (1 : Int32)) hx hb d_Model_endHead_20 (by decide) ?_
      refine lv_goto (tgt := 25) hx hb d_Model_endHead_21 (by decide) ?_
      exact jn25 _ _ _ _ _ hE (lv_sub hl [0] rfl) hw hS
  · rw [if_neg hc8] at hE
    have e1 := Option.some.inj hE
    exact W.vret hx hb hr (fun t ht hW => ⟨rfl, by rw [ht, ← e1]; exact hw, hS.F ht⟩) hS.2.2 d_Model_endHead_11

def y_Model_takeChunkLine : MethodName := ⟨"PlainOriginModel", "takeChunkLine", "()V"⟩
def ws_Model_takeChunkLine : List Cond := Cond.code y_Model_takeChunkLine prog_14_method_34_code 4 none :: UW
theorem hd_Model_takeChunkLine : y_Model_takeChunkLine.cls = R_Model ∧ y_Model_takeChunkLine.cls ≠ "java/lang/invoke/MethodHandle" ∧ y_Model_takeChunkLine.cls ≠ "java/lang/invoke/VarHandle" ∧ (parseMethodDescriptor y_Model_takeChunkLine.desc).map (fun d => d.parameters.length) = some 0 := by decide +kernel
theorem d_Model_takeChunkLine_0 : decode prog_14_method_34_code 0 = .ok (.aload_n 0, 1) := by decide +kernel
theorem d_Model_takeChunkLine_1 : decode prog_14_method_34_code 1 = .ok (.bipush (59), 2) := by decide +kernel
theorem d_Model_takeChunkLine_3 : decode prog_14_method_34_code 3 = .ok (.iconst 0, 1) := by decide +kernel
theorem d_Model_takeChunkLine_4 : decode prog_14_method_34_code 4 = .ok (.invokevirtual 231, 3) := by decide +kernel
theorem d_Model_takeChunkLine_7 : decode prog_14_method_34_code 7 = .ok (.istore_n 1, 1) := by decide +kernel
theorem d_Model_takeChunkLine_8 : decode prog_14_method_34_code 8 = .ok (.aload_n 0, 1) := by decide +kernel
theorem d_Model_takeChunkLine_9 : decode prog_14_method_34_code 9 = .ok (.iload_n 1, 1) := by decide +kernel
theorem d_Model_takeChunkLine_10 : decode prog_14_method_34_code 10 = .ok (.ifCond .le (12), 3) := by decide +kernel
theorem d_Model_takeChunkLine_13 : decode prog_14_method_34_code 13 = .ok (.iload_n 1, 1) := by decide +kernel
theorem d_Model_takeChunkLine_14 : decode prog_14_method_34_code 14 = .ok (.iconst 4, 1) := by decide +kernel
theorem d_Model_takeChunkLine_15 : decode prog_14_method_34_code 15 = .ok (.if_icmp .ge (7), 3) := by decide +kernel
theorem d_Model_takeChunkLine_18 : decode prog_14_method_34_code 18 = .ok (.iconst 1, 1) := by decide +kernel
theorem d_Model_takeChunkLine_19 : decode prog_14_method_34_code 19 = .ok (.goto (4), 3) := by decide +kernel
theorem d_Model_takeChunkLine_22 : decode prog_14_method_34_code 22 = .ok (.iconst 0, 1) := by decide +kernel
theorem d_Model_takeChunkLine_23 : decode prog_14_method_34_code 23 = .ok (.sipush (400), 3) := by decide +kernel
theorem d_Model_takeChunkLine_26 : decode prog_14_method_34_code 26 = .ok (.invokevirtual 194, 3) := by decide +kernel
theorem d_Model_takeChunkLine_29 : decode prog_14_method_34_code 29 = .ok (.iconst 0, 1) := by decide +kernel
theorem d_Model_takeChunkLine_30 : decode prog_14_method_34_code 30 = .ok (.istore_n 2, 1) := by decide +kernel
theorem d_Model_takeChunkLine_31 : decode prog_14_method_34_code 31 = .ok (.iconst 0, 1) := by decide +kernel
theorem d_Model_takeChunkLine_32 : decode prog_14_method_34_code 32 = .ok (.istore_n 3, 1) := by decide +kernel
theorem d_Model_takeChunkLine_33 : decode prog_14_method_34_code 33 = .ok (.iload_n 3, 1) := by decide +kernel
theorem d_Model_takeChunkLine_34 : decode prog_14_method_34_code 34 = .ok (.aload_n 0, 1) := by decide +kernel
theorem d_Model_takeChunkLine_35 : decode prog_14_method_34_code 35 = .ok (.getfield 201, 3) := by decide +kernel
theorem d_Model_takeChunkLine_38 : decode prog_14_method_34_code 38 = .ok (.if_icmp .ge (81), 3) := by decide +kernel
theorem d_Model_takeChunkLine_41 : decode prog_14_method_34_code 41 = .ok (.aload_n 0, 1) := by decide +kernel
theorem d_Model_takeChunkLine_42 : decode prog_14_method_34_code 42 = .ok (.iload_n 3, 1) := by decide +kernel
theorem d_Model_takeChunkLine_43 : decode prog_14_method_34_code 43 = .ok (.iload_n 1, 1) := by decide +kernel
theorem d_Model_takeChunkLine_44 : decode prog_14_method_34_code 44 = .ok (.if_icmp .ge (23), 3) := by decide +kernel
theorem d_Model_takeChunkLine_47 : decode prog_14_method_34_code 47 = .ok (.aload_n 0, 1) := by decide +kernel
theorem d_Model_takeChunkLine_48 : decode prog_14_method_34_code 48 = .ok (.getfield 105, 3) := by decide +kernel
theorem d_Model_takeChunkLine_51 : decode prog_14_method_34_code 51 = .ok (.iload_n 3, 1) := by decide +kernel
theorem d_Model_takeChunkLine_52 : decode prog_14_method_34_code 52 = .ok (.iaload, 1) := by decide +kernel
theorem d_Model_takeChunkLine_53 : decode prog_14_method_34_code 53 = .ok (.invokestatic 219, 3) := by decide +kernel
theorem d_Model_takeChunkLine_56 : decode prog_14_method_34_code 56 = .ok (.ifCond .lt (7), 3) := by decide +kernel
theorem d_Model_takeChunkLine_59 : decode prog_14_method_34_code 59 = .ok (.iconst 1, 1) := by decide +kernel
theorem d_Model_takeChunkLine_60 : decode prog_14_method_34_code 60 = .ok (.goto (16), 3) := by decide +kernel
theorem d_Model_takeChunkLine_63 : decode prog_14_method_34_code 63 = .ok (.iconst 0, 1) := by decide +kernel
theorem d_Model_takeChunkLine_64 : decode prog_14_method_34_code 64 = .ok (.goto (12), 3) := by decide +kernel
theorem d_Model_takeChunkLine_67 : decode prog_14_method_34_code 67 = .ok (.aload_n 0, 1) := by decide +kernel
theorem d_Model_takeChunkLine_68 : decode prog_14_method_34_code 68 = .ok (.getfield 105, 3) := by decide +kernel
theorem d_Model_takeChunkLine_71 : decode prog_14_method_34_code 71 = .ok (.iload_n 3, 1) := by decide +kernel
theorem d_Model_takeChunkLine_72 : decode prog_14_method_34_code 72 = .ok (.iaload, 1) := by decide +kernel
theorem d_Model_takeChunkLine_73 : decode prog_14_method_34_code 73 = .ok (.invokestatic 248, 3) := by decide +kernel
theorem d_Model_takeChunkLine_76 : decode prog_14_method_34_code 76 = .ok (.sipush (400), 3) := by decide +kernel
theorem d_Model_takeChunkLine_79 : decode prog_14_method_34_code 79 = .ok (.invokevirtual 194, 3) := by decide +kernel
theorem d_Model_takeChunkLine_82 : decode prog_14_method_34_code 82 = .ok (.iload_n 3, 1) := by decide +kernel
theorem d_Model_takeChunkLine_83 : decode prog_14_method_34_code 83 = .ok (.iload_n 1, 1) := by decide +kernel
theorem d_Model_takeChunkLine_84 : decode prog_14_method_34_code 84 = .ok (.if_icmp .ge (27), 3) := by decide +kernel
theorem d_Model_takeChunkLine_87 : decode prog_14_method_34_code 87 = .ok (.aload_n 0, 1) := by decide +kernel
theorem d_Model_takeChunkLine_88 : decode prog_14_method_34_code 88 = .ok (.getfield 162, 3) := by decide +kernel
theorem d_Model_takeChunkLine_91 : decode prog_14_method_34_code 91 = .ok (.ifCond .ne (20), 3) := by decide +kernel
theorem d_Model_takeChunkLine_94 : decode prog_14_method_34_code 94 = .ok (.bipush (16), 2) := by decide +kernel
theorem d_Model_takeChunkLine_96 : decode prog_14_method_34_code 96 = .ok (.iload_n 2, 1) := by decide +kernel
theorem d_Model_takeChunkLine_97 : decode prog_14_method_34_code 97 = .ok (.imul, 1) := by decide +kernel
theorem d_Model_takeChunkLine_98 : decode prog_14_method_34_code 98 = .ok (.aload_n 0, 1) := by decide +kernel
theorem d_Model_takeChunkLine_99 : decode prog_14_method_34_code 99 = .ok (.getfield 105, 3) := by decide +kernel
theorem d_Model_takeChunkLine_102 : decode prog_14_method_34_code 102 = .ok (.iload_n 3, 1) := by decide +kernel
theorem d_Model_takeChunkLine_103 : decode prog_14_method_34_code 103 = .ok (.iaload, 1) := by decide +kernel
theorem d_Model_takeChunkLine_104 : decode prog_14_method_34_code 104 = .ok (.invokestatic 219, 3) := by decide +kernel
theorem d_Model_takeChunkLine_107 : decode prog_14_method_34_code 107 = .ok (.iadd, 1) := by decide +kernel
theorem d_Model_takeChunkLine_108 : decode prog_14_method_34_code 108 = .ok (.goto (4), 3) := by decide +kernel
theorem d_Model_takeChunkLine_111 : decode prog_14_method_34_code 111 = .ok (.iload_n 2, 1) := by decide +kernel
theorem d_Model_takeChunkLine_112 : decode prog_14_method_34_code 112 = .ok (.istore_n 2, 1) := by decide +kernel
theorem d_Model_takeChunkLine_113 : decode prog_14_method_34_code 113 = .ok (.iinc 3 (1), 3) := by decide +kernel
theorem d_Model_takeChunkLine_116 : decode prog_14_method_34_code 116 = .ok (.goto (-83), 3) := by decide +kernel
theorem d_Model_takeChunkLine_119 : decode prog_14_method_34_code 119 = .ok (.aload_n 0, 1) := by decide +kernel
theorem d_Model_takeChunkLine_120 : decode prog_14_method_34_code 120 = .ok (.aload_n 0, 1) := by decide +kernel
theorem d_Model_takeChunkLine_121 : decode prog_14_method_34_code 121 = .ok (.getfield 185, 3) := by decide +kernel
theorem d_Model_takeChunkLine_124 : decode prog_14_method_34_code 124 = .ok (.iload_n 2, 1) := by decide +kernel
theorem d_Model_takeChunkLine_125 : decode prog_14_method_34_code 125 = .ok (.iadd, 1) := by decide +kernel
theorem d_Model_takeChunkLine_126 : decode prog_14_method_34_code 126 = .ok (.sipush (200), 3) := by decide +kernel
theorem d_Model_takeChunkLine_129 : decode prog_14_method_34_code 129 = .ok (.if_icmp .gt (7), 3) := by decide +kernel
theorem d_Model_takeChunkLine_132 : decode prog_14_method_34_code 132 = .ok (.iconst 1, 1) := by decide +kernel
theorem d_Model_takeChunkLine_133 : decode prog_14_method_34_code 133 = .ok (.goto (4), 3) := by decide +kernel
theorem d_Model_takeChunkLine_136 : decode prog_14_method_34_code 136 = .ok (.iconst 0, 1) := by decide +kernel
theorem d_Model_takeChunkLine_137 : decode prog_14_method_34_code 137 = .ok (.sipush (413), 3) := by decide +kernel
theorem d_Model_takeChunkLine_140 : decode prog_14_method_34_code 140 = .ok (.invokevirtual 194, 3) := by decide +kernel
theorem d_Model_takeChunkLine_143 : decode prog_14_method_34_code 143 = .ok (.aload_n 0, 1) := by decide +kernel
theorem d_Model_takeChunkLine_144 : decode prog_14_method_34_code 144 = .ok (.iload_n 2, 1) := by decide +kernel
theorem d_Model_takeChunkLine_145 : decode prog_14_method_34_code 145 = .ok (.putfield 182, 3) := by decide +kernel
theorem d_Model_takeChunkLine_148 : decode prog_14_method_34_code 148 = .ok (.aload_n 0, 1) := by decide +kernel
theorem d_Model_takeChunkLine_149 : decode prog_14_method_34_code 149 = .ok (.iload_n 2, 1) := by decide +kernel
theorem d_Model_takeChunkLine_150 : decode prog_14_method_34_code 150 = .ok (.ifCond .le (7), 3) := by decide +kernel
theorem d_Model_takeChunkLine_153 : decode prog_14_method_34_code 153 = .ok (.iconst 4, 1) := by decide +kernel
theorem d_Model_takeChunkLine_154 : decode prog_14_method_34_code 154 = .ok (.goto (4), 3) := by decide +kernel
theorem d_Model_takeChunkLine_157 : decode prog_14_method_34_code 157 = .ok (.iconst 5, 1) := by decide +kernel
theorem d_Model_takeChunkLine_158 : decode prog_14_method_34_code 158 = .ok (.putfield 179, 3) := by decide +kernel
theorem d_Model_takeChunkLine_161 : decode prog_14_method_34_code 161 = .ok (.return_, 1) := by decide +kernel
def x_Model_takeChunkLine_137 (l2 : Int32) (k0 : Int32) (σ : St) : Option St := (Option.bind (x_Model_blame k0 (413 : Int32) σ) (fun s140 => (x_let (x_updR s140 51 21 l2) (fun (s145 : St) => (if l2 ≤ 0 then (x_let (x_updR s145 51 8 (5 : Int32)) (fun (s158 : St) => some s158)) else (x_let (x_updR s145 51 8 (4 : Int32)) (fun (s158 : St) => some s158)))))))
def x_Model_takeChunkLine_112 (bk33 : Int32 → Int32 → Int32 → St → Option St) (l1 : Int32) (l3 : Int32) (k0 : Int32) (σ : St) : Option St := (x_let (l3 + (1 : Int32)) (fun (v113 : Int32) => bk33 l1 k0 v113 σ))
def x_Model_takeChunkLine_111 (bk33 : Int32 → Int32 → Int32 → St → Option St) (l1 : Int32) (l2 : Int32) (l3 : Int32) (σ : St) : Option St := x_Model_takeChunkLine_112 bk33 l1 l3 l2 σ
def x_Model_takeChunkLine_76 (bk33 : Int32 → Int32 → Int32 → St → Option St) (l1 : Int32) (l2 : Int32) (l3 : Int32) (k0 : Int32) (σ : St) : Option St := (Option.bind (x_Model_blame k0 (400 : Int32) σ) (fun s79 => (if l1 ≤ l3 then x_Model_takeChunkLine_111 bk33 l1 l2 l3 s79 else (if (s79.1 51 25) = 0 then (if x_in l3 80 then (Option.bind (x_Model_hexOf (s79.2.1 57 l3.toNatClampNeg)) (fun r104 => x_Model_takeChunkLine_112 bk33 l1 l3 (((16 : Int32) * l2) + r104) s79)) else none) else x_Model_takeChunkLine_111 bk33 l1 l2 l3 s79))))
def x_Model_takeChunkLine_33 : Nat → Int32 → Int32 → Int32 → St → Option St
  | 0, _, _, _, _ => none
  | n + 1, l1, l2, l3, σ => (if (σ.1 51 10) ≤ l3 then (if (200 : Int32) < ((σ.1 51 22) + l2) then x_Model_takeChunkLine_137 l2 (0 : Int32) σ else x_Model_takeChunkLine_137 l2 (1 : Int32) σ) else (if l1 ≤ l3 then (if x_in l3 80 then (Option.bind (x_Model_isShown (σ.2.1 57 l3.toNatClampNeg)) (fun r73 => x_Model_takeChunkLine_76 (x_Model_takeChunkLine_33 n) l1 l2 l3 r73 σ)) else none) else (if x_in l3 80 then (Option.bind (x_Model_hexOf (σ.2.1 57 l3.toNatClampNeg)) (fun r53 => (if r53 < 0 then x_Model_takeChunkLine_76 (x_Model_takeChunkLine_33 n) l1 l2 l3 (0 : Int32) σ else x_Model_takeChunkLine_76 (x_Model_takeChunkLine_33 n) l1 l2 l3 (1 : Int32) σ))) else none)))
def x_Model_takeChunkLine_23 (l1 : Int32) (k0 : Int32) (σ : St) : Option St := (Option.bind (x_Model_blame k0 (400 : Int32) σ) (fun s26 => x_Model_takeChunkLine_33 x_fuel l1 (0 : Int32) (0 : Int32) s26))
def x_Model_takeChunkLine_22 (l1 : Int32) (σ : St) : Option St := x_Model_takeChunkLine_23 l1 (0 : Int32) σ
def x_Model_takeChunkLine (σ : St) : Option St := (Option.bind (x_Model_find (59 : Int32) (0 : Int32) σ) (fun r4 => (if r4 ≤ 0 then x_Model_takeChunkLine_22 r4 σ else (if (4 : Int32) ≤ r4 then x_Model_takeChunkLine_22 r4 σ else x_Model_takeChunkLine_23 r4 (1 : Int32) σ))))
abbrev rm_Model_takeChunkLine : Room := { frames := 3, cells := 0, slots := 0, locals := 62 }
set_option maxHeartbeats 4000000 in
set_option maxRecDepth 100000 in
theorem t_Model_takeChunkLine (l : Launch) (G : xG) (σ : St) (σ' : St) (hE : x_Model_takeChunkLine σ = some σ') : Met l y_Model_takeChunkLine (ws_Model_takeChunkLine) rm_Model_takeChunkLine (xP G σ [.ref (G.2.1 51)]) (xQ G none σ') 0 0 (xA G) := by
  refine Met.ofW (cc := prog_14_method_34_code) (maxL := 4) (ret := none) (by decide) rfl ?_
  intro p e s m args below meth c s₁ B hml hv
  obtain ⟨rfl, hw, hC⟩ := hv
  have hx := B.exec
  have hb := B.bytes
  have hr := B.returns
  have hu : ∀ w ∈ UW, w.before _ s = true := fun w h => atoms_spec B.pre w (List.mem_cons_of_mem _ h)
  have hown : s.vm.findClass R_Model = some m.cls := findClass_of_methodNamed B.named
  have hlocks := B.notSynchronized
  have hK := hC.1
  have hI := hC.2.1
  have hG := hC.2.2.1
  have hN := hC.2.2.2
  have hS : va_S (xA G) s.heap s.heap [] := va_S.rf
  have jn137 : ∀ (ls : Array Slot) (H : Heap) (locs : List Loc) (σ : St) (l2 : Int32) (k0 : Int32), x_Model_takeChunkLine_137 l2 k0 σ = some σ' → lv_has ls 4 [(0, .ref (G.2.1 51)), (2, .int l2)] → xw G σ H → va_S (xA G) s.heap H locs → W p l e (headSpec (ws_Model_takeChunkLine) rm_Model_takeChunkLine).room s m ([.ref (G.2.1 51)] : List Value).toArray below meth c H locs 0 0 (MQ below (xQ G none σ') ([.ref (G.2.1 51)] : List Value).toArray s 0 0 (xA G)) (F0 m 137 ls [.int k0, .ref (G.2.1 51)]) := by
    intro ls H locs σ l2 k0 hE hl hw hS
    unfold x_Model_takeChunkLine_137 at hE
    refine lv_sipush (v := (413 : Int32)) hx hb d_Model_takeChunkLine_137 (by decide) ?_
    obtain ⟨s140, hC140, hE⟩ := x_bind hE
    refine x_callV hS (W.runV (As := [.int k0, .int (413 : Int32)]) (rest := []) ⟨hx, hb, hml, hown, hu⟩ (t_Model_blame l G σ k0 (413 : Int32) s140 hC140) (cwV 2 hu (uw_V mw_1279 mw_1281 mw_45 mw_70 mw_1282) rfl rfl rfl hd_Model_blame ⟨Nat.le_of_ble_eq_true rfl, Nat.le_of_ble_eq_true rfl⟩) (x_preV hC hS hw (va_recv hK hw (q := (R_Model, T_Model, 33)) (ci := 10) rfl (x_at (by decide) (xcl_51 G σ)))) rfl rfl hl.1 rfl (lv_room (Nat.le_of_ble_eq_true rfl)) d_Model_takeChunkLine_140 ⟨Nat.le_of_ble_eq_true rfl, Nat.le_of_ble_eq_true rfl⟩) (fun H locs hw hS => ?_)
    refine lv_aload_n hx hb d_Model_takeChunkLine_143 rfl (lv_at hl 0 rfl) ?_
    refine lv_iload_n hx hb d_Model_takeChunkLine_144 rfl (lv_at hl 1 rfl) ?_
    refine va_put (D := G.1) (cl := xCl) (ci := 10) (v := .int l2) (ty := .int) (C := R_Model) (T := T_Model) (N := 33) hx hb hu fi_Model ty_Model tyok_Model nm_Model hown hK hw (x_D hI _) hS 51 (x_at (by decide) (xcl_51 G s140)) rfl 21 (by decide) (hu _ mw_1089) (fun _ h9 => h9) rfl (tyok_Model 21 (by decide)) rfl rfl (Nat.le_of_ble_eq_true rfl) d_Model_takeChunkLine_145 (fun H locs hw _ hS => ?_)
    replace hw := x_setR hw (by decide) rfl
    obtain ⟨s145, e145, hE⟩ := x_letE hE
    rw [← e145] at hw
    refine lv_aload_n hx hb d_Model_takeChunkLine_148 rfl (lv_at hl 0 rfl) ?_
    refine lv_iload_n hx hb d_Model_takeChunkLine_149 rfl (lv_at hl 1 rfl) ?_
    refine lv_if_le (tgt := 157) hx hb d_Model_takeChunkLine_150 (by decide) (fun hc150 => ?_) (fun hc150 => ?_)
    · rw [if_pos hc150] at hE
      refine lv_iconst (v := (5 : Int32)) hx hb d_Model_takeChunkLine_157 (by decide) ?_
      refine va_put (D := G.1) (cl := xCl) (ci := 10) (v := .int (5 : Int32)) (ty := .int) (C := R_Model) (T := T_Model) (N := 33) hx hb hu fi_Model ty_Model tyok_Model nm_Model hown hK hw (x_D hI _) hS 51 (x_at (by decide) (xcl_51 G s145)) rfl 8 (by decide) (hu _ mw_1076) (fun _ h9 => h9) rfl (tyok_Model 8 (by decide)) rfl rfl (Nat.le_of_ble_eq_true rfl) d_Model_takeChunkLine_158 (fun H locs hw _ hS => ?_)
      replace hw := x_setR hw (by decide) rfl
      obtain ⟨s158, e158, hE⟩ := x_letE hE
      rw [← e158] at hw
      have e1 := Option.some.inj hE
      exact W.vret hx hb hr (fun t ht hW => ⟨rfl, by rw [ht, ← e1]; exact hw, hS.F ht⟩) hS.2.2 d_Model_takeChunkLine_161
    · rw [if_neg hc150] at hE
      refine lv_iconst (v := (4 : Int32)) hx hb d_Model_takeChunkLine_153 (by decide) ?_
      refine lv_goto (tgt := 158) hx hb d_Model_takeChunkLine_154 (by decide) ?_
      refine va_put (D := G.1) (cl := xCl) (ci := 10) (v := .int (4 : Int32)) (ty := .int) (C := R_Model) (T := T_Model) (N := 33) hx hb hu fi_Model ty_Model tyok_Model nm_Model hown hK hw (x_D hI _) hS 51 (x_at (by decide) (xcl_51 G s145)) rfl 8 (by decide) (hu _ mw_1076) (fun _ h9 => h9) rfl (tyok_Model 8 (by decide)) rfl rfl (Nat.le_of_ble_eq_true rfl) d_Model_takeChunkLine_158 (fun H locs hw _ hS => ?_)
      replace hw := x_setR hw (by decide) rfl
      obtain ⟨s158, e158, hE⟩ := x_letE hE
      rw [← e158] at hw
      have e1 := Option.some.inj hE
      exact W.vret hx hb hr (fun t ht hW => ⟨rfl, by rw [ht, ← e1]; exact hw, hS.F ht⟩) hS.2.2 d_Model_takeChunkLine_161
  have jn112 : ∀ (bk33 : Int32 → Int32 → Int32 → St → Option St) (hbk33 : ∀ (ls : Array Slot) (H : Heap) (locs : List Loc) (σ : St) (l1 : Int32) (l2 : Int32) (l3 : Int32), bk33 l1 l2 l3 σ = some σ' → lv_has ls 4 [(0, .ref (G.2.1 51)), (1, .int l1), (2, .int l2), (3, .int l3)] → xw G σ H → va_S (xA G) s.heap H locs → W p l e (headSpec (ws_Model_takeChunkLine) rm_Model_takeChunkLine).room s m ([.ref (G.2.1 51)] : List Value).toArray below meth c H locs 0 0 (MQ below (xQ G none σ') ([.ref (G.2.1 51)] : List Value).toArray s 0 0 (xA G)) (F0 m 33 ls [])) (ls : Array Slot) (H : Heap) (locs : List Loc) (σ : St) (l1 : Int32) (l3 : Int32) (k0 : Int32), x_Model_takeChunkLine_112 bk33 l1 l3 k0 σ = some σ' → lv_has ls 4 [(0, .ref (G.2.1 51)), (1, .int l1), (3, .int l3)] → xw G σ H → va_S (xA G) s.heap H locs → W p l e (headSpec (ws_Model_takeChunkLine) rm_Model_takeChunkLine).room s m ([.ref (G.2.1 51)] : List Value).toArray below meth c H locs 0 0 (MQ below (xQ G none σ') ([.ref (G.2.1 51)] : List Value).toArray s 0 0 (xA G)) (F0 m 112 ls [.int k0]) := by
    intro bk33 hbk33 ls H locs σ l1 l3 k0 hE hl hw hS
    unfold x_Model_takeChunkLine_112 at hE
    refine lv_istore_n hx hb d_Model_takeChunkLine_112 rfl hl (by decide) rfl (fun ls hl => ?_)
    have hl : lv_has ls 4 [(2, .int k0), (0, .ref (G.2.1 51)), (1, .int l1), (3, .int l3)] := hl
    obtain ⟨v113, e113, hE⟩ := x_letE hE
    refine lv_iinc hx hb d_Model_takeChunkLine_113 hl (k := 3) rfl (x_inc v113 e113 (by decide)) (by decide) rfl (fun ls hl => ?_)
    have hl : lv_has ls 4 [(3, .int v113), (2, .int k0), (0, .ref (G.2.1 51)), (1, .int l1)] := hl
    refine lv_goto (tgt := 33) hx hb d_Model_takeChunkLine_116 (by decide) ?_
    exact hbk33 _ _ _ _ _ _ _ hE (lv_sub hl [2, 3, 1, 0] rfl) hw hS
  have jn111 : ∀ (bk33 : Int32 → Int32 → Int32 → St → Option St) (hbk33 : ∀ (ls : Array Slot) (H : Heap) (locs : List Loc) (σ : St) (l1 : Int32) (l2 : Int32) (l3 : Int32), bk33 l1 l2 l3 σ = some σ' → lv_has ls 4 [(0, .ref (G.2.1 51)), (1, .int l1), (2, .int l2), (3, .int l3)] → xw G σ H → va_S (xA G) s.heap H locs → W p l e (headSpec (ws_Model_takeChunkLine) rm_Model_takeChunkLine).room s m ([.ref (G.2.1 51)] : List Value).toArray below meth c H locs 0 0 (MQ below (xQ G none σ') ([.ref (G.2.1 51)] : List Value).toArray s 0 0 (xA G)) (F0 m 33 ls [])) (ls : Array Slot) (H : Heap) (locs : List Loc) (σ : St) (l1 : Int32) (l2 : Int32) (l3 : Int32), x_Model_takeChunkLine_111 bk33 l1 l2 l3 σ = some σ' → lv_has ls 4 [(0, .ref (G.2.1 51)), (1, .int l1), (2, .int l2), (3, .int l3)] → xw G σ H → va_S (xA G) s.heap H locs → W p l e (headSpec (ws_Model_takeChunkLine) rm_Model_takeChunkLine).room s m ([.ref (G.2.1 51)] : List Value).toArray below meth c H locs 0 0 (MQ below (xQ G none σ') ([.ref (G.2.1 51)] : List Value).toArray s 0 0 (xA G)) (F0 m 111 ls []) := by
    intro bk33 hbk33 ls H locs σ l1 l2 l3 hE hl hw hS
    unfold x_Model_takeChunkLine_111 at hE
    refine lv_iload_n hx hb d_Model_takeChunkLine_111 rfl (lv_at hl 2 rfl) ?_
    exact jn112 _ hbk33 _ _ _ _ _ _ _ hE (lv_sub hl [0, 1, 3] rfl) hw hS
  have jn76 : ∀ (bk33 : Int32 → Int32 → Int32 → St → Option St) (hbk33 : ∀ (ls : Array Slot) (H : Heap) (locs : List Loc) (σ : St) (l1 : Int32) (l2 : Int32) (l3 : Int32), bk33 l1 l2 l3 σ = some σ' → lv_has ls 4 [(0, .ref (G.2.1 51)), (1, .int l1), (2, .int l2), (3, .int l3)] → xw G σ H → va_S (xA G) s.heap H locs → W p l e (headSpec (ws_Model_takeChunkLine) rm_Model_takeChunkLine).room s m ([.ref (G.2.1 51)] : List Value).toArray below meth c H locs 0 0 (MQ below (xQ G none σ') ([.ref (G.2.1 51)] : List Value).toArray s 0 0 (xA G)) (F0 m 33 ls [])) (ls : Array Slot) (H : Heap) (locs : List Loc) (σ : St) (l1 : Int32) (l2 : Int32) (l3 : Int32) (k0 : Int32), x_Model_takeChunkLine_76 bk33 l1 l2 l3 k0 σ = some σ' → lv_has ls 4 [(0, .ref (G.2.1 51)), (1, .int l1), (2, .int l2), (3, .int l3)] → xw G σ H → va_S (xA G) s.heap H locs → W p l e (headSpec (ws_Model_takeChunkLine) rm_Model_takeChunkLine).room s m ([.ref (G.2.1 51)] : List Value).toArray below meth c H locs 0 0 (MQ below (xQ G none σ') ([.ref (G.2.1 51)] : List Value).toArray s 0 0 (xA G)) (F0 m 76 ls [.int k0, .ref (G.2.1 51)]) := by
    intro bk33 hbk33 ls H locs σ l1 l2 l3 k0 hE hl hw hS
    unfold x_Model_takeChunkLine_76 at hE
    refine lv_sipush (v := (400 : Int32)) hx hb d_Model_takeChunkLine_76 (by decide) ?_
    obtain ⟨s79, hC79, hE⟩ := x_bind hE
    refine x_callV hS (W.runV (As := [.int k0, .int (400 : Int32)]) (rest := []) ⟨hx, hb, hml, hown, hu⟩ (t_Model_blame l G σ k0 (400 : Int32) s79 hC79) (cwV 2 hu (uw_V mw_1279 mw_1281 mw_45 mw_70 mw_1282) rfl rfl rfl hd_Model_blame ⟨Nat.le_of_ble_eq_true rfl, Nat.le_of_ble_eq_true rfl⟩) (x_preV hC hS hw (va_recv hK hw (q := (R_Model, T_Model, 33)) (ci := 10) rfl (x_at (by decide) (xcl_51 G σ)))) rfl rfl hl.1 rfl (lv_room (Nat.le_of_ble_eq_true rfl)) d_Model_takeChunkLine_79 ⟨Nat.le_of_ble_eq_true rfl, Nat.le_of_ble_eq_true rfl⟩) (fun H locs hw hS => ?_)
    refine lv_iload_n hx hb d_Model_takeChunkLine_82 rfl (lv_at hl 3 rfl) ?_
    refine lv_iload_n hx hb d_Model_takeChunkLine_83 rfl (lv_at hl 1 rfl) ?_
    refine lv_icmp_ge (tgt := 111) hx hb d_Model_takeChunkLine_84 (by decide) (fun hc84 => ?_) (fun hc84 => ?_)
    · rw [if_pos hc84] at hE
      exact jn111 _ hbk33 _ _ _ _ _ _ _ hE (lv_sub hl [0, 1, 2, 3] rfl) hw hS
    · rw [if_neg hc84] at hE
      refine lv_aload_n hx hb d_Model_takeChunkLine_87 rfl (lv_at hl 0 rfl) ?_
      refine va_get (D := G.1) (cl := xCl) (ci := 10) (v := .int (s79.1 51 25)) (C := R_Model) (T := T_Model) (N := 33) hx hb hu fi_Model hown hK hw 51 (x_at (by decide) (xcl_51 G s79)) rfl 25 (by decide) (hu _ mw_1093) (fun _ h9 => h9) rfl d_Model_takeChunkLine_88 ?_
      refine lv_if_ne (tgt := 111) hx hb d_Model_takeChunkLine_91 (by decide) (fun hc91 => ?_) (fun hc91 => ?_)
      · rw [if_neg hc91] at hE
        exact jn111 _ hbk33 _ _ _ _ _ _ _ hE (lv_sub hl [0, 1, 2, 3] rfl) hw hS
      · rw [if_pos hc91] at hE
        refine lv_bipush (v := (16 : Int32)) hx hb d_Model_takeChunkLine_94 (by decide) ?_
        refine lv_iload_n hx hb d_Model_takeChunkLine_96 rfl (lv_at hl 2 rfl) ?_
        refine lv_imul hx hb d_Model_takeChunkLine_97 ?_
        refine lv_aload_n hx hb d_Model_takeChunkLine_98 rfl (lv_at hl 0 rfl) ?_
        refine va_get (D := G.1) (cl := xCl) (ci := 10) (v := .ref (G.2.1 57)) (C := R_Model) (T := T_Model) (N := 33) hx hb hu fi_Model hown hK hw 51 (x_at (by decide) (xcl_51 G s79)) rfl 11 (by decide) (hu _ mw_1079) (fun _ h9 => h9) rfl d_Model_takeChunkLine_99 ?_
        refine lv_iload_n hx hb d_Model_takeChunkLine_102 rfl (lv_at hl 3 rfl) ?_
        obtain ⟨g103, hE⟩ := x_guard hE
        refine va_iald hx hb hK hw 57 0 (x_at (by decide) (xcl_57 G s79)) rfl g103 d_Model_takeChunkLine_103 ?_
        obtain ⟨r104, hC104, hE⟩ := x_bind hE
        refine x_callR (W.runS (As := [.int (s79.2.1 57 l3.toNatClampNeg)]) (rest := [.int ((16 : Int32) * l2)]) ⟨hx, hb, hml, hown, hu⟩ (t_Model_hexOf l G s79 (s79.2.1 57 l3.toNatClampNeg) r104 hC104) (va_cwS 1 hu (uw_S mw_1194 mw_1195 mw_70 mw_1196) rfl rfl rfl hd_Model_hexOf ⟨Nat.le_of_ble_eq_true rfl, Nat.le_of_ble_eq_true rfl⟩) (x_preS hC hS hw) rfl rfl hl.1 rfl (lv_room (Nat.le_of_ble_eq_true rfl)) d_Model_takeChunkLine_104 ⟨Nat.le_of_ble_eq_true rfl, Nat.le_of_ble_eq_true rfl⟩) ?_
        refine lv_iadd hx hb d_Model_takeChunkLine_107 ?_
        refine lv_goto (tgt := 112) hx hb d_Model_takeChunkLine_108 (by decide) ?_
        exact jn112 _ hbk33 _ _ _ _ _ _ _ hE (lv_sub hl [0, 1, 3] rfl) hw hS
  have jn33 : ∀ (n : Nat) (ls : Array Slot) (H : Heap) (locs : List Loc) (σ : St) (l1 : Int32) (l2 : Int32) (l3 : Int32), x_Model_takeChunkLine_33 n l1 l2 l3 σ = some σ' → lv_has ls 4 [(0, .ref (G.2.1 51)), (1, .int l1), (2, .int l2), (3, .int l3)] → xw G σ H → va_S (xA G) s.heap H locs → W p l e (headSpec (ws_Model_takeChunkLine) rm_Model_takeChunkLine).room s m ([.ref (G.2.1 51)] : List Value).toArray below meth c H locs 0 0 (MQ below (xQ G none σ') ([.ref (G.2.1 51)] : List Value).toArray s 0 0 (xA G)) (F0 m 33 ls []) := by
    intro n
    induction n with
    | zero => intro ls H locs σ l1 l2 l3 hE; rw [x_Model_takeChunkLine_33] at hE; cases hE
    | succ n ih =>
      intro ls H locs σ l1 l2 l3 hE hl hw hS
      rw [x_Model_takeChunkLine_33] at hE
      refine lv_iload_n hx hb d_Model_takeChunkLine_33 rfl (lv_at hl 3 rfl) ?_
      refine lv_aload_n hx hb d_Model_takeChunkLine_34 rfl (lv_at hl 0 rfl) ?_
      refine va_get (D := G.1) (cl := xCl) (ci := 10) (v := .int (σ.1 51 10)) (C := R_Model) (T := T_Model) (N := 33) hx hb hu fi_Model hown hK hw 51 (x_at (by decide) (xcl_51 G σ)) rfl 10 (by decide) (hu _ mw_1078) (fun _ h9 => h9) rfl d_Model_takeChunkLine_35 ?_
      refine lv_icmp_ge (tgt := 119) hx hb d_Model_takeChunkLine_38 (by decide) (fun hc38 => ?_) (fun hc38 => ?_)
      · rw [if_pos hc38] at hE
        refine lv_aload_n hx hb d_Model_takeChunkLine_119 rfl (lv_at hl 0 rfl) ?_
        refine lv_aload_n hx hb d_Model_takeChunkLine_120 rfl (lv_at hl 0 rfl) ?_
        refine va_get (D := G.1) (cl := xCl) (ci := 10) (v := .int (σ.1 51 22)) (C := R_Model) (T := T_Model) (N := 33) hx hb hu fi_Model hown hK hw 51 (x_at (by decide) (xcl_51 G σ)) rfl 22 (by decide) (hu _ mw_1090) (fun _ h9 => h9) rfl d_Model_takeChunkLine_121 ?_
        refine lv_iload_n hx hb d_Model_takeChunkLine_124 rfl (lv_at hl 2 rfl) ?_
        refine lv_iadd hx hb d_Model_takeChunkLine_125 ?_
        refine lv_sipush (v := (200 : Int32)) hx hb d_Model_takeChunkLine_126 (by decide) ?_
        refine lv_icmp_gt (tgt := 136) hx hb d_Model_takeChunkLine_129 (by decide) (fun hc129 => ?_) (fun hc129 => ?_)
        · rw [if_pos hc129] at hE
          refine lv_iconst (v := (0 : Int32)) hx hb d_Model_takeChunkLine_136 (by decide) ?_
          exact jn137 _ _ _ _ _ _ hE (lv_sub hl [0, 2] rfl) hw hS
        · rw [if_neg hc129] at hE
          refine lv_iconst (v := (1 : Int32)) hx hb d_Model_takeChunkLine_132 (by decide) ?_
          refine lv_goto (tgt := 137) hx hb d_Model_takeChunkLine_133 (by decide) ?_
          exact jn137 _ _ _ _ _ _ hE (lv_sub hl [0, 2] rfl) hw hS
      · rw [if_neg hc38] at hE
        refine lv_aload_n hx hb d_Model_takeChunkLine_41 rfl (lv_at hl 0 rfl) ?_
        refine lv_iload_n hx hb d_Model_takeChunkLine_42 rfl (lv_at hl 3 rfl) ?_
        refine lv_iload_n hx hb d_Model_takeChunkLine_43 rfl (lv_at hl 1 rfl) ?_
        refine lv_icmp_ge (tgt := 67) hx hb d_Model_takeChunkLine_44 (by decide) (fun hc44 => ?_) (fun hc44 => ?_)
        · rw [if_pos hc44] at hE
          refine lv_aload_n hx hb d_Model_takeChunkLine_67 rfl (lv_at hl 0 rfl) ?_
          refine va_get (D := G.1) (cl := xCl) (ci := 10) (v := .ref (G.2.1 57)) (C := R_Model) (T := T_Model) (N := 33) hx hb hu fi_Model hown hK hw 51 (x_at (by decide) (xcl_51 G σ)) rfl 11 (by decide) (hu _ mw_1079) (fun _ h9 => h9) rfl d_Model_takeChunkLine_68 ?_
          refine lv_iload_n hx hb d_Model_takeChunkLine_71 rfl (lv_at hl 3 rfl) ?_
          obtain ⟨g72, hE⟩ := x_guard hE
          refine va_iald hx hb hK hw 57 0 (x_at (by decide) (xcl_57 G σ)) rfl g72 d_Model_takeChunkLine_72 ?_
          obtain ⟨r73, hC73, hE⟩ := x_bind hE
          refine x_callR (W.runS (As := [.int (σ.2.1 57 l3.toNatClampNeg)]) (rest := [.ref (G.2.1 51)]) ⟨hx, hb, hml, hown, hu⟩ (t_Model_isShown l G σ (σ.2.1 57 l3.toNatClampNeg) r73 hC73) (va_cwS 1 hu (uw_S mw_1320 mw_1321 mw_70 mw_1322) rfl rfl rfl hd_Model_isShown ⟨Nat.le_of_ble_eq_true rfl, Nat.le_of_ble_eq_true rfl⟩) (x_preS hC hS hw) rfl rfl hl.1 rfl (lv_room (Nat.le_of_ble_eq_true rfl)) d_Model_takeChunkLine_73 ⟨Nat.le_of_ble_eq_true rfl, Nat.le_of_ble_eq_true rfl⟩) ?_
          exact jn76 _ ih _ _ _ _ _ _ _ _ hE (lv_sub hl [0, 1, 2, 3] rfl) hw hS
        · rw [if_neg hc44] at hE
          refine lv_aload_n hx hb d_Model_takeChunkLine_47 rfl (lv_at hl 0 rfl) ?_
          refine va_get (D := G.1) (cl := xCl) (ci := 10) (v := .ref (G.2.1 57)) (C := R_Model) (T := T_Model) (N := 33) hx hb hu fi_Model hown hK hw 51 (x_at (by decide) (xcl_51 G σ)) rfl 11 (by decide) (hu _ mw_1079) (fun _ h9 => h9) rfl d_Model_takeChunkLine_48 ?_
          refine lv_iload_n hx hb d_Model_takeChunkLine_51 rfl (lv_at hl 3 rfl) ?_
          obtain ⟨g52, hE⟩ := x_guard hE
          refine va_iald hx hb hK hw 57 0 (x_at (by decide) (xcl_57 G σ)) rfl g52 d_Model_takeChunkLine_52 ?_
          obtain ⟨r53, hC53, hE⟩ := x_bind hE
          refine x_callR (W.runS (As := [.int (σ.2.1 57 l3.toNatClampNeg)]) (rest := [.ref (G.2.1 51)]) ⟨hx, hb, hml, hown, hu⟩ (t_Model_hexOf l G σ (σ.2.1 57 l3.toNatClampNeg) r53 hC53) (va_cwS 1 hu (uw_S mw_1194 mw_1195 mw_70 mw_1196) rfl rfl rfl hd_Model_hexOf ⟨Nat.le_of_ble_eq_true rfl, Nat.le_of_ble_eq_true rfl⟩) (x_preS hC hS hw) rfl rfl hl.1 rfl (lv_room (Nat.le_of_ble_eq_true rfl)) d_Model_takeChunkLine_53 ⟨Nat.le_of_ble_eq_true rfl, Nat.le_of_ble_eq_true rfl⟩) ?_
          refine lv_if_lt (tgt := 63) hx hb d_Model_takeChunkLine_56 (by decide) (fun hc56 => ?_) (fun hc56 => ?_)
          · rw [if_pos hc56] at hE
            refine lv_iconst (v := (0 : Int32)) hx hb d_Model_takeChunkLine_63 (by decide) ?_
            refine lv_goto (tgt := 76) hx hb d_Model_takeChunkLine_64 (by decide) ?_
            exact jn76 _ ih _ _ _ _ _ _ _ _ hE (lv_sub hl [0, 1, 2, 3] rfl) hw hS
          · rw [if_neg hc56] at hE
            refine lv_iconst (v := (1 : Int32)) hx hb d_Model_takeChunkLine_59 (by decide) ?_
            refine lv_goto (tgt := 76) hx hb d_Model_takeChunkLine_60 (by decide) ?_
            exact jn76 _ ih _ _ _ _ _ _ _ _ hE (lv_sub hl [0, 1, 2, 3] rfl) hw hS
  have jn23 : ∀ (ls : Array Slot) (H : Heap) (locs : List Loc) (σ : St) (l1 : Int32) (k0 : Int32), x_Model_takeChunkLine_23 l1 k0 σ = some σ' → lv_has ls 4 [(0, .ref (G.2.1 51)), (1, .int l1)] → xw G σ H → va_S (xA G) s.heap H locs → W p l e (headSpec (ws_Model_takeChunkLine) rm_Model_takeChunkLine).room s m ([.ref (G.2.1 51)] : List Value).toArray below meth c H locs 0 0 (MQ below (xQ G none σ') ([.ref (G.2.1 51)] : List Value).toArray s 0 0 (xA G)) (F0 m 23 ls [.int k0, .ref (G.2.1 51)]) := by
    intro ls H locs σ l1 k0 hE hl hw hS
    unfold x_Model_takeChunkLine_23 at hE
    refine lv_sipush (v := (400 : Int32)) hx hb d_Model_takeChunkLine_23 (by decide) ?_
    obtain ⟨s26, hC26, hE⟩ := x_bind hE
    refine x_callV hS (W.runV (As := [.int k0, .int (400 : Int32)]) (rest := []) ⟨hx, hb, hml, hown, hu⟩ (t_Model_blame l G σ k0 (400 : Int32) s26 hC26) (cwV 2 hu (uw_V mw_1279 mw_1281 mw_45 mw_70 mw_1282) rfl rfl rfl hd_Model_blame ⟨Nat.le_of_ble_eq_true rfl, Nat.le_of_ble_eq_true rfl⟩) (x_preV hC hS hw (va_recv hK hw (q := (R_Model, T_Model, 33)) (ci := 10) rfl (x_at (by decide) (xcl_51 G σ)))) rfl rfl hl.1 rfl (lv_room (Nat.le_of_ble_eq_true rfl)) d_Model_takeChunkLine_26 ⟨Nat.le_of_ble_eq_true rfl, Nat.le_of_ble_eq_true rfl⟩) (fun H locs hw hS => ?_)
    refine lv_iconst (v := (0 : Int32)) hx hb d_Model_takeChunkLine_29 (by decide) ?_
    refine lv_istore_n hx hb d_Model_takeChunkLine_30 rfl hl (by decide) rfl (fun ls hl => ?_)
    have hl : lv_has ls 4 [(2, .int (0 : Int32)), (0, .ref (G.2.1 51)), (1, .int l1)] := hl
    refine lv_iconst (v := (0 : Int32)) hx hb d_Model_takeChunkLine_31 (by decide) ?_
    refine lv_istore_n hx hb d_Model_takeChunkLine_32 rfl hl (by decide) rfl (fun ls hl => ?_)
    have hl : lv_has ls 4 [(3, .int (0 : Int32)), (2, .int (0 : Int32)), (0, .ref (G.2.1 51)), (1, .int l1)] := hl
    exact jn33 x_fuel _ _ _ _ _ _ _ hE (lv_sub hl [2, 3, 1, 0] rfl) hw hS
  have jn22 : ∀ (ls : Array Slot) (H : Heap) (locs : List Loc) (σ : St) (l1 : Int32), x_Model_takeChunkLine_22 l1 σ = some σ' → lv_has ls 4 [(0, .ref (G.2.1 51)), (1, .int l1)] → xw G σ H → va_S (xA G) s.heap H locs → W p l e (headSpec (ws_Model_takeChunkLine) rm_Model_takeChunkLine).room s m ([.ref (G.2.1 51)] : List Value).toArray below meth c H locs 0 0 (MQ below (xQ G none σ') ([.ref (G.2.1 51)] : List Value).toArray s 0 0 (xA G)) (F0 m 22 ls [.ref (G.2.1 51)]) := by
    intro ls H locs σ l1 hE hl hw hS
    unfold x_Model_takeChunkLine_22 at hE
    refine lv_iconst (v := (0 : Int32)) hx hb d_Model_takeChunkLine_22 (by decide) ?_
    exact jn23 _ _ _ _ _ _ hE (lv_sub hl [0, 1] rfl) hw hS
  have hl := lv_entry ([.ref (G.2.1 51)]) (n := 4) (Nat.le_of_ble_eq_true rfl)
  rw [lg_entry_eq]
  generalize (lg_sl ([.ref (G.2.1 51)]) ++ List.replicate (4 - (lg_sl ([.ref (G.2.1 51)])).length) Slot.unset).toArray = ls at hl ⊢
  have hl : lv_has ls 4 [(0, .ref (G.2.1 51))] := hl
  unfold x_Model_takeChunkLine at hE
  refine lv_aload_n hx hb d_Model_takeChunkLine_0 rfl (lv_at hl 0 rfl) ?_
  refine lv_bipush (v := (59 : Int32)) hx hb d_Model_takeChunkLine_1 (by decide) ?_
  refine lv_iconst (v := (0 : Int32)) hx hb d_Model_takeChunkLine_3 (by decide) ?_
  obtain ⟨r4, hC4, hE⟩ := x_bind hE
  refine x_callR (W.runV (As := [.int (59 : Int32), .int (0 : Int32)]) (rest := []) ⟨hx, hb, hml, hown, hu⟩ (t_Model_find l G σ (59 : Int32) (0 : Int32) r4 hC4) (cwV 2 hu (uw_V mw_1291 mw_1293 mw_48 mw_70 mw_1294) rfl rfl rfl hd_Model_find ⟨Nat.le_of_ble_eq_true rfl, Nat.le_of_ble_eq_true rfl⟩) (x_preV hC hS hw (va_recv hK hw (q := (R_Model, T_Model, 33)) (ci := 10) rfl (x_at (by decide) (xcl_51 G σ)))) rfl rfl hl.1 rfl (lv_room (Nat.le_of_ble_eq_true rfl)) d_Model_takeChunkLine_4 ⟨Nat.le_of_ble_eq_true rfl, Nat.le_of_ble_eq_true rfl⟩) ?_
  refine lv_istore_n hx hb d_Model_takeChunkLine_7 rfl hl (by decide) rfl (fun ls hl => ?_)
  have hl : lv_has ls 4 [(1, .int r4), (0, .ref (G.2.1 51))] := hl
  refine lv_aload_n hx hb d_Model_takeChunkLine_8 rfl (lv_at hl 1 rfl) ?_
  refine lv_iload_n hx hb d_Model_takeChunkLine_9 rfl (lv_at hl 0 rfl) ?_
  refine lv_if_le (tgt := 22) hx hb d_Model_takeChunkLine_10 (by decide) (fun hc10 => ?_) (fun hc10 => ?_)
  · rw [if_pos hc10] at hE
    exact jn22 _ _ _ _ _ hE (lv_sub hl [1, 0] rfl) hw hS
  · rw [if_neg hc10] at hE
    refine lv_iload_n hx hb d_Model_takeChunkLine_13 rfl (lv_at hl 0 rfl) ?_
    refine lv_iconst (v := (4 : Int32)) hx hb d_Model_takeChunkLine_14 (by decide) ?_
    refine lv_icmp_ge (tgt := 22) hx hb d_Model_takeChunkLine_15 (by decide) (fun hc15 => ?_) (fun hc15 => ?_)
    · rw [if_pos hc15] at hE
      exact jn22 _ _ _ _ _ hE (lv_sub hl [1, 0] rfl) hw hS
    · rw [if_neg hc15] at hE
      refine lv_iconst (v := (1 : Int32)) hx hb d_Model_takeChunkLine_18 (by decide) ?_
      refine lv_goto (tgt := 23) hx hb d_Model_takeChunkLine_19 (by decide) ?_
      exact jn23 _ _ _ _ _ _ hE (lv_sub hl [1, 0] rfl) hw hS

def y_Model_takeLine : MethodName := ⟨"PlainOriginModel", "takeLine", "()V"⟩
def ws_Model_takeLine : List Cond := Cond.code y_Model_takeLine prog_14_method_15_code 1 none :: UW
theorem hd_Model_takeLine : y_Model_takeLine.cls = R_Model ∧ y_Model_takeLine.cls ≠ "java/lang/invoke/MethodHandle" ∧ y_Model_takeLine.cls ≠ "java/lang/invoke/VarHandle" ∧ (parseMethodDescriptor y_Model_takeLine.desc).map (fun d => d.parameters.length) = some 0 := by decide +kernel
theorem d_Model_takeLine_0 : decode prog_14_method_15_code 0 = .ok (.aload_n 0, 1) := by decide +kernel
theorem d_Model_takeLine_1 : decode prog_14_method_15_code 1 = .ok (.getfield 179, 3) := by decide +kernel
theorem d_Model_takeLine_4 : decode prog_14_method_15_code 4 = .ok (.ifCond .ne (17), 3) := by decide +kernel
theorem d_Model_takeLine_7 : decode prog_14_method_15_code 7 = .ok (.aload_n 0, 1) := by decide +kernel
theorem d_Model_takeLine_8 : decode prog_14_method_15_code 8 = .ok (.getfield 201, 3) := by decide +kernel
theorem d_Model_takeLine_11 : decode prog_14_method_15_code 11 = .ok (.ifCond .le (58), 3) := by decide +kernel
theorem d_Model_takeLine_14 : decode prog_14_method_15_code 14 = .ok (.aload_n 0, 1) := by decide +kernel
theorem d_Model_takeLine_15 : decode prog_14_method_15_code 15 = .ok (.invokevirtual 204, 3) := by decide +kernel
theorem d_Model_takeLine_18 : decode prog_14_method_15_code 18 = .ok (.goto (51), 3) := by decide +kernel
theorem d_Model_takeLine_21 : decode prog_14_method_15_code 21 = .ok (.aload_n 0, 1) := by decide +kernel
theorem d_Model_takeLine_22 : decode prog_14_method_15_code 22 = .ok (.getfield 179, 3) := by decide +kernel
theorem d_Model_takeLine_25 : decode prog_14_method_15_code 25 = .ok (.iconst 3, 1) := by decide +kernel
theorem d_Model_takeLine_26 : decode prog_14_method_15_code 26 = .ok (.if_icmp .ne (10), 3) := by decide +kernel
theorem d_Model_takeLine_29 : decode prog_14_method_15_code 29 = .ok (.aload_n 0, 1) := by decide +kernel
theorem d_Model_takeLine_30 : decode prog_14_method_15_code 30 = .ok (.invokevirtual 207, 3) := by decide +kernel
theorem d_Model_takeLine_33 : decode prog_14_method_15_code 33 = .ok (.goto (36), 3) := by decide +kernel
theorem d_Model_takeLine_36 : decode prog_14_method_15_code 36 = .ok (.aload_n 0, 1) := by decide +kernel
theorem d_Model_takeLine_37 : decode prog_14_method_15_code 37 = .ok (.getfield 201, 3) := by decide +kernel
theorem d_Model_takeLine_40 : decode prog_14_method_15_code 40 = .ok (.ifCond .ne (25), 3) := by decide +kernel
theorem d_Model_takeLine_43 : decode prog_14_method_15_code 43 = .ok (.aload_n 0, 1) := by decide +kernel
theorem d_Model_takeLine_44 : decode prog_14_method_15_code 44 = .ok (.getfield 179, 3) := by decide +kernel
theorem d_Model_takeLine_47 : decode prog_14_method_15_code 47 = .ok (.iconst 1, 1) := by decide +kernel
theorem d_Model_takeLine_48 : decode prog_14_method_15_code 48 = .ok (.if_icmp .ne (10), 3) := by decide +kernel
theorem d_Model_takeLine_51 : decode prog_14_method_15_code 51 = .ok (.aload_n 0, 1) := by decide +kernel
theorem d_Model_takeLine_52 : decode prog_14_method_15_code 52 = .ok (.invokevirtual 210, 3) := by decide +kernel
theorem d_Model_takeLine_55 : decode prog_14_method_15_code 55 = .ok (.goto (14), 3) := by decide +kernel
theorem d_Model_takeLine_58 : decode prog_14_method_15_code 58 = .ok (.aload_n 0, 1) := by decide +kernel
theorem d_Model_takeLine_59 : decode prog_14_method_15_code 59 = .ok (.invokevirtual 188, 3) := by decide +kernel
theorem d_Model_takeLine_62 : decode prog_14_method_15_code 62 = .ok (.goto (7), 3) := by decide +kernel
theorem d_Model_takeLine_65 : decode prog_14_method_15_code 65 = .ok (.aload_n 0, 1) := by decide +kernel
theorem d_Model_takeLine_66 : decode prog_14_method_15_code 66 = .ok (.invokevirtual 213, 3) := by decide +kernel
theorem d_Model_takeLine_69 : decode prog_14_method_15_code 69 = .ok (.return_, 1) := by decide +kernel
def x_Model_takeLine (σ : St) : Option St := (if (σ.1 51 8) = 0 then (if (σ.1 51 10) ≤ 0 then some σ else (Option.bind (x_Model_takeRequestLine σ) (fun s15 => some s15))) else (if (σ.1 51 8) = (3 : Int32) then (Option.bind (x_Model_takeChunkLine σ) (fun s30 => some s30)) else (if (σ.1 51 10) = 0 then (if (σ.1 51 8) = (1 : Int32) then (Option.bind (x_Model_endHead σ) (fun s52 => some s52)) else (Option.bind (x_Model_answer σ) (fun s59 => some s59))) else (Option.bind (x_Model_takeField σ) (fun s66 => some s66)))))
abbrev rm_Model_takeLine : Room := { frames := 9, cells := 0, slots := 0, locals := 219 }
set_option maxHeartbeats 4000000 in
set_option maxRecDepth 100000 in
theorem t_Model_takeLine (l : Launch) (G : xG) (σ : St) (σ' : St) (hE : x_Model_takeLine σ = some σ') : Met l y_Model_takeLine (ws_Model_takeLine) rm_Model_takeLine (xP G σ [.ref (G.2.1 51)]) (xQ G none σ') 0 0 (xA G) := by
  refine Met.ofW (cc := prog_14_method_15_code) (maxL := 1) (ret := none) (by decide) rfl ?_
  intro p e s m args below meth c s₁ B hml hv
  obtain ⟨rfl, hw, hC⟩ := hv
  have hx := B.exec
  have hb := B.bytes
  have hr := B.returns
  have hu : ∀ w ∈ UW, w.before _ s = true := fun w h => atoms_spec B.pre w (List.mem_cons_of_mem _ h)
  have hown : s.vm.findClass R_Model = some m.cls := findClass_of_methodNamed B.named
  have hlocks := B.notSynchronized
  have hK := hC.1
  have hI := hC.2.1
  have hG := hC.2.2.1
  have hN := hC.2.2.2
  have hS : va_S (xA G) s.heap s.heap [] := va_S.rf
  have hl := lv_entry ([.ref (G.2.1 51)]) (n := 1) (Nat.le_of_ble_eq_true rfl)
  rw [lg_entry_eq]
  generalize (lg_sl ([.ref (G.2.1 51)]) ++ List.replicate (1 - (lg_sl ([.ref (G.2.1 51)])).length) Slot.unset).toArray = ls at hl ⊢
  have hl : lv_has ls 1 [(0, .ref (G.2.1 51))] := hl
  unfold x_Model_takeLine at hE
  refine lv_aload_n hx hb d_Model_takeLine_0 rfl (lv_at hl 0 rfl) ?_
  refine va_get (D := G.1) (cl := xCl) (ci := 10) (v := .int (σ.1 51 8)) (C := R_Model) (T := T_Model) (N := 33) hx hb hu fi_Model hown hK hw 51 (x_at (by decide) (xcl_51 G σ)) rfl 8 (by decide) (hu _ mw_1076) (fun _ h9 => h9) rfl d_Model_takeLine_1 ?_
  refine lv_if_ne (tgt := 21) hx hb d_Model_takeLine_4 (by decide) (fun hc4 => ?_) (fun hc4 => ?_)
  · rw [if_neg hc4] at hE
    refine lv_aload_n hx hb d_Model_takeLine_21 rfl (lv_at hl 0 rfl) ?_
    refine va_get (D := G.1) (cl := xCl) (ci := 10) (v := .int (σ.1 51 8)) (C := R_Model) (T := T_Model) (N := 33) hx hb hu fi_Model hown hK hw 51 (x_at (by decide) (xcl_51 G σ)) rfl 8 (by decide) (hu _ mw_1076) (fun _ h9 => h9) rfl d_Model_takeLine_22 ?_
    refine lv_iconst (v := (3 : Int32)) hx hb d_Model_takeLine_25 (by decide) ?_
    refine lv_icmp_ne (tgt := 36) hx hb d_Model_takeLine_26 (by decide) (fun hc26 => ?_) (fun hc26 => ?_)
    · rw [if_neg hc26] at hE
      refine lv_aload_n hx hb d_Model_takeLine_36 rfl (lv_at hl 0 rfl) ?_
      refine va_get (D := G.1) (cl := xCl) (ci := 10) (v := .int (σ.1 51 10)) (C := R_Model) (T := T_Model) (N := 33) hx hb hu fi_Model hown hK hw 51 (x_at (by decide) (xcl_51 G σ)) rfl 10 (by decide) (hu _ mw_1078) (fun _ h9 => h9) rfl d_Model_takeLine_37 ?_
      refine lv_if_ne (tgt := 65) hx hb d_Model_takeLine_40 (by decide) (fun hc40 => ?_) (fun hc40 => ?_)
      · rw [if_neg hc40] at hE
        refine lv_aload_n hx hb d_Model_takeLine_65 rfl (lv_at hl 0 rfl) ?_
        obtain ⟨s66, hC66, hE⟩ := x_bind hE
        refine x_callV hS (W.runV (As := []) (rest := []) ⟨hx, hb, hml, hown, hu⟩ (t_Model_takeField l G σ s66 hC66) (cwV 0 hu (uw_V mw_1343 mw_1345 mw_58 mw_70 mw_1346) rfl rfl rfl hd_Model_takeField ⟨Nat.le_of_ble_eq_true rfl, Nat.le_of_ble_eq_true rfl⟩) (x_preV hC hS hw (va_recv hK hw (q := (R_Model, T_Model, 33)) (ci := 10) rfl (x_at (by decide) (xcl_51 G σ)))) rfl rfl hl.1 rfl (lv_room (Nat.le_of_ble_eq_true rfl)) d_Model_takeLine_66 ⟨Nat.le_of_ble_eq_true rfl, Nat.le_of_ble_eq_true rfl⟩) (fun H locs hw hS => ?_)
        have e1 := Option.some.inj hE
        exact W.vret hx hb hr (fun t ht hW => ⟨rfl, by rw [ht, ← e1]; exact hw, hS.F ht⟩) hS.2.2 d_Model_takeLine_69
      · rw [if_pos hc40] at hE
        refine lv_aload_n hx hb d_Model_takeLine_43 rfl (lv_at hl 0 rfl) ?_
        refine va_get (D := G.1) (cl := xCl) (ci := 10) (v := .int (σ.1 51 8)) (C := R_Model) (T := T_Model) (N := 33) hx hb hu fi_Model hown hK hw 51 (x_at (by decide) (xcl_51 G σ)) rfl 8 (by decide) (hu _ mw_1076) (fun _ h9 => h9) rfl d_Model_takeLine_44 ?_
        refine lv_iconst (v := (1 : Int32)) hx hb d_Model_takeLine_47 (by decide) ?_
        refine lv_icmp_ne (tgt := 58) hx hb d_Model_takeLine_48 (by decide) (fun hc48 => ?_) (fun hc48 => ?_)
        · rw [if_neg hc48] at hE
          refine lv_aload_n hx hb d_Model_takeLine_58 rfl (lv_at hl 0 rfl) ?_
          obtain ⟨s59, hC59, hE⟩ := x_bind hE
          refine x_callV hS (W.runV (As := []) (rest := []) ⟨hx, hb, hml, hown, hu⟩ (t_Model_answer l G σ s59 hC59) (cwV 0 hu (uw_V mw_1186 mw_1188 mw_24 mw_70 mw_1189) rfl rfl rfl hd_Model_answer ⟨Nat.le_of_ble_eq_true rfl, Nat.le_of_ble_eq_true rfl⟩) (x_preV hC hS hw (va_recv hK hw (q := (R_Model, T_Model, 33)) (ci := 10) rfl (x_at (by decide) (xcl_51 G σ)))) rfl rfl hl.1 rfl (lv_room (Nat.le_of_ble_eq_true rfl)) d_Model_takeLine_59 ⟨Nat.le_of_ble_eq_true rfl, Nat.le_of_ble_eq_true rfl⟩) (fun H locs hw hS => ?_)
          refine lv_goto (tgt := 69) hx hb d_Model_takeLine_62 (by decide) ?_
          have e1 := Option.some.inj hE
          exact W.vret hx hb hr (fun t ht hW => ⟨rfl, by rw [ht, ← e1]; exact hw, hS.F ht⟩) hS.2.2 d_Model_takeLine_69
        · rw [if_pos hc48] at hE
          refine lv_aload_n hx hb d_Model_takeLine_51 rfl (lv_at hl 0 rfl) ?_
          obtain ⟨s52, hC52, hE⟩ := x_bind hE
          refine x_callV hS (W.runV (As := []) (rest := []) ⟨hx, hb, hml, hown, hu⟩ (t_Model_endHead l G σ s52 hC52) (cwV 0 hu (uw_V mw_1323 mw_1325 mw_53 mw_70 mw_1326) rfl rfl rfl hd_Model_endHead ⟨Nat.le_of_ble_eq_true rfl, Nat.le_of_ble_eq_true rfl⟩) (x_preV hC hS hw (va_recv hK hw (q := (R_Model, T_Model, 33)) (ci := 10) rfl (x_at (by decide) (xcl_51 G σ)))) rfl rfl hl.1 rfl (lv_room (Nat.le_of_ble_eq_true rfl)) d_Model_takeLine_52 ⟨Nat.le_of_ble_eq_true rfl, Nat.le_of_ble_eq_true rfl⟩) (fun H locs hw hS => ?_)
          refine lv_goto (tgt := 69) hx hb d_Model_takeLine_55 (by decide) ?_
          have e1 := Option.some.inj hE
          exact W.vret hx hb hr (fun t ht hW => ⟨rfl, by rw [ht, ← e1]; exact hw, hS.F ht⟩) hS.2.2 d_Model_takeLine_69
    · rw [if_pos hc26] at hE
      refine lv_aload_n hx hb d_Model_takeLine_29 rfl (lv_at hl 0 rfl) ?_
      obtain ⟨s30, hC30, hE⟩ := x_bind hE
      refine x_callV hS (W.runV (As := []) (rest := []) ⟨hx, hb, hml, hown, hu⟩ (t_Model_takeChunkLine l G σ s30 hC30) (cwV 0 hu (uw_V mw_1316 mw_1318 mw_52 mw_70 mw_1319) rfl rfl rfl hd_Model_takeChunkLine ⟨Nat.le_of_ble_eq_true rfl, Nat.le_of_ble_eq_true rfl⟩) (x_preV hC hS hw (va_recv hK hw (q := (R_Model, T_Model, 33)) (ci := 10) rfl (x_at (by decide) (xcl_51 G σ)))) rfl rfl hl.1 rfl (lv_room (Nat.le_of_ble_eq_true rfl)) d_Model_takeLine_30 ⟨Nat.le_of_ble_eq_true rfl, Nat.le_of_ble_eq_true rfl⟩) (fun H locs hw hS => ?_)
      refine lv_goto (tgt := 69) hx hb d_Model_takeLine_33 (by decide) ?_
      have e1 := Option.some.inj hE
      exact W.vret hx hb hr (fun t ht hW => ⟨rfl, by rw [ht, ← e1]; exact hw, hS.F ht⟩) hS.2.2 d_Model_takeLine_69
  · rw [if_pos hc4] at hE
    refine lv_aload_n hx hb d_Model_takeLine_7 rfl (lv_at hl 0 rfl) ?_
    refine va_get (D := G.1) (cl := xCl) (ci := 10) (v := .int (σ.1 51 10)) (C := R_Model) (T := T_Model) (N := 33) hx hb hu fi_Model hown hK hw 51 (x_at (by decide) (xcl_51 G σ)) rfl 10 (by decide) (hu _ mw_1078) (fun _ h9 => h9) rfl d_Model_takeLine_8 ?_
    refine lv_if_le (tgt := 69) hx hb d_Model_takeLine_11 (by decide) (fun hc11 => ?_) (fun hc11 => ?_)
    · rw [if_pos hc11] at hE
      have e1 := Option.some.inj hE
      exact W.vret hx hb hr (fun t ht hW => ⟨rfl, by rw [ht, ← e1]; exact hw, hS.F ht⟩) hS.2.2 d_Model_takeLine_69
    · rw [if_neg hc11] at hE
      refine lv_aload_n hx hb d_Model_takeLine_14 rfl (lv_at hl 0 rfl) ?_
      obtain ⟨s15, hC15, hE⟩ := x_bind hE
      refine x_callV hS (W.runV (As := []) (rest := []) ⟨hx, hb, hml, hown, hu⟩ (t_Model_takeRequestLine l G σ s15 hC15) (cwV 0 hu (uw_V mw_1287 mw_1289 mw_47 mw_70 mw_1290) rfl rfl rfl hd_Model_takeRequestLine ⟨Nat.le_of_ble_eq_true rfl, Nat.le_of_ble_eq_true rfl⟩) (x_preV hC hS hw (va_recv hK hw (q := (R_Model, T_Model, 33)) (ci := 10) rfl (x_at (by decide) (xcl_51 G σ)))) rfl rfl hl.1 rfl (lv_room (Nat.le_of_ble_eq_true rfl)) d_Model_takeLine_15 ⟨Nat.le_of_ble_eq_true rfl, Nat.le_of_ble_eq_true rfl⟩) (fun H locs hw hS => ?_)
      refine lv_goto (tgt := 69) hx hb d_Model_takeLine_18 (by decide) ?_
      have e1 := Option.some.inj hE
      exact W.vret hx hb hr (fun t ht hW => ⟨rfl, by rw [ht, ← e1]; exact hw, hS.F ht⟩) hS.2.2 d_Model_takeLine_69

def y_Model_take : MethodName := ⟨"PlainOriginModel", "take", "(I)V"⟩
def ws_Model_take : List Cond := Cond.code y_Model_take prog_14_method_14_code 2 none :: UW
theorem hd_Model_take : y_Model_take.cls = R_Model ∧ y_Model_take.cls ≠ "java/lang/invoke/MethodHandle" ∧ y_Model_take.cls ≠ "java/lang/invoke/VarHandle" ∧ (parseMethodDescriptor y_Model_take.desc).map (fun d => d.parameters.length) = some 1 := by decide +kernel
theorem d_Model_take_0 : decode prog_14_method_14_code 0 = .ok (.aload_n 0, 1) := by decide +kernel
theorem d_Model_take_1 : decode prog_14_method_14_code 1 = .ok (.getfield 179, 3) := by decide +kernel
theorem d_Model_take_4 : decode prog_14_method_14_code 4 = .ok (.iconst 2, 1) := by decide +kernel
theorem d_Model_take_5 : decode prog_14_method_14_code 5 = .ok (.if_icmp .eq (18), 3) := by decide +kernel
theorem d_Model_take_8 : decode prog_14_method_14_code 8 = .ok (.aload_n 0, 1) := by decide +kernel
theorem d_Model_take_9 : decode prog_14_method_14_code 9 = .ok (.getfield 179, 3) := by decide +kernel
theorem d_Model_take_12 : decode prog_14_method_14_code 12 = .ok (.iconst 4, 1) := by decide +kernel
theorem d_Model_take_13 : decode prog_14_method_14_code 13 = .ok (.if_icmp .ne (62), 3) := by decide +kernel
theorem d_Model_take_16 : decode prog_14_method_14_code 16 = .ok (.aload_n 0, 1) := by decide +kernel
theorem d_Model_take_17 : decode prog_14_method_14_code 17 = .ok (.getfield 182, 3) := by decide +kernel
theorem d_Model_take_20 : decode prog_14_method_14_code 20 = .ok (.ifCond .le (55), 3) := by decide +kernel
theorem d_Model_take_23 : decode prog_14_method_14_code 23 = .ok (.aload_n 0, 1) := by decide +kernel
theorem d_Model_take_24 : decode prog_14_method_14_code 24 = .ok (.getfield 127, 3) := by decide +kernel
theorem d_Model_take_27 : decode prog_14_method_14_code 27 = .ok (.aload_n 0, 1) := by decide +kernel
theorem d_Model_take_28 : decode prog_14_method_14_code 28 = .ok (.getfield 185, 3) := by decide +kernel
theorem d_Model_take_31 : decode prog_14_method_14_code 31 = .ok (.iload_n 1, 1) := by decide +kernel
theorem d_Model_take_32 : decode prog_14_method_14_code 32 = .ok (.iastore, 1) := by decide +kernel
theorem d_Model_take_33 : decode prog_14_method_14_code 33 = .ok (.aload_n 0, 1) := by decide +kernel
theorem d_Model_take_34 : decode prog_14_method_14_code 34 = .ok (.dup, 1) := by decide +kernel
theorem d_Model_take_35 : decode prog_14_method_14_code 35 = .ok (.getfield 185, 3) := by decide +kernel
theorem d_Model_take_38 : decode prog_14_method_14_code 38 = .ok (.iconst 1, 1) := by decide +kernel
theorem d_Model_take_39 : decode prog_14_method_14_code 39 = .ok (.iadd, 1) := by decide +kernel
theorem d_Model_take_40 : decode prog_14_method_14_code 40 = .ok (.putfield 185, 3) := by decide +kernel
theorem d_Model_take_43 : decode prog_14_method_14_code 43 = .ok (.aload_n 0, 1) := by decide +kernel
theorem d_Model_take_44 : decode prog_14_method_14_code 44 = .ok (.dup, 1) := by decide +kernel
theorem d_Model_take_45 : decode prog_14_method_14_code 45 = .ok (.getfield 182, 3) := by decide +kernel
theorem d_Model_take_48 : decode prog_14_method_14_code 48 = .ok (.iconst 1, 1) := by decide +kernel
theorem d_Model_take_49 : decode prog_14_method_14_code 49 = .ok (.isub, 1) := by decide +kernel
theorem d_Model_take_50 : decode prog_14_method_14_code 50 = .ok (.putfield 182, 3) := by decide +kernel
theorem d_Model_take_53 : decode prog_14_method_14_code 53 = .ok (.aload_n 0, 1) := by decide +kernel
theorem d_Model_take_54 : decode prog_14_method_14_code 54 = .ok (.getfield 179, 3) := by decide +kernel
theorem d_Model_take_57 : decode prog_14_method_14_code 57 = .ok (.iconst 2, 1) := by decide +kernel
theorem d_Model_take_58 : decode prog_14_method_14_code 58 = .ok (.if_icmp .ne (246), 3) := by decide +kernel
theorem d_Model_take_61 : decode prog_14_method_14_code 61 = .ok (.aload_n 0, 1) := by decide +kernel
theorem d_Model_take_62 : decode prog_14_method_14_code 62 = .ok (.getfield 182, 3) := by decide +kernel
theorem d_Model_take_65 : decode prog_14_method_14_code 65 = .ok (.ifCond .ne (239), 3) := by decide +kernel
theorem d_Model_take_68 : decode prog_14_method_14_code 68 = .ok (.aload_n 0, 1) := by decide +kernel
theorem d_Model_take_69 : decode prog_14_method_14_code 69 = .ok (.invokevirtual 188, 3) := by decide +kernel
theorem d_Model_take_72 : decode prog_14_method_14_code 72 = .ok (.goto (232), 3) := by decide +kernel
theorem d_Model_take_75 : decode prog_14_method_14_code 75 = .ok (.aload_n 0, 1) := by decide +kernel
theorem d_Model_take_76 : decode prog_14_method_14_code 76 = .ok (.getfield 179, 3) := by decide +kernel
theorem d_Model_take_79 : decode prog_14_method_14_code 79 = .ok (.iconst 4, 1) := by decide +kernel
theorem d_Model_take_80 : decode prog_14_method_14_code 80 = .ok (.if_icmp .ne (68), 3) := by decide +kernel
theorem d_Model_take_83 : decode prog_14_method_14_code 83 = .ok (.aload_n 0, 1) := by decide +kernel
theorem d_Model_take_84 : decode prog_14_method_14_code 84 = .ok (.iload_n 1, 1) := by decide +kernel
theorem d_Model_take_85 : decode prog_14_method_14_code 85 = .ok (.aload_n 0, 1) := by decide +kernel
theorem d_Model_take_86 : decode prog_14_method_14_code 86 = .ok (.getfield 191, 3) := by decide +kernel
theorem d_Model_take_89 : decode prog_14_method_14_code 89 = .ok (.ifCond .eq (8), 3) := by decide +kernel
theorem d_Model_take_92 : decode prog_14_method_14_code 92 = .ok (.bipush (10), 2) := by decide +kernel
theorem d_Model_take_94 : decode prog_14_method_14_code 94 = .ok (.goto (5), 3) := by decide +kernel
theorem d_Model_take_97 : decode prog_14_method_14_code 97 = .ok (.bipush (13), 2) := by decide +kernel
theorem d_Model_take_99 : decode prog_14_method_14_code 99 = .ok (.if_icmp .ne (7), 3) := by decide +kernel
theorem d_Model_take_102 : decode prog_14_method_14_code 102 = .ok (.iconst 1, 1) := by decide +kernel
theorem d_Model_take_103 : decode prog_14_method_14_code 103 = .ok (.goto (4), 3) := by decide +kernel
theorem d_Model_take_106 : decode prog_14_method_14_code 106 = .ok (.iconst 0, 1) := by decide +kernel
theorem d_Model_take_107 : decode prog_14_method_14_code 107 = .ok (.sipush (400), 3) := by decide +kernel
theorem d_Model_take_110 : decode prog_14_method_14_code 110 = .ok (.invokevirtual 194, 3) := by decide +kernel
theorem d_Model_take_113 : decode prog_14_method_14_code 113 = .ok (.aload_n 0, 1) := by decide +kernel
theorem d_Model_take_114 : decode prog_14_method_14_code 114 = .ok (.aload_n 0, 1) := by decide +kernel
theorem d_Model_take_115 : decode prog_14_method_14_code 115 = .ok (.getfield 191, 3) := by decide +kernel
theorem d_Model_take_118 : decode prog_14_method_14_code 118 = .ok (.ifCond .eq (7), 3) := by decide +kernel
theorem d_Model_take_121 : decode prog_14_method_14_code 121 = .ok (.iconst 3, 1) := by decide +kernel
theorem d_Model_take_122 : decode prog_14_method_14_code 122 = .ok (.goto (4), 3) := by decide +kernel
theorem d_Model_take_125 : decode prog_14_method_14_code 125 = .ok (.iconst 4, 1) := by decide +kernel
theorem d_Model_take_126 : decode prog_14_method_14_code 126 = .ok (.putfield 179, 3) := by decide +kernel
theorem d_Model_take_129 : decode prog_14_method_14_code 129 = .ok (.aload_n 0, 1) := by decide +kernel
theorem d_Model_take_130 : decode prog_14_method_14_code 130 = .ok (.aload_n 0, 1) := by decide +kernel
theorem d_Model_take_131 : decode prog_14_method_14_code 131 = .ok (.getfield 191, 3) := by decide +kernel
theorem d_Model_take_134 : decode prog_14_method_14_code 134 = .ok (.ifCond .ne (7), 3) := by decide +kernel
theorem d_Model_take_137 : decode prog_14_method_14_code 137 = .ok (.iconst 1, 1) := by decide +kernel
theorem d_Model_take_138 : decode prog_14_method_14_code 138 = .ok (.goto (4), 3) := by decide +kernel
theorem d_Model_take_141 : decode prog_14_method_14_code 141 = .ok (.iconst 0, 1) := by decide +kernel
theorem d_Model_take_142 : decode prog_14_method_14_code 142 = .ok (.putfield 191, 3) := by decide +kernel
theorem d_Model_take_145 : decode prog_14_method_14_code 145 = .ok (.goto (159), 3) := by decide +kernel
theorem d_Model_take_148 : decode prog_14_method_14_code 148 = .ok (.aload_n 0, 1) := by decide +kernel
theorem d_Model_take_149 : decode prog_14_method_14_code 149 = .ok (.getfield 191, 3) := by decide +kernel
theorem d_Model_take_152 : decode prog_14_method_14_code 152 = .ok (.ifCond .eq (45), 3) := by decide +kernel
theorem d_Model_take_155 : decode prog_14_method_14_code 155 = .ok (.aload_n 0, 1) := by decide +kernel
theorem d_Model_take_156 : decode prog_14_method_14_code 156 = .ok (.iload_n 1, 1) := by decide +kernel
theorem d_Model_take_157 : decode prog_14_method_14_code 157 = .ok (.bipush (10), 2) := by decide +kernel
theorem d_Model_take_159 : decode prog_14_method_14_code 159 = .ok (.if_icmp .ne (7), 3) := by decide +kernel
theorem d_Model_take_162 : decode prog_14_method_14_code 162 = .ok (.iconst 1, 1) := by decide +kernel
theorem d_Model_take_163 : decode prog_14_method_14_code 163 = .ok (.goto (4), 3) := by decide +kernel
theorem d_Model_take_166 : decode prog_14_method_14_code 166 = .ok (.iconst 0, 1) := by decide +kernel
theorem d_Model_take_167 : decode prog_14_method_14_code 167 = .ok (.sipush (400), 3) := by decide +kernel
theorem d_Model_take_170 : decode prog_14_method_14_code 170 = .ok (.invokevirtual 194, 3) := by decide +kernel
theorem d_Model_take_173 : decode prog_14_method_14_code 173 = .ok (.aload_n 0, 1) := by decide +kernel
theorem d_Model_take_174 : decode prog_14_method_14_code 174 = .ok (.iconst 0, 1) := by decide +kernel
theorem d_Model_take_175 : decode prog_14_method_14_code 175 = .ok (.putfield 191, 3) := by decide +kernel
theorem d_Model_take_178 : decode prog_14_method_14_code 178 = .ok (.aload_n 0, 1) := by decide +kernel
theorem d_Model_take_179 : decode prog_14_method_14_code 179 = .ok (.getfield 162, 3) := by decide +kernel
theorem d_Model_take_182 : decode prog_14_method_14_code 182 = .ok (.ifCond .ne (122), 3) := by decide +kernel
theorem d_Model_take_185 : decode prog_14_method_14_code 185 = .ok (.aload_n 0, 1) := by decide +kernel
theorem d_Model_take_186 : decode prog_14_method_14_code 186 = .ok (.invokevirtual 198, 3) := by decide +kernel
theorem d_Model_take_189 : decode prog_14_method_14_code 189 = .ok (.aload_n 0, 1) := by decide +kernel
theorem d_Model_take_190 : decode prog_14_method_14_code 190 = .ok (.iconst 0, 1) := by decide +kernel
theorem d_Model_take_191 : decode prog_14_method_14_code 191 = .ok (.putfield 201, 3) := by decide +kernel
theorem d_Model_take_194 : decode prog_14_method_14_code 194 = .ok (.goto (110), 3) := by decide +kernel
theorem d_Model_take_197 : decode prog_14_method_14_code 197 = .ok (.iload_n 1, 1) := by decide +kernel
theorem d_Model_take_198 : decode prog_14_method_14_code 198 = .ok (.bipush (13), 2) := by decide +kernel
theorem d_Model_take_200 : decode prog_14_method_14_code 200 = .ok (.if_icmp .ne (11), 3) := by decide +kernel
theorem d_Model_take_203 : decode prog_14_method_14_code 203 = .ok (.aload_n 0, 1) := by decide +kernel
theorem d_Model_take_204 : decode prog_14_method_14_code 204 = .ok (.iconst 1, 1) := by decide +kernel
theorem d_Model_take_205 : decode prog_14_method_14_code 205 = .ok (.putfield 191, 3) := by decide +kernel
theorem d_Model_take_208 : decode prog_14_method_14_code 208 = .ok (.goto (96), 3) := by decide +kernel
theorem d_Model_take_211 : decode prog_14_method_14_code 211 = .ok (.aload_n 0, 1) := by decide +kernel
theorem d_Model_take_212 : decode prog_14_method_14_code 212 = .ok (.iload_n 1, 1) := by decide +kernel
theorem d_Model_take_213 : decode prog_14_method_14_code 213 = .ok (.bipush (10), 2) := by decide +kernel
theorem d_Model_take_215 : decode prog_14_method_14_code 215 = .ok (.if_icmp .eq (7), 3) := by decide +kernel
theorem d_Model_take_218 : decode prog_14_method_14_code 218 = .ok (.iconst 1, 1) := by decide +kernel
theorem d_Model_take_219 : decode prog_14_method_14_code 219 = .ok (.goto (4), 3) := by decide +kernel
theorem d_Model_take_222 : decode prog_14_method_14_code 222 = .ok (.iconst 0, 1) := by decide +kernel
theorem d_Model_take_223 : decode prog_14_method_14_code 223 = .ok (.sipush (400), 3) := by decide +kernel
theorem d_Model_take_226 : decode prog_14_method_14_code 226 = .ok (.invokevirtual 194, 3) := by decide +kernel
theorem d_Model_take_229 : decode prog_14_method_14_code 229 = .ok (.aload_n 0, 1) := by decide +kernel
theorem d_Model_take_230 : decode prog_14_method_14_code 230 = .ok (.aload_n 0, 1) := by decide +kernel
theorem d_Model_take_231 : decode prog_14_method_14_code 231 = .ok (.getfield 201, 3) := by decide +kernel
theorem d_Model_take_234 : decode prog_14_method_14_code 234 = .ok (.bipush (80), 2) := by decide +kernel
theorem d_Model_take_236 : decode prog_14_method_14_code 236 = .ok (.if_icmp .ge (7), 3) := by decide +kernel
theorem d_Model_take_239 : decode prog_14_method_14_code 239 = .ok (.iconst 1, 1) := by decide +kernel
theorem d_Model_take_240 : decode prog_14_method_14_code 240 = .ok (.goto (4), 3) := by decide +kernel
theorem d_Model_take_243 : decode prog_14_method_14_code 243 = .ok (.iconst 0, 1) := by decide +kernel
theorem d_Model_take_244 : decode prog_14_method_14_code 244 = .ok (.aload_n 0, 1) := by decide +kernel
theorem d_Model_take_245 : decode prog_14_method_14_code 245 = .ok (.getfield 179, 3) := by decide +kernel
theorem d_Model_take_248 : decode prog_14_method_14_code 248 = .ok (.ifCond .ne (9), 3) := by decide +kernel
theorem d_Model_take_251 : decode prog_14_method_14_code 251 = .ok (.sipush (414), 3) := by decide +kernel
theorem d_Model_take_254 : decode prog_14_method_14_code 254 = .ok (.goto (20), 3) := by decide +kernel
theorem d_Model_take_257 : decode prog_14_method_14_code 257 = .ok (.aload_n 0, 1) := by decide +kernel
theorem d_Model_take_258 : decode prog_14_method_14_code 258 = .ok (.getfield 179, 3) := by decide +kernel
theorem d_Model_take_261 : decode prog_14_method_14_code 261 = .ok (.iconst 3, 1) := by decide +kernel
theorem d_Model_take_262 : decode prog_14_method_14_code 262 = .ok (.if_icmp .ne (9), 3) := by decide +kernel
theorem d_Model_take_265 : decode prog_14_method_14_code 265 = .ok (.sipush (400), 3) := by decide +kernel
theorem d_Model_take_268 : decode prog_14_method_14_code 268 = .ok (.goto (6), 3) := by decide +kernel
theorem d_Model_take_271 : decode prog_14_method_14_code 271 = .ok (.sipush (431), 3) := by decide +kernel
theorem d_Model_take_274 : decode prog_14_method_14_code 274 = .ok (.invokevirtual 194, 3) := by decide +kernel
theorem d_Model_take_277 : decode prog_14_method_14_code 277 = .ok (.aload_n 0, 1) := by decide +kernel
theorem d_Model_take_278 : decode prog_14_method_14_code 278 = .ok (.getfield 162, 3) := by decide +kernel
theorem d_Model_take_281 : decode prog_14_method_14_code 281 = .ok (.ifCond .ne (23), 3) := by decide +kernel
theorem d_Model_take_284 : decode prog_14_method_14_code 284 = .ok (.aload_n 0, 1) := by decide +kernel
theorem d_Model_take_285 : decode prog_14_method_14_code 285 = .ok (.getfield 105, 3) := by decide +kernel
theorem d_Model_take_288 : decode prog_14_method_14_code 288 = .ok (.aload_n 0, 1) := by decide +kernel
theorem d_Model_take_289 : decode prog_14_method_14_code 289 = .ok (.getfield 201, 3) := by decide +kernel
theorem d_Model_take_292 : decode prog_14_method_14_code 292 = .ok (.iload_n 1, 1) := by decide +kernel
theorem d_Model_take_293 : decode prog_14_method_14_code 293 = .ok (.iastore, 1) := by decide +kernel
theorem d_Model_take_294 : decode prog_14_method_14_code 294 = .ok (.aload_n 0, 1) := by decide +kernel
theorem d_Model_take_295 : decode prog_14_method_14_code 295 = .ok (.dup, 1) := by decide +kernel
theorem d_Model_take_296 : decode prog_14_method_14_code 296 = .ok (.getfield 201, 3) := by decide +kernel
theorem d_Model_take_299 : decode prog_14_method_14_code 299 = .ok (.iconst 1, 1) := by decide +kernel
theorem d_Model_take_300 : decode prog_14_method_14_code 300 = .ok (.iadd, 1) := by decide +kernel
theorem d_Model_take_301 : decode prog_14_method_14_code 301 = .ok (.putfield 201, 3) := by decide +kernel
theorem d_Model_take_304 : decode prog_14_method_14_code 304 = .ok (.return_, 1) := by decide +kernel
def x_Model_take_23 (a1 : Int32) (σ : St) : Option St := (if x_in (σ.1 51 22) 200 then (x_let (x_updM σ 62 (σ.1 51 22).toNatClampNeg a1) (fun (s32 : St) => (x_let (x_updR s32 51 22 ((s32.1 51 22) + (1 : Int32))) (fun (s40 : St) => (x_let (x_updR s40 51 21 ((s40.1 51 21) - (1 : Int32))) (fun (s50 : St) => (if (s50.1 51 8) = (2 : Int32) then (if (s50.1 51 21) = 0 then (Option.bind (x_Model_answer s50) (fun s69 => some s69)) else some s50) else some s50))))))) else none)
def x_Model_take_274 (a1 : Int32) (k0 : Int32) (k1 : Int32) (σ : St) : Option St := (Option.bind (x_Model_blame k1 k0 σ) (fun s274 => (if (s274.1 51 25) = 0 then (if x_in (s274.1 51 10) 80 then (x_let (x_updM s274 57 (s274.1 51 10).toNatClampNeg a1) (fun (s293 : St) => (x_let (x_updR s293 51 10 ((s293.1 51 10) + (1 : Int32))) (fun (s301 : St) => some s301)))) else none) else some s274)))
def x_Model_take_244 (a1 : Int32) (k0 : Int32) (σ : St) : Option St := (if (σ.1 51 8) = 0 then x_Model_take_274 a1 (414 : Int32) k0 σ else (if (σ.1 51 8) = (3 : Int32) then x_Model_take_274 a1 (400 : Int32) k0 σ else x_Model_take_274 a1 (431 : Int32) k0 σ))
def x_Model_take_223 (a1 : Int32) (k0 : Int32) (σ : St) : Option St := (Option.bind (x_Model_blame k0 (400 : Int32) σ) (fun s226 => (if (80 : Int32) ≤ (s226.1 51 10) then x_Model_take_244 a1 (0 : Int32) s226 else x_Model_take_244 a1 (1 : Int32) s226)))
def x_Model_take_167 (a1 : Int32) (k0 : Int32) (σ : St) : Option St := (Option.bind (x_Model_blame k0 (400 : Int32) σ) (fun s170 => (x_let (x_updR s170 51 9 (0 : Int32)) (fun (s175 : St) => (if (s175.1 51 25) = 0 then (Option.bind (x_Model_takeLine s175) (fun s186 => (x_let (x_updR s186 51 10 (0 : Int32)) (fun (s191 : St) => some s191)))) else some s175)))))
def x_Model_take_126 (a1 : Int32) (k0 : Int32) (σ : St) : Option St := (x_let (x_updR σ 51 8 k0) (fun (s126 : St) => (if (s126.1 51 9) = 0 then (x_let (x_updR s126 51 9 (1 : Int32)) (fun (s142 : St) => some s142)) else (x_let (x_updR s126 51 9 (0 : Int32)) (fun (s142 : St) => some s142)))))
def x_Model_take_107 (a1 : Int32) (k0 : Int32) (σ : St) : Option St := (Option.bind (x_Model_blame k0 (400 : Int32) σ) (fun s110 => (if (s110.1 51 9) = 0 then x_Model_take_126 a1 (4 : Int32) s110 else x_Model_take_126 a1 (3 : Int32) s110)))
def x_Model_take_99 (a1 : Int32) (k0 : Int32) (k1 : Int32) (σ : St) : Option St := (if k1 = k0 then x_Model_take_107 a1 (1 : Int32) σ else x_Model_take_107 a1 (0 : Int32) σ)
def x_Model_take_75 (a1 : Int32) (σ : St) : Option St := (if (σ.1 51 8) = (4 : Int32) then (if (σ.1 51 9) = 0 then x_Model_take_99 a1 (13 : Int32) a1 σ else x_Model_take_99 a1 (10 : Int32) a1 σ) else (if (σ.1 51 9) = 0 then (if a1 = (13 : Int32) then (x_let (x_updR σ 51 9 (1 : Int32)) (fun (s205 : St) => some s205)) else (if a1 = (10 : Int32) then x_Model_take_223 a1 (0 : Int32) σ else x_Model_take_223 a1 (1 : Int32) σ)) else (if a1 = (10 : Int32) then x_Model_take_167 a1 (1 : Int32) σ else x_Model_take_167 a1 (0 : Int32) σ)))
def x_Model_take (a1 : Int32) (σ : St) : Option St := (if (σ.1 51 8) = (2 : Int32) then x_Model_take_23 a1 σ else (if (σ.1 51 8) = (4 : Int32) then (if (σ.1 51 21) ≤ 0 then x_Model_take_75 a1 σ else x_Model_take_23 a1 σ) else x_Model_take_75 a1 σ))
abbrev rm_Model_take : Room := { frames := 10, cells := 0, slots := 0, locals := 239 }
set_option maxHeartbeats 4000000 in
set_option maxRecDepth 100000 in
theorem t_Model_take (l : Launch) (G : xG) (σ : St) (a1 : Int32) (σ' : St) (hE : x_Model_take a1 σ = some σ') : Met l y_Model_take (ws_Model_take) rm_Model_take (xP G σ [.ref (G.2.1 51), .int a1]) (xQ G none σ') 0 0 (xA G) := by
  refine Met.ofW (cc := prog_14_method_14_code) (maxL := 2) (ret := none) (by decide) rfl ?_
  intro p e s m args below meth c s₁ B hml hv
  obtain ⟨rfl, hw, hC⟩ := hv
  have hx := B.exec
  have hb := B.bytes
  have hr := B.returns
  have hu : ∀ w ∈ UW, w.before _ s = true := fun w h => atoms_spec B.pre w (List.mem_cons_of_mem _ h)
  have hown : s.vm.findClass R_Model = some m.cls := findClass_of_methodNamed B.named
  have hlocks := B.notSynchronized
  have hK := hC.1
  have hI := hC.2.1
  have hG := hC.2.2.1
  have hN := hC.2.2.2
  have hS : va_S (xA G) s.heap s.heap [] := va_S.rf
  have jn23 : ∀ (ls : Array Slot) (H : Heap) (locs : List Loc) (σ : St), x_Model_take_23 a1 σ = some σ' → lv_has ls 2 [(0, .ref (G.2.1 51)), (1, .int a1)] → xw G σ H → va_S (xA G) s.heap H locs → W p l e (headSpec (ws_Model_take) rm_Model_take).room s m ([.ref (G.2.1 51), .int a1] : List Value).toArray below meth c H locs 0 0 (MQ below (xQ G none σ') ([.ref (G.2.1 51), .int a1] : List Value).toArray s 0 0 (xA G)) (F0 m 23 ls []) := by
    intro ls H locs σ hE hl hw hS
    unfold x_Model_take_23 at hE
    refine lv_aload_n hx hb d_Model_take_23 rfl (lv_at hl 0 rfl) ?_
    refine va_get (D := G.1) (cl := xCl) (ci := 10) (v := .ref (G.2.1 62)) (C := R_Model) (T := T_Model) (N := 33) hx hb hu fi_Model hown hK hw 51 (x_at (by decide) (xcl_51 G σ)) rfl 23 (by decide) (hu _ mw_1091) (fun _ h9 => h9) rfl d_Model_take_24 ?_
    refine lv_aload_n hx hb d_Model_take_27 rfl (lv_at hl 0 rfl) ?_
    refine va_get (D := G.1) (cl := xCl) (ci := 10) (v := .int (σ.1 51 22)) (C := R_Model) (T := T_Model) (N := 33) hx hb hu fi_Model hown hK hw 51 (x_at (by decide) (xcl_51 G σ)) rfl 22 (by decide) (hu _ mw_1090) (fun _ h9 => h9) rfl d_Model_take_28 ?_
    refine lv_iload_n hx hb d_Model_take_31 rfl (lv_at hl 1 rfl) ?_
    obtain ⟨g32, hE⟩ := x_guard hE
    refine va_iast hx hb hK hw (x_D hI _) hS 62 0 (x_at (by decide) (xcl_62 G σ)) rfl g32 d_Model_take_32 (fun H locs hw _ hS => ?_)
    replace hw := x_setM hw (by decide) (by decide)
    obtain ⟨s32, e32, hE⟩ := x_letE hE
    rw [← e32] at hw
    refine lv_aload_n hx hb d_Model_take_33 rfl (lv_at hl 0 rfl) ?_
    refine lv_dup hx hb d_Model_take_34 rfl ?_
    refine va_get (D := G.1) (cl := xCl) (ci := 10) (v := .int (s32.1 51 22)) (C := R_Model) (T := T_Model) (N := 33) hx hb hu fi_Model hown hK hw 51 (x_at (by decide) (xcl_51 G s32)) rfl 22 (by decide) (hu _ mw_1090) (fun _ h9 => h9) rfl d_Model_take_35 ?_
    refine lv_iconst (v := (1 : Int32)) hx hb d_Model_take_38 (by decide) ?_
    refine lv_iadd hx hb d_Model_take_39 ?_
    refine va_put (D := G.1) (cl := xCl) (ci := 10) (v := .int ((s32.1 51 22) + (1 : Int32))) (ty := .int) (C := R_Model) (T := T_Model) (N := 33) hx hb hu fi_Model ty_Model tyok_Model nm_Model hown hK hw (x_D hI _) hS 51 (x_at (by decide) (xcl_51 G s32)) rfl 22 (by decide) (hu _ mw_1090) (fun _ h9 => h9) rfl (tyok_Model 22 (by decide)) rfl rfl (Nat.le_of_ble_eq_true rfl) d_Model_take_40 (fun H locs hw _ hS => ?_)
    replace hw := x_setR hw (by decide) rfl
    obtain ⟨s40, e40, hE⟩ := x_letE hE
    rw [← e40] at hw
    refine lv_aload_n hx hb d_Model_take_43 rfl (lv_at hl 0 rfl) ?_
    refine lv_dup hx hb d_Model_take_44 rfl ?_
    refine va_get (D := G.1) (cl := xCl) (ci := 10) (v := .int (s40.1 51 21)) (C := R_Model) (T := T_Model) (N := 33) hx hb hu fi_Model hown hK hw 51 (x_at (by decide) (xcl_51 G s40)) rfl 21 (by decide) (hu _ mw_1089) (fun _ h9 => h9) rfl d_Model_take_45 ?_
    refine lv_iconst (v := (1 : Int32)) hx hb d_Model_take_48 (by decide) ?_
    refine lv_isub hx hb d_Model_take_49 ?_
    refine va_put (D := G.1) (cl := xCl) (ci := 10) (v := .int ((s40.1 51 21) - (1 : Int32))) (ty := .int) (C := R_Model) (T := T_Model) (N := 33) hx hb hu fi_Model ty_Model tyok_Model nm_Model hown hK hw (x_D hI _) hS 51 (x_at (by decide) (xcl_51 G s40)) rfl 21 (by decide) (hu _ mw_1089) (fun _ h9 => h9) rfl (tyok_Model 21 (by decide)) rfl rfl (Nat.le_of_ble_eq_true rfl) d_Model_take_50 (fun H locs hw _ hS => ?_)
    replace hw := x_setR hw (by decide) rfl
    obtain ⟨s50, e50, hE⟩ := x_letE hE
    rw [← e50] at hw
    refine lv_aload_n hx hb d_Model_take_53 rfl (lv_at hl 0 rfl) ?_
    refine va_get (D := G.1) (cl := xCl) (ci := 10) (v := .int (s50.1 51 8)) (C := R_Model) (T := T_Model) (N := 33) hx hb hu fi_Model hown hK hw 51 (x_at (by decide) (xcl_51 G s50)) rfl 8 (by decide) (hu _ mw_1076) (fun _ h9 => h9) rfl d_Model_take_54 ?_
    refine lv_iconst (v := (2 : Int32)) hx hb d_Model_take_57 (by decide) ?_
    refine lv_icmp_ne (tgt := 304) hx hb d_Model_take_58 (by decide) (fun hc58 => ?_) (fun hc58 => ?_)
    · rw [if_neg hc58] at hE
      have e1 := Option.some.inj hE
      exact W.vret hx hb hr (fun t ht hW => ⟨rfl, by rw [ht, ← e1]; exact hw, hS.F ht⟩) hS.2.2 d_Model_take_304
    · rw [if_pos hc58] at hE
      refine lv_aload_n hx hb d_Model_take_61 rfl (lv_at hl 0 rfl) ?_
      refine va_get (D := G.1) (cl := xCl) (ci := 10) (v := .int (s50.1 51 21)) (C := R_Model) (T := T_Model) (N := 33) hx hb hu fi_Model hown hK hw 51 (x_at (by decide) (xcl_51 G s50)) rfl 21 (by decide) (hu _ mw_1089) (fun _ h9 => h9) rfl d_Model_take_62 ?_
      refine lv_if_ne (tgt := 304) hx hb d_Model_take_65 (by decide) (fun hc65 => ?_) (fun hc65 => ?_)
      · rw [if_neg hc65] at hE
        have e1 := Option.some.inj hE
        exact W.vret hx hb hr (fun t ht hW => ⟨rfl, by rw [ht, ← e1]; exact hw, hS.F ht⟩) hS.2.2 d_Model_take_304
      · rw [if_pos hc65] at hE
        refine lv_aload_n hx hb d_Model_take_68 rfl (lv_at hl 0 rfl) ?_
        obtain ⟨s69, hC69, hE⟩ := x_bind hE
        refine x_callV hS (W.runV (As := []) (rest := []) ⟨hx, hb, hml, hown, hu⟩ (t_Model_answer l G s50 s69 hC69) (cwV 0 hu (uw_V mw_1186 mw_1188 mw_24 mw_70 mw_1189) rfl rfl rfl hd_Model_answer ⟨Nat.le_of_ble_eq_true rfl, Nat.le_of_ble_eq_true rfl⟩) (x_preV hC hS hw (va_recv hK hw (q := (R_Model, T_Model, 33)) (ci := 10) rfl (x_at (by decide) (xcl_51 G s50)))) rfl rfl hl.1 rfl (lv_room (Nat.le_of_ble_eq_true rfl)) d_Model_take_69 ⟨Nat.le_of_ble_eq_true rfl, Nat.le_of_ble_eq_true rfl⟩) (fun H locs hw hS => ?_)
        refine lv_goto (tgt := 304) hx hb d_Model_take_72 (by decide) ?_
        have e1 := Option.some.inj hE
        exact W.vret hx hb hr (fun t ht hW => ⟨rfl, by rw [ht, ← e1]; exact hw, hS.F ht⟩) hS.2.2 d_Model_take_304
  have jn274 : ∀ (ls : Array Slot) (H : Heap) (locs : List Loc) (σ : St) (k0 : Int32) (k1 : Int32), x_Model_take_274 a1 k0 k1 σ = some σ' → lv_has ls 2 [(0, .ref (G.2.1 51)), (1, .int a1)] → xw G σ H → va_S (xA G) s.heap H locs → W p l e (headSpec (ws_Model_take) rm_Model_take).room s m ([.ref (G.2.1 51), .int a1] : List Value).toArray below meth c H locs 0 0 (MQ below (xQ G none σ') ([.ref (G.2.1 51), .int a1] : List Value).toArray s 0 0 (xA G)) (F0 m 274 ls [.int k0, .int k1, .ref (G.2.1 51)]) := by
    intro ls H locs σ k0 k1 hE hl hw hS
    unfold x_Model_take_274 at hE
    obtain ⟨s274, hC274, hE⟩ := x_bind hE
    refine x_callV hS (W.runV (As := [.int k1, .int k0]) (rest := []) ⟨hx, hb, hml, hown, hu⟩ (t_Model_blame l G σ k1 k0 s274 hC274) (cwV 2 hu (uw_V mw_1279 mw_1281 mw_45 mw_70 mw_1282) rfl rfl rfl hd_Model_blame ⟨Nat.le_of_ble_eq_true rfl, Nat.le_of_ble_eq_true rfl⟩) (x_preV hC hS hw (va_recv hK hw (q := (R_Model, T_Model, 33)) (ci := 10) rfl (x_at (by decide) (xcl_51 G σ)))) rfl rfl hl.1 rfl (lv_room (Nat.le_of_ble_eq_true rfl)) d_Model_take_274 ⟨Nat.le_of_ble_eq_true rfl, Nat.le_of_ble_eq_true rfl⟩) (fun H locs hw hS => ?_)
    refine lv_aload_n hx hb d_Model_take_277 rfl (lv_at hl 0 rfl) ?_
    refine va_get (D := G.1) (cl := xCl) (ci := 10) (v := .int (s274.1 51 25)) (C := R_Model) (T := T_Model) (N := 33) hx hb hu fi_Model hown hK hw 51 (x_at (by decide) (xcl_51 G s274)) rfl 25 (by decide) (hu _ mw_1093) (fun _ h9 => h9) rfl d_Model_take_278 ?_
    refine lv_if_ne (tgt := 304) hx hb d_Model_take_281 (by decide) (fun hc281 => ?_) (fun hc281 => ?_)
    · rw [if_neg hc281] at hE
      have e1 := Option.some.inj hE
      exact W.vret hx hb hr (fun t ht hW => ⟨rfl, by rw [ht, ← e1]; exact hw, hS.F ht⟩) hS.2.2 d_Model_take_304
    · rw [if_pos hc281] at hE
      refine lv_aload_n hx hb d_Model_take_284 rfl (lv_at hl 0 rfl) ?_
      refine va_get (D := G.1) (cl := xCl) (ci := 10) (v := .ref (G.2.1 57)) (C := R_Model) (T := T_Model) (N := 33) hx hb hu fi_Model hown hK hw 51 (x_at (by decide) (xcl_51 G s274)) rfl 11 (by decide) (hu _ mw_1079) (fun _ h9 => h9) rfl d_Model_take_285 ?_
      refine lv_aload_n hx hb d_Model_take_288 rfl (lv_at hl 0 rfl) ?_
      refine va_get (D := G.1) (cl := xCl) (ci := 10) (v := .int (s274.1 51 10)) (C := R_Model) (T := T_Model) (N := 33) hx hb hu fi_Model hown hK hw 51 (x_at (by decide) (xcl_51 G s274)) rfl 10 (by decide) (hu _ mw_1078) (fun _ h9 => h9) rfl d_Model_take_289 ?_
      refine lv_iload_n hx hb d_Model_take_292 rfl (lv_at hl 1 rfl) ?_
      obtain ⟨g293, hE⟩ := x_guard hE
      refine va_iast hx hb hK hw (x_D hI _) hS 57 0 (x_at (by decide) (xcl_57 G s274)) rfl g293 d_Model_take_293 (fun H locs hw _ hS => ?_)
      replace hw := x_setM hw (by decide) (by decide)
      obtain ⟨s293, e293, hE⟩ := x_letE hE
      rw [← e293] at hw
      refine lv_aload_n hx hb d_Model_take_294 rfl (lv_at hl 0 rfl) ?_
      refine lv_dup hx hb d_Model_take_295 rfl ?_
      refine va_get (D := G.1) (cl := xCl) (ci := 10) (v := .int (s293.1 51 10)) (C := R_Model) (T := T_Model) (N := 33) hx hb hu fi_Model hown hK hw 51 (x_at (by decide) (xcl_51 G s293)) rfl 10 (by decide) (hu _ mw_1078) (fun _ h9 => h9) rfl d_Model_take_296 ?_
      refine lv_iconst (v := (1 : Int32)) hx hb d_Model_take_299 (by decide) ?_
      refine lv_iadd hx hb d_Model_take_300 ?_
      refine va_put (D := G.1) (cl := xCl) (ci := 10) (v := .int ((s293.1 51 10) + (1 : Int32))) (ty := .int) (C := R_Model) (T := T_Model) (N := 33) hx hb hu fi_Model ty_Model tyok_Model nm_Model hown hK hw (x_D hI _) hS 51 (x_at (by decide) (xcl_51 G s293)) rfl 10 (by decide) (hu _ mw_1078) (fun _ h9 => h9) rfl (tyok_Model 10 (by decide)) rfl rfl (Nat.le_of_ble_eq_true rfl) d_Model_take_301 (fun H locs hw _ hS => ?_)
      replace hw := x_setR hw (by decide) rfl
      obtain ⟨s301, e301, hE⟩ := x_letE hE
      rw [← e301] at hw
      have e1 := Option.some.inj hE
      exact W.vret hx hb hr (fun t ht hW => ⟨rfl, by rw [ht, ← e1]; exact hw, hS.F ht⟩) hS.2.2 d_Model_take_304
  have jn244 : ∀ (ls : Array Slot) (H : Heap) (locs : List Loc) (σ : St) (k0 : Int32), x_Model_take_244 a1 k0 σ = some σ' → lv_has ls 2 [(0, .ref (G.2.1 51)), (1, .int a1)] → xw G σ H → va_S (xA G) s.heap H locs → W p l e (headSpec (ws_Model_take) rm_Model_take).room s m ([.ref (G.2.1 51), .int a1] : List Value).toArray below meth c H locs 0 0 (MQ below (xQ G none σ') ([.ref (G.2.1 51), .int a1] : List Value).toArray s 0 0 (xA G)) (F0 m 244 ls [.int k0, .ref (G.2.1 51)]) := by
    intro ls H locs σ k0 hE hl hw hS
    unfold x_Model_take_244 at hE
    refine lv_aload_n hx hb d_Model_take_244 rfl (lv_at hl 0 rfl) ?_
    refine va_get (D := G.1) (cl := xCl) (ci := 10) (v := .int (σ.1 51 8)) (C := R_Model) (T := T_Model) (N := 33) hx hb hu fi_Model hown hK hw 51 (x_at (by decide) (xcl_51 G σ)) rfl 8 (by decide) (hu _ mw_1076) (fun _ h9 => h9) rfl d_Model_take_245 ?_
    refine lv_if_ne (tgt := 257) hx hb d_Model_take_248 (by decide) (fun hc248 => ?_) (fun hc248 => ?_)
    · rw [if_neg hc248] at hE
      refine lv_aload_n hx hb d_Model_take_257 rfl (lv_at hl 0 rfl) ?_
      refine va_get (D := G.1) (cl := xCl) (ci := 10) (v := .int (σ.1 51 8)) (C := R_Model) (T := T_Model) (N := 33) hx hb hu fi_Model hown hK hw 51 (x_at (by decide) (xcl_51 G σ)) rfl 8 (by decide) (hu _ mw_1076) (fun _ h9 => h9) rfl d_Model_take_258 ?_
      refine lv_iconst (v := (3 : Int32)) hx hb d_Model_take_261 (by decide) ?_
      refine lv_icmp_ne (tgt := 271) hx hb d_Model_take_262 (by decide) (fun hc262 => ?_) (fun hc262 => ?_)
      · rw [if_neg hc262] at hE
        refine lv_sipush (v := (431 : Int32)) hx hb d_Model_take_271 (by decide) ?_
        exact jn274 _ _ _ _ _ _ hE (lv_sub hl [0, 1] rfl) hw hS
      · rw [if_pos hc262] at hE
        refine lv_sipush (v := (400 : Int32)) hx hb d_Model_take_265 (by decide) ?_
        refine lv_goto (tgt := 274) hx hb d_Model_take_268 (by decide) ?_
        exact jn274 _ _ _ _ _ _ hE (lv_sub hl [0, 1] rfl) hw hS
    · rw [if_pos hc248] at hE
      refine lv_sipush (v := (414 : Int32)) hx hb d_Model_take_251 (by decide) ?_
      refine lv_goto (tgt := 274) hx hb d_Model_take_254 (by decide) ?_
      exact jn274 _ _ _ _ _ _ hE (lv_sub hl [0, 1] rfl) hw hS
  have jn223 : ∀ (ls : Array Slot) (H : Heap) (locs : List Loc) (σ : St) (k0 : Int32), x_Model_take_223 a1 k0 σ = some σ' → lv_has ls 2 [(0, .ref (G.2.1 51)), (1, .int a1)] → xw G σ H → va_S (xA G) s.heap H locs → W p l e (headSpec (ws_Model_take) rm_Model_take).room s m ([.ref (G.2.1 51), .int a1] : List Value).toArray below meth c H locs 0 0 (MQ below (xQ G none σ') ([.ref (G.2.1 51), .int a1] : List Value).toArray s 0 0 (xA G)) (F0 m 223 ls [.int k0, .ref (G.2.1 51)]) := by
    intro ls H locs σ k0 hE hl hw hS
    unfold x_Model_take_223 at hE
    refine lv_sipush (v := (400 : Int32)) hx hb d_Model_take_223 (by decide) ?_
    obtain ⟨s226, hC226, hE⟩ := x_bind hE
    refine x_callV hS (W.runV (As := [.int k0, .int (400 : Int32)]) (rest := []) ⟨hx, hb, hml, hown, hu⟩ (t_Model_blame l G σ k0 (400 : Int32) s226 hC226) (cwV 2 hu (uw_V mw_1279 mw_1281 mw_45 mw_70 mw_1282) rfl rfl rfl hd_Model_blame ⟨Nat.le_of_ble_eq_true rfl, Nat.le_of_ble_eq_true rfl⟩) (x_preV hC hS hw (va_recv hK hw (q := (R_Model, T_Model, 33)) (ci := 10) rfl (x_at (by decide) (xcl_51 G σ)))) rfl rfl hl.1 rfl (lv_room (Nat.le_of_ble_eq_true rfl)) d_Model_take_226 ⟨Nat.le_of_ble_eq_true rfl, Nat.le_of_ble_eq_true rfl⟩) (fun H locs hw hS => ?_)
    refine lv_aload_n hx hb d_Model_take_229 rfl (lv_at hl 0 rfl) ?_
    refine lv_aload_n hx hb d_Model_take_230 rfl (lv_at hl 0 rfl) ?_
    refine va_get (D := G.1) (cl := xCl) (ci := 10) (v := .int (s226.1 51 10)) (C := R_Model) (T := T_Model) (N := 33) hx hb hu fi_Model hown hK hw 51 (x_at (by decide) (xcl_51 G s226)) rfl 10 (by decide) (hu _ mw_1078) (fun _ h9 => h9) rfl d_Model_take_231 ?_
    refine lv_bipush (v := (80 : Int32)) hx hb d_Model_take_234 (by decide) ?_
    refine lv_icmp_ge (tgt := 243) hx hb d_Model_take_236 (by decide) (fun hc236 => ?_) (fun hc236 => ?_)
    · rw [if_pos hc236] at hE
      refine lv_iconst (v := (0 : Int32)) hx hb d_Model_take_243 (by decide) ?_
      exact jn244 _ _ _ _ _ hE (lv_sub hl [0, 1] rfl) hw hS
    · rw [if_neg hc236] at hE
      refine lv_iconst (v := (1 : Int32)) hx hb d_Model_take_239 (by decide) ?_
      refine lv_goto (tgt := 244) hx hb d_Model_take_240 (by decide) ?_
      exact jn244 _ _ _ _ _ hE (lv_sub hl [0, 1] rfl) hw hS
  have jn167 : ∀ (ls : Array Slot) (H : Heap) (locs : List Loc) (σ : St) (k0 : Int32), x_Model_take_167 a1 k0 σ = some σ' → lv_has ls 2 [(0, .ref (G.2.1 51)), (1, .int a1)] → xw G σ H → va_S (xA G) s.heap H locs → W p l e (headSpec (ws_Model_take) rm_Model_take).room s m ([.ref (G.2.1 51), .int a1] : List Value).toArray below meth c H locs 0 0 (MQ below (xQ G none σ') ([.ref (G.2.1 51), .int a1] : List Value).toArray s 0 0 (xA G)) (F0 m 167 ls [.int k0, .ref (G.2.1 51)]) := by
    intro ls H locs σ k0 hE hl hw hS
    unfold x_Model_take_167 at hE
    refine lv_sipush (v := (400 : Int32)) hx hb d_Model_take_167 (by decide) ?_
    obtain ⟨s170, hC170, hE⟩ := x_bind hE
    refine x_callV hS (W.runV (As := [.int k0, .int (400 : Int32)]) (rest := []) ⟨hx, hb, hml, hown, hu⟩ (t_Model_blame l G σ k0 (400 : Int32) s170 hC170) (cwV 2 hu (uw_V mw_1279 mw_1281 mw_45 mw_70 mw_1282) rfl rfl rfl hd_Model_blame ⟨Nat.le_of_ble_eq_true rfl, Nat.le_of_ble_eq_true rfl⟩) (x_preV hC hS hw (va_recv hK hw (q := (R_Model, T_Model, 33)) (ci := 10) rfl (x_at (by decide) (xcl_51 G σ)))) rfl rfl hl.1 rfl (lv_room (Nat.le_of_ble_eq_true rfl)) d_Model_take_170 ⟨Nat.le_of_ble_eq_true rfl, Nat.le_of_ble_eq_true rfl⟩) (fun H locs hw hS => ?_)
    refine lv_aload_n hx hb d_Model_take_173 rfl (lv_at hl 0 rfl) ?_
    refine lv_iconst (v := (0 : Int32)) hx hb d_Model_take_174 (by decide) ?_
    refine va_put (D := G.1) (cl := xCl) (ci := 10) (v := .int (0 : Int32)) (ty := .boolean) (C := R_Model) (T := T_Model) (N := 33) hx hb hu fi_Model ty_Model tyok_Model nm_Model hown hK hw (x_D hI _) hS 51 (x_at (by decide) (xcl_51 G s170)) rfl 9 (by decide) (hu _ mw_1077) (fun _ h9 => h9) rfl (tyok_Model 9 (by decide)) rfl rfl (Nat.le_of_ble_eq_true rfl) d_Model_take_175 (fun H locs hw _ hS => ?_)
    replace hw := x_setR hw (by decide) rfl
    obtain ⟨s175, e175, hE⟩ := x_letE hE
    rw [← e175] at hw
    refine lv_aload_n hx hb d_Model_take_178 rfl (lv_at hl 0 rfl) ?_
    refine va_get (D := G.1) (cl := xCl) (ci := 10) (v := .int (s175.1 51 25)) (C := R_Model) (T := T_Model) (N := 33) hx hb hu fi_Model hown hK hw 51 (x_at (by decide) (xcl_51 G s175)) rfl 25 (by decide) (hu _ mw_1093) (fun _ h9 => h9) rfl d_Model_take_179 ?_
    refine lv_if_ne (tgt := 304) hx hb d_Model_take_182 (by decide) (fun hc182 => ?_) (fun hc182 => ?_)
    · rw [if_neg hc182] at hE
      have e1 := Option.some.inj hE
      exact W.vret hx hb hr (fun t ht hW => ⟨rfl, by rw [ht, ← e1]; exact hw, hS.F ht⟩) hS.2.2 d_Model_take_304
    · rw [if_pos hc182] at hE
      refine lv_aload_n hx hb d_Model_take_185 rfl (lv_at hl 0 rfl) ?_
      obtain ⟨s186, hC186, hE⟩ := x_bind hE
      refine x_callV hS (W.runV (As := []) (rest := []) ⟨hx, hb, hml, hown, hu⟩ (t_Model_takeLine l G s175 s186 hC186) (cwV 0 hu (uw_V mw_1283 mw_1285 mw_46 mw_70 mw_1286) rfl rfl rfl hd_Model_takeLine ⟨Nat.le_of_ble_eq_true rfl, Nat.le_of_ble_eq_true rfl⟩) (x_preV hC hS hw (va_recv hK hw (q := (R_Model, T_Model, 33)) (ci := 10) rfl (x_at (by decide) (xcl_51 G s175)))) rfl rfl hl.1 rfl (lv_room (Nat.le_of_ble_eq_true rfl)) d_Model_take_186 ⟨Nat.le_of_ble_eq_true rfl, Nat.le_of_ble_eq_true rfl⟩) (fun H locs hw hS => ?_)
      refine lv_aload_n hx hb d_Model_take_189 rfl (lv_at hl 0 rfl) ?_
      refine lv_iconst (v := (0 : Int32)) hx hb d_Model_take_190 (by decide) ?_
      refine va_put (D := G.1) (cl := xCl) (ci := 10) (v := .int (0 : Int32)) (ty := .int) (C := R_Model) (T := T_Model) (N := 33) hx hb hu fi_Model ty_Model tyok_Model nm_Model hown hK hw (x_D hI _) hS 51 (x_at (by decide) (xcl_51 G s186)) rfl 10 (by decide) (hu _ mw_1078) (fun _ h9 => h9) rfl (tyok_Model 10 (by decide)) rfl rfl (Nat.le_of_ble_eq_true rfl) d_Model_take_191 (fun H locs hw _ hS => ?_)
      replace hw := x_setR hw (by decide) rfl
      obtain ⟨s191, e191, hE⟩ := x_letE hE
      rw [← e191] at hw
      refine lv_goto (tgt := 304) hx hb d_Model_take_194 (by decide) ?_
      have e1 := Option.some.inj hE
      exact W.vret hx hb hr (fun t ht hW => ⟨rfl, by rw [ht, ← e1]; exact hw, hS.F ht⟩) hS.2.2 d_Model_take_304
  have jn126 : ∀ (ls : Array Slot) (H : Heap) (locs : List Loc) (σ : St) (k0 : Int32), x_Model_take_126 a1 k0 σ = some σ' → lv_has ls 2 [(0, .ref (G.2.1 51)), (1, .int a1)] → xw G σ H → va_S (xA G) s.heap H locs → W p l e (headSpec (ws_Model_take) rm_Model_take).room s m ([.ref (G.2.1 51), .int a1] : List Value).toArray below meth c H locs 0 0 (MQ below (xQ G none σ') ([.ref (G.2.1 51), .int a1] : List Value).toArray s 0 0 (xA G)) (F0 m 126 ls [.int k0, .ref (G.2.1 51)]) := by
    intro ls H locs σ k0 hE hl hw hS
    unfold x_Model_take_126 at hE
    refine va_put (D := G.1) (cl := xCl) (ci := 10) (v := .int k0) (ty := .int) (C := R_Model) (T := T_Model) (N := 33) hx hb hu fi_Model ty_Model tyok_Model nm_Model hown hK hw (x_D hI _) hS 51 (x_at (by decide) (xcl_51 G σ)) rfl 8 (by decide) (hu _ mw_1076) (fun _ h9 => h9) rfl (tyok_Model 8 (by decide)) rfl rfl (Nat.le_of_ble_eq_true rfl) d_Model_take_126 (fun H locs hw _ hS => ?_)
    replace hw := x_setR hw (by decide) rfl
    obtain ⟨s126, e126, hE⟩ := x_letE hE
    rw [← e126] at hw
    refine lv_aload_n hx hb d_Model_take_129 rfl (lv_at hl 0 rfl) ?_
    refine lv_aload_n hx hb d_Model_take_130 rfl (lv_at hl 0 rfl) ?_
    refine va_get (D := G.1) (cl := xCl) (ci := 10) (v := .int (s126.1 51 9)) (C := R_Model) (T := T_Model) (N := 33) hx hb hu fi_Model hown hK hw 51 (x_at (by decide) (xcl_51 G s126)) rfl 9 (by decide) (hu _ mw_1077) (fun _ h9 => h9) rfl d_Model_take_131 ?_
    refine lv_if_ne (tgt := 141) hx hb d_Model_take_134 (by decide) (fun hc134 => ?_) (fun hc134 => ?_)
    · rw [if_neg hc134] at hE
      refine lv_iconst (v := (0 : Int32)) hx hb d_Model_take_141 (by decide) ?_
      refine va_put (D := G.1) (cl := xCl) (ci := 10) (v := .int (0 : Int32)) (ty := .boolean) (C := R_Model) (T := T_Model) (N := 33) hx hb hu fi_Model ty_Model tyok_Model nm_Model hown hK hw (x_D hI _) hS 51 (x_at (by decide) (xcl_51 G s126)) rfl 9 (by decide) (hu _ mw_1077) (fun _ h9 => h9) rfl (tyok_Model 9 (by decide)) rfl rfl (Nat.le_of_ble_eq_true rfl) d_Model_take_142 (fun H locs hw _ hS => ?_)
      replace hw := x_setR hw (by decide) rfl
      obtain ⟨s142, e142, hE⟩ := x_letE hE
      rw [← e142] at hw
      refine lv_goto (tgt := 304) hx hb d_Model_take_145 (by decide) ?_
      have e1 := Option.some.inj hE
      exact W.vret hx hb hr (fun t ht hW => ⟨rfl, by rw [ht, ← e1]; exact hw, hS.F ht⟩) hS.2.2 d_Model_take_304
    · rw [if_pos hc134] at hE
      refine lv_iconst (v := (1 : Int32)) hx hb d_Model_take_137 (by decide) ?_
      refine lv_goto (tgt := 142) hx hb d_Model_take_138 (by decide) ?_
      refine va_put (D := G.1) (cl := xCl) (ci := 10) (v := .int (1 : Int32)) (ty := .boolean) (C := R_Model) (T := T_Model) (N := 33) hx hb hu fi_Model ty_Model tyok_Model nm_Model hown hK hw (x_D hI _) hS 51 (x_at (by decide) (xcl_51 G s126)) rfl 9 (by decide) (hu _ mw_1077) (fun _ h9 => h9) rfl (tyok_Model 9 (by decide)) rfl rfl (Nat.le_of_ble_eq_true rfl) d_Model_take_142 (fun H locs hw _ hS => ?_)
      replace hw := x_setR hw (by decide) rfl
      obtain ⟨s142, e142, hE⟩ := x_letE hE
      rw [← e142] at hw
      refine lv_goto (tgt := 304) hx hb d_Model_take_145 (by decide) ?_
      have e1 := Option.some.inj hE
      exact W.vret hx hb hr (fun t ht hW => ⟨rfl, by rw [ht, ← e1]; exact hw, hS.F ht⟩) hS.2.2 d_Model_take_304
  have jn107 : ∀ (ls : Array Slot) (H : Heap) (locs : List Loc) (σ : St) (k0 : Int32), x_Model_take_107 a1 k0 σ = some σ' → lv_has ls 2 [(0, .ref (G.2.1 51)), (1, .int a1)] → xw G σ H → va_S (xA G) s.heap H locs → W p l e (headSpec (ws_Model_take) rm_Model_take).room s m ([.ref (G.2.1 51), .int a1] : List Value).toArray below meth c H locs 0 0 (MQ below (xQ G none σ') ([.ref (G.2.1 51), .int a1] : List Value).toArray s 0 0 (xA G)) (F0 m 107 ls [.int k0, .ref (G.2.1 51)]) := by
    intro ls H locs σ k0 hE hl hw hS
    unfold x_Model_take_107 at hE
    refine lv_sipush (v := (400 : Int32)) hx hb d_Model_take_107 (by decide) ?_
    obtain ⟨s110, hC110, hE⟩ := x_bind hE
    refine x_callV hS (W.runV (As := [.int k0, .int (400 : Int32)]) (rest := []) ⟨hx, hb, hml, hown, hu⟩ (t_Model_blame l G σ k0 (400 : Int32) s110 hC110) (cwV 2 hu (uw_V mw_1279 mw_1281 mw_45 mw_70 mw_1282) rfl rfl rfl hd_Model_blame ⟨Nat.le_of_ble_eq_true rfl, Nat.le_of_ble_eq_true rfl⟩) (x_preV hC hS hw (va_recv hK hw (q := (R_Model, T_Model, 33)) (ci := 10) rfl (x_at (by decide) (xcl_51 G σ)))) rfl rfl hl.1 rfl (lv_room (Nat.le_of_ble_eq_true rfl)) d_Model_take_110 ⟨Nat.le_of_ble_eq_true rfl, Nat.le_of_ble_eq_true rfl⟩) (fun H locs hw hS => ?_)
    refine lv_aload_n hx hb d_Model_take_113 rfl (lv_at hl 0 rfl) ?_
    refine lv_aload_n hx hb d_Model_take_114 rfl (lv_at hl 0 rfl) ?_
    refine va_get (D := G.1) (cl := xCl) (ci := 10) (v := .int (s110.1 51 9)) (C := R_Model) (T := T_Model) (N := 33) hx hb hu fi_Model hown hK hw 51 (x_at (by decide) (xcl_51 G s110)) rfl 9 (by decide) (hu _ mw_1077) (fun _ h9 => h9) rfl d_Model_take_115 ?_
    refine lv_if_eq (tgt := 125) hx hb d_Model_take_118 (by decide) (fun hc118 => ?_) (fun hc118 => ?_)
    · rw [if_pos hc118] at hE
      refine lv_iconst (v := (4 : Int32)) hx hb d_Model_take_125 (by decide) ?_
      exact jn126 _ _ _ _ _ hE (lv_sub hl [0, 1] rfl) hw hS
    · rw [if_neg hc118] at hE
      refine lv_iconst (v := (3 : Int32)) hx hb d_Model_take_121 (by decide) ?_
      refine lv_goto (tgt := 126) hx hb d_Model_take_122 (by decide) ?_
      exact jn126 _ _ _ _ _ hE (lv_sub hl [0, 1] rfl) hw hS
  have jn99 : ∀ (ls : Array Slot) (H : Heap) (locs : List Loc) (σ : St) (k0 : Int32) (k1 : Int32), x_Model_take_99 a1 k0 k1 σ = some σ' → lv_has ls 2 [(0, .ref (G.2.1 51)), (1, .int a1)] → xw G σ H → va_S (xA G) s.heap H locs → W p l e (headSpec (ws_Model_take) rm_Model_take).room s m ([.ref (G.2.1 51), .int a1] : List Value).toArray below meth c H locs 0 0 (MQ below (xQ G none σ') ([.ref (G.2.1 51), .int a1] : List Value).toArray s 0 0 (xA G)) (F0 m 99 ls [.int k0, .int k1, .ref (G.2.1 51)]) := by
    intro ls H locs σ k0 k1 hE hl hw hS
    unfold x_Model_take_99 at hE
    refine lv_icmp_ne (tgt := 106) hx hb d_Model_take_99 (by decide) (fun hc99 => ?_) (fun hc99 => ?_)
    · rw [if_neg hc99] at hE
      refine lv_iconst (v := (0 : Int32)) hx hb d_Model_take_106 (by decide) ?_
      exact jn107 _ _ _ _ _ hE (lv_sub hl [0, 1] rfl) hw hS
    · rw [if_pos hc99] at hE
      refine lv_iconst (v := (1 : Int32)) hx hb d_Model_take_102 (by decide) ?_
      refine lv_goto (tgt := 107) hx hb d_Model_take_103 (by decide) ?_
      exact jn107 _ _ _ _ _ hE (lv_sub hl [0, 1] rfl) hw hS
  have jn75 : ∀ (ls : Array Slot) (H : Heap) (locs : List Loc) (σ : St), x_Model_take_75 a1 σ = some σ' → lv_has ls 2 [(0, .ref (G.2.1 51)), (1, .int a1)] → xw G σ H → va_S (xA G) s.heap H locs → W p l e (headSpec (ws_Model_take) rm_Model_take).room s m ([.ref (G.2.1 51), .int a1] : List Value).toArray below meth c H locs 0 0 (MQ below (xQ G none σ') ([.ref (G.2.1 51), .int a1] : List Value).toArray s 0 0 (xA G)) (F0 m 75 ls []) := by
    intro ls H locs σ hE hl hw hS
    unfold x_Model_take_75 at hE
    refine lv_aload_n hx hb d_Model_take_75 rfl (lv_at hl 0 rfl) ?_
    refine va_get (D := G.1) (cl := xCl) (ci := 10) (v := .int (σ.1 51 8)) (C := R_Model) (T := T_Model) (N := 33) hx hb hu fi_Model hown hK hw 51 (x_at (by decide) (xcl_51 G σ)) rfl 8 (by decide) (hu _ mw_1076) (fun _ h9 => h9) rfl d_Model_take_76 ?_
    refine lv_iconst (v := (4 : Int32)) hx hb d_Model_take_79 (by decide) ?_
    refine lv_icmp_ne (tgt := 148) hx hb d_Model_take_80 (by decide) (fun hc80 => ?_) (fun hc80 => ?_)
    · rw [if_neg hc80] at hE
      refine lv_aload_n hx hb d_Model_take_148 rfl (lv_at hl 0 rfl) ?_
      refine va_get (D := G.1) (cl := xCl) (ci := 10) (v := .int (σ.1 51 9)) (C := R_Model) (T := T_Model) (N := 33) hx hb hu fi_Model hown hK hw 51 (x_at (by decide) (xcl_51 G σ)) rfl 9 (by decide) (hu _ mw_1077) (fun _ h9 => h9) rfl d_Model_take_149 ?_
      refine lv_if_eq (tgt := 197) hx hb d_Model_take_152 (by decide) (fun hc152 => ?_) (fun hc152 => ?_)
      · rw [if_pos hc152] at hE
        refine lv_iload_n hx hb d_Model_take_197 rfl (lv_at hl 1 rfl) ?_
        refine lv_bipush (v := (13 : Int32)) hx hb d_Model_take_198 (by decide) ?_
        refine lv_icmp_ne (tgt := 211) hx hb d_Model_take_200 (by decide) (fun hc200 => ?_) (fun hc200 => ?_)
        · rw [if_neg hc200] at hE
          refine lv_aload_n hx hb d_Model_take_211 rfl (lv_at hl 0 rfl) ?_
          refine lv_iload_n hx hb d_Model_take_212 rfl (lv_at hl 1 rfl) ?_
          refine lv_bipush (v := (10 : Int32)) hx hb d_Model_take_213 (by decide) ?_
          refine lv_icmp_eq (tgt := 222) hx hb d_Model_take_215 (by decide) (fun hc215 => ?_) (fun hc215 => ?_)
          · rw [if_pos hc215] at hE
            refine lv_iconst (v := (0 : Int32)) hx hb d_Model_take_222 (by decide) ?_
            exact jn223 _ _ _ _ _ hE (lv_sub hl [0, 1] rfl) hw hS
          · rw [if_neg hc215] at hE
            refine lv_iconst (v := (1 : Int32)) hx hb d_Model_take_218 (by decide) ?_
            refine lv_goto (tgt := 223) hx hb d_Model_take_219 (by decide) ?_
            exact jn223 _ _ _ _ _ hE (lv_sub hl [0, 1] rfl) hw hS
        · rw [if_pos hc200] at hE
          refine lv_aload_n hx hb d_Model_take_203 rfl (lv_at hl 0 rfl) ?_
          refine lv_iconst (v := (1 : Int32)) hx hb d_Model_take_204 (by decide) ?_
          refine va_put (D := G.1) (cl := xCl) (ci := 10) (v := .int (1 : Int32)) (ty := .boolean) (C := R_Model) (T := T_Model) (N := 33) hx hb hu fi_Model ty_Model tyok_Model nm_Model hown hK hw (x_D hI _) hS 51 (x_at (by decide) (xcl_51 G σ)) rfl 9 (by decide) (hu _ mw_1077) (fun _ h9 => h9) rfl (tyok_Model 9 (by decide)) rfl rfl (Nat.le_of_ble_eq_true rfl) d_Model_take_205 (fun H locs hw _ hS => ?_)
          replace hw := x_setR hw (by decide) rfl
          obtain ⟨s205, e205, hE⟩ := x_letE hE
          rw [← e205] at hw
          refine lv_goto (tgt := 304) hx hb d_Model_take_208 (by decide) ?_
          have e1 := Option.some.inj hE
          exact W.vret hx hb hr (fun t ht hW => ⟨rfl, by rw [ht, ← e1]; exact hw, hS.F ht⟩) hS.2.2 d_Model_take_304
      · rw [if_neg hc152] at hE
        refine lv_aload_n hx hb d_Model_take_155 rfl (lv_at hl 0 rfl) ?_
        refine lv_iload_n hx hb d_Model_take_156 rfl (lv_at hl 1 rfl) ?_
        refine lv_bipush (v := (10 : Int32)) hx hb d_Model_take_157 (by decide) ?_
        refine lv_icmp_ne (tgt := 166) hx hb d_Model_take_159 (by decide) (fun hc159 => ?_) (fun hc159 => ?_)
        · rw [if_neg hc159] at hE
          refine lv_iconst (v := (0 : Int32)) hx hb d_Model_take_166 (by decide) ?_
          exact jn167 _ _ _ _ _ hE (lv_sub hl [0, 1] rfl) hw hS
        · rw [if_pos hc159] at hE
          refine lv_iconst (v := (1 : Int32)) hx hb d_Model_take_162 (by decide) ?_
          refine lv_goto (tgt := 167) hx hb d_Model_take_163 (by decide) ?_
          exact jn167 _ _ _ _ _ hE (lv_sub hl [0, 1] rfl) hw hS
    · rw [if_pos hc80] at hE
      refine lv_aload_n hx hb d_Model_take_83 rfl (lv_at hl 0 rfl) ?_
      refine lv_iload_n hx hb d_Model_take_84 rfl (lv_at hl 1 rfl) ?_
      refine lv_aload_n hx hb d_Model_take_85 rfl (lv_at hl 0 rfl) ?_
      refine va_get (D := G.1) (cl := xCl) (ci := 10) (v := .int (σ.1 51 9)) (C := R_Model) (T := T_Model) (N := 33) hx hb hu fi_Model hown hK hw 51 (x_at (by decide) (xcl_51 G σ)) rfl 9 (by decide) (hu _ mw_1077) (fun _ h9 => h9) rfl d_Model_take_86 ?_
      refine lv_if_eq (tgt := 97) hx hb d_Model_take_89 (by decide) (fun hc89 => ?_) (fun hc89 => ?_)
      · rw [if_pos hc89] at hE
        refine lv_bipush (v := (13 : Int32)) hx hb d_Model_take_97 (by decide) ?_
        exact jn99 _ _ _ _ _ _ hE (lv_sub hl [0, 1] rfl) hw hS
      · rw [if_neg hc89] at hE
        refine lv_bipush (v := (10 : Int32)) hx hb d_Model_take_92 (by decide) ?_
        refine lv_goto (tgt := 99) hx hb d_Model_take_94 (by decide) ?_
        exact jn99 _ _ _ _ _ _ hE (lv_sub hl [0, 1] rfl) hw hS
  have hl := lv_entry ([.ref (G.2.1 51), .int a1]) (n := 2) (Nat.le_of_ble_eq_true rfl)
  rw [lg_entry_eq]
  generalize (lg_sl ([.ref (G.2.1 51), .int a1]) ++ List.replicate (2 - (lg_sl ([.ref (G.2.1 51), .int a1])).length) Slot.unset).toArray = ls at hl ⊢
  have hl : lv_has ls 2 [(0, .ref (G.2.1 51)), (1, .int a1)] := hl
  unfold x_Model_take at hE
  refine lv_aload_n hx hb d_Model_take_0 rfl (lv_at hl 0 rfl) ?_
  refine va_get (D := G.1) (cl := xCl) (ci := 10) (v := .int (σ.1 51 8)) (C := R_Model) (T := T_Model) (N := 33) hx hb hu fi_Model hown hK hw 51 (x_at (by decide) (xcl_51 G σ)) rfl 8 (by decide) (hu _ mw_1076) (fun _ h9 => h9) rfl d_Model_take_1 ?_
  refine lv_iconst (v := (2 : Int32)) hx hb d_Model_take_4 (by decide) ?_
  refine lv_icmp_eq (tgt := 23) hx hb d_Model_take_5 (by decide) (fun hc5 => ?_) (fun hc5 => ?_)
  · rw [if_pos hc5] at hE
    exact jn23 _ _ _ _ hE (lv_sub hl [0, 1] rfl) hw hS
  · rw [if_neg hc5] at hE
    refine lv_aload_n hx hb d_Model_take_8 rfl (lv_at hl 0 rfl) ?_
    refine va_get (D := G.1) (cl := xCl) (ci := 10) (v := .int (σ.1 51 8)) (C := R_Model) (T := T_Model) (N := 33) hx hb hu fi_Model hown hK hw 51 (x_at (by decide) (xcl_51 G σ)) rfl 8 (by decide) (hu _ mw_1076) (fun _ h9 => h9) rfl d_Model_take_9 ?_
    refine lv_iconst (v := (4 : Int32)) hx hb d_Model_take_12 (by decide) ?_
    refine lv_icmp_ne (tgt := 75) hx hb d_Model_take_13 (by decide) (fun hc13 => ?_) (fun hc13 => ?_)
    · rw [if_neg hc13] at hE
      exact jn75 _ _ _ _ hE (lv_sub hl [0, 1] rfl) hw hS
    · rw [if_pos hc13] at hE
      refine lv_aload_n hx hb d_Model_take_16 rfl (lv_at hl 0 rfl) ?_
      refine va_get (D := G.1) (cl := xCl) (ci := 10) (v := .int (σ.1 51 21)) (C := R_Model) (T := T_Model) (N := 33) hx hb hu fi_Model hown hK hw 51 (x_at (by decide) (xcl_51 G σ)) rfl 21 (by decide) (hu _ mw_1089) (fun _ h9 => h9) rfl d_Model_take_17 ?_
      refine lv_if_le (tgt := 75) hx hb d_Model_take_20 (by decide) (fun hc20 => ?_) (fun hc20 => ?_)
      · rw [if_pos hc20] at hE
        exact jn75 _ _ _ _ hE (lv_sub hl [0, 1] rfl) hw hS
      · rw [if_neg hc20] at hE
        exact jn23 _ _ _ _ hE (lv_sub hl [0, 1] rfl) hw hS

def y_Model_feed : MethodName := ⟨"PlainOriginModel", "feed", "(JI)I"⟩
def ws_Model_feed : List Cond := Cond.code y_Model_feed prog_14_method_13_code 6 (some .int) :: UW
theorem hd_Model_feed : y_Model_feed.cls = R_Model ∧ y_Model_feed.cls ≠ "java/lang/invoke/MethodHandle" ∧ y_Model_feed.cls ≠ "java/lang/invoke/VarHandle" ∧ (parseMethodDescriptor y_Model_feed.desc).map (fun d => d.parameters.length) = some 2 := by decide +kernel
theorem d_Model_feed_0 : decode prog_14_method_13_code 0 = .ok (.aload_n 0, 1) := by decide +kernel
theorem d_Model_feed_1 : decode prog_14_method_13_code 1 = .ok (.iload_n 3, 1) := by decide +kernel
theorem d_Model_feed_2 : decode prog_14_method_13_code 2 = .ok (.iconst 0, 1) := by decide +kernel
theorem d_Model_feed_3 : decode prog_14_method_13_code 3 = .ok (.bipush (8), 2) := by decide +kernel
theorem d_Model_feed_5 : decode prog_14_method_13_code 5 = .ok (.invokestatic 147, 3) := by decide +kernel
theorem d_Model_feed_8 : decode prog_14_method_13_code 8 = .ok (.ifCond .eq (7), 3) := by decide +kernel
theorem d_Model_feed_11 : decode prog_14_method_13_code 11 = .ok (.iconst 0, 1) := by decide +kernel
theorem d_Model_feed_12 : decode prog_14_method_13_code 12 = .ok (.goto (4), 3) := by decide +kernel
theorem d_Model_feed_15 : decode prog_14_method_13_code 15 = .ok (.iconst 1, 1) := by decide +kernel
theorem d_Model_feed_16 : decode prog_14_method_13_code 16 = .ok (.putfield 142, 3) := by decide +kernel
theorem d_Model_feed_19 : decode prog_14_method_13_code 19 = .ok (.aload_n 0, 1) := by decide +kernel
theorem d_Model_feed_20 : decode prog_14_method_13_code 20 = .ok (.getfield 142, 3) := by decide +kernel
theorem d_Model_feed_23 : decode prog_14_method_13_code 23 = .ok (.ifCond .le (5), 3) := by decide +kernel
theorem d_Model_feed_26 : decode prog_14_method_13_code 26 = .ok (.iconst 0, 1) := by decide +kernel
theorem d_Model_feed_27 : decode prog_14_method_13_code 27 = .ok (.ireturn, 1) := by decide +kernel
theorem d_Model_feed_28 : decode prog_14_method_13_code 28 = .ok (.aload_n 0, 1) := by decide +kernel
theorem d_Model_feed_29 : decode prog_14_method_13_code 29 = .ok (.getfield 165, 3) := by decide +kernel
theorem d_Model_feed_32 : decode prog_14_method_13_code 32 = .ok (.istore 4, 2) := by decide +kernel
theorem d_Model_feed_34 : decode prog_14_method_13_code 34 = .ok (.iconst 0, 1) := by decide +kernel
theorem d_Model_feed_35 : decode prog_14_method_13_code 35 = .ok (.istore 5, 2) := by decide +kernel
theorem d_Model_feed_37 : decode prog_14_method_13_code 37 = .ok (.iload 5, 2) := by decide +kernel
theorem d_Model_feed_39 : decode prog_14_method_13_code 39 = .ok (.iload_n 3, 1) := by decide +kernel
theorem d_Model_feed_40 : decode prog_14_method_13_code 40 = .ok (.if_icmp .ge (62), 3) := by decide +kernel
theorem d_Model_feed_43 : decode prog_14_method_13_code 43 = .ok (.aload_n 0, 1) := by decide +kernel
theorem d_Model_feed_44 : decode prog_14_method_13_code 44 = .ok (.getfield 101, 3) := by decide +kernel
theorem d_Model_feed_47 : decode prog_14_method_13_code 47 = .ok (.ifCond .eq (49), 3) := by decide +kernel
theorem d_Model_feed_50 : decode prog_14_method_13_code 50 = .ok (.aload_n 0, 1) := by decide +kernel
theorem d_Model_feed_51 : decode prog_14_method_13_code 51 = .ok (.lload_n 1, 1) := by decide +kernel
theorem d_Model_feed_52 : decode prog_14_method_13_code 52 = .ok (.bipush (8), 2) := by decide +kernel
theorem d_Model_feed_54 : decode prog_14_method_13_code 54 = .ok (.iload 5, 2) := by decide +kernel
theorem d_Model_feed_56 : decode prog_14_method_13_code 56 = .ok (.imul, 1) := by decide +kernel
theorem d_Model_feed_57 : decode prog_14_method_13_code 57 = .ok (.lshr, 1) := by decide +kernel
theorem d_Model_feed_58 : decode prog_14_method_13_code 58 = .ok (.ldc2_w 145, 3) := by decide +kernel
theorem d_Model_feed_61 : decode prog_14_method_13_code 61 = .ok (.land, 1) := by decide +kernel
theorem d_Model_feed_62 : decode prog_14_method_13_code 62 = .ok (.l2i, 1) := by decide +kernel
theorem d_Model_feed_63 : decode prog_14_method_13_code 63 = .ok (.invokevirtual 168, 3) := by decide +kernel
theorem d_Model_feed_66 : decode prog_14_method_13_code 66 = .ok (.aload_n 0, 1) := by decide +kernel
theorem d_Model_feed_67 : decode prog_14_method_13_code 67 = .ok (.getfield 162, 3) := by decide +kernel
theorem d_Model_feed_70 : decode prog_14_method_13_code 70 = .ok (.ifCond .le (26), 3) := by decide +kernel
theorem d_Model_feed_73 : decode prog_14_method_13_code 73 = .ok (.aload_n 0, 1) := by decide +kernel
theorem d_Model_feed_74 : decode prog_14_method_13_code 74 = .ok (.iconst 1, 1) := by decide +kernel
theorem d_Model_feed_75 : decode prog_14_method_13_code 75 = .ok (.putfield 172, 3) := by decide +kernel
theorem d_Model_feed_78 : decode prog_14_method_13_code 78 = .ok (.aload_n 0, 1) := by decide +kernel
theorem d_Model_feed_79 : decode prog_14_method_13_code 79 = .ok (.aload_n 0, 1) := by decide +kernel
theorem d_Model_feed_80 : decode prog_14_method_13_code 80 = .ok (.getfield 162, 3) := by decide +kernel
theorem d_Model_feed_83 : decode prog_14_method_13_code 83 = .ok (.iconst 0, 1) := by decide +kernel
theorem d_Model_feed_84 : decode prog_14_method_13_code 84 = .ok (.iconst (-1), 1) := by decide +kernel
theorem d_Model_feed_85 : decode prog_14_method_13_code 85 = .ok (.iconst (-1), 1) := by decide +kernel
theorem d_Model_feed_86 : decode prog_14_method_13_code 86 = .ok (.iconst 0, 1) := by decide +kernel
theorem d_Model_feed_87 : decode prog_14_method_13_code 87 = .ok (.iconst 0, 1) := by decide +kernel
theorem d_Model_feed_88 : decode prog_14_method_13_code 88 = .ok (.invokevirtual 175, 3) := by decide +kernel
theorem d_Model_feed_91 : decode prog_14_method_13_code 91 = .ok (.aload_n 0, 1) := by decide +kernel
theorem d_Model_feed_92 : decode prog_14_method_13_code 92 = .ok (.iconst 0, 1) := by decide +kernel
theorem d_Model_feed_93 : decode prog_14_method_13_code 93 = .ok (.putfield 162, 3) := by decide +kernel
theorem d_Model_feed_96 : decode prog_14_method_13_code 96 = .ok (.iinc 5 (1), 3) := by decide +kernel
theorem d_Model_feed_99 : decode prog_14_method_13_code 99 = .ok (.goto (-62), 3) := by decide +kernel
theorem d_Model_feed_102 : decode prog_14_method_13_code 102 = .ok (.aload_n 0, 1) := by decide +kernel
theorem d_Model_feed_103 : decode prog_14_method_13_code 103 = .ok (.getfield 165, 3) := by decide +kernel
theorem d_Model_feed_106 : decode prog_14_method_13_code 106 = .ok (.iload 4, 2) := by decide +kernel
theorem d_Model_feed_108 : decode prog_14_method_13_code 108 = .ok (.isub, 1) := by decide +kernel
theorem d_Model_feed_109 : decode prog_14_method_13_code 109 = .ok (.ireturn, 1) := by decide +kernel
def x_Model_feed_96 (j1 : Int64) (a2 : Int32) (bk37 : Int32 → Int32 → St → Option (Int32 × St)) (l4 : Int32) (l5 : Int32) (σ : St) : Option (Int32 × St) := (x_let (l5 + (1 : Int32)) (fun (v96 : Int32) => bk37 l4 v96 σ))
def x_Model_feed_37 (j1 : Int64) (a2 : Int32) : Nat → Int32 → Int32 → St → Option (Int32 × St)
  | 0, _, _, _ => none
  | n + 1, l4, l5, σ => (if a2 ≤ l5 then some ((σ.1 51 30) - l4, σ) else (if (σ.1 51 7) = 0 then x_Model_feed_96 j1 a2 (x_Model_feed_37 j1 a2 n) l4 l5 σ else (Option.bind (x_Model_take (Int64.toInt32 ((j1 >>> (Int32.toInt64 ((8 : Int32) * l5) &&& 63)) &&& (255 : Int64))) σ) (fun s63 => (if (s63.1 51 25) ≤ 0 then x_Model_feed_96 j1 a2 (x_Model_feed_37 j1 a2 n) l4 l5 s63 else (x_let (x_updR s63 51 16 (1 : Int32)) (fun (s75 : St) => (Option.bind (x_Model_respond (s75.1 51 25) (0 : Int32) ((-1) : Int32) ((-1) : Int32) (0 : Int32) (0 : Int32) s75) (fun s88 => (x_let (x_updR s88 51 25 (0 : Int32)) (fun (s93 : St) => x_Model_feed_96 j1 a2 (x_Model_feed_37 j1 a2 n) l4 l5 s93)))))))))))
def x_Model_feed_16 (j1 : Int64) (a2 : Int32) (k0 : Int32) (σ : St) : Option (Int32 × St) := (x_let (x_updR σ 51 1 k0) (fun (s16 : St) => (if (s16.1 51 1) ≤ 0 then (x_let (s16.1 51 30) (fun (v32 : Int32) => x_Model_feed_37 j1 a2 x_fuel v32 (0 : Int32) s16)) else some ((0 : Int32), s16))))
def x_Model_feed (j1 : Int64) (a2 : Int32) (σ : St) : Option (Int32 × St) := (Option.bind (x_Model_within a2 (0 : Int32) (8 : Int32)) (fun r5 => (if r5 = 0 then x_Model_feed_16 j1 a2 (1 : Int32) σ else x_Model_feed_16 j1 a2 (0 : Int32) σ)))
abbrev rm_Model_feed : Room := { frames := 11, cells := 0, slots := 0, locals := 260 }
set_option maxHeartbeats 4000000 in
set_option maxRecDepth 100000 in
theorem t_Model_feed (l : Launch) (G : xG) (σ : St) (j1 : Int64) (a2 : Int32) (r : Int32) (σ' : St) (hE : x_Model_feed j1 a2 σ = some (r, σ')) : Met l y_Model_feed (ws_Model_feed) rm_Model_feed (xP G σ [.ref (G.2.1 51), .long j1, .int a2]) (xQ G (some (.int r)) σ') 0 0 (xA G) := by
  refine Met.ofW (cc := prog_14_method_13_code) (maxL := 6) (ret := (some .int)) (by decide) rfl ?_
  intro p e s m args below meth c s₁ B hml hv
  obtain ⟨rfl, hw, hC⟩ := hv
  have hx := B.exec
  have hb := B.bytes
  have hr := B.returns
  have hu : ∀ w ∈ UW, w.before _ s = true := fun w h => atoms_spec B.pre w (List.mem_cons_of_mem _ h)
  have hown : s.vm.findClass R_Model = some m.cls := findClass_of_methodNamed B.named
  have hlocks := B.notSynchronized
  have hK := hC.1
  have hI := hC.2.1
  have hG := hC.2.2.1
  have hN := hC.2.2.2
  have hS : va_S (xA G) s.heap s.heap [] := va_S.rf
  have jn96 : ∀ (bk37 : Int32 → Int32 → St → Option (Int32 × St)) (hbk37 : ∀ (ls : Array Slot) (H : Heap) (locs : List Loc) (σ : St) (l4 : Int32) (l5 : Int32), bk37 l4 l5 σ = some (r, σ') → lv_has ls 6 [(0, .ref (G.2.1 51)), (1, .long j1), (3, .int a2), (4, .int l4), (5, .int l5)] → xw G σ H → va_S (xA G) s.heap H locs → W p l e (headSpec (ws_Model_feed) rm_Model_feed).room s m ([.ref (G.2.1 51), .long j1, .int a2] : List Value).toArray below meth c H locs 0 0 (MQ below (xQ G (some (.int r)) σ') ([.ref (G.2.1 51), .long j1, .int a2] : List Value).toArray s 0 0 (xA G)) (F0 m 37 ls [])) (ls : Array Slot) (H : Heap) (locs : List Loc) (σ : St) (l4 : Int32) (l5 : Int32), x_Model_feed_96 j1 a2 bk37 l4 l5 σ = some (r, σ') → lv_has ls 6 [(0, .ref (G.2.1 51)), (1, .long j1), (3, .int a2), (4, .int l4), (5, .int l5)] → xw G σ H → va_S (xA G) s.heap H locs → W p l e (headSpec (ws_Model_feed) rm_Model_feed).room s m ([.ref (G.2.1 51), .long j1, .int a2] : List Value).toArray below meth c H locs 0 0 (MQ below (xQ G (some (.int r)) σ') ([.ref (G.2.1 51), .long j1, .int a2] : List Value).toArray s 0 0 (xA G)) (F0 m 96 ls []) := by
    intro bk37 hbk37 ls H locs σ l4 l5 hE hl hw hS
    unfold x_Model_feed_96 at hE
    obtain ⟨v96, e96, hE⟩ := x_letE hE
    refine lv_iinc hx hb d_Model_feed_96 hl (k := 4) rfl (x_inc v96 e96 (by decide)) (by decide) rfl (fun ls hl => ?_)
    have hl : lv_has ls 6 [(5, .int v96), (0, .ref (G.2.1 51)), (1, .long j1), (3, .int a2), (4, .int l4)] := hl
    refine lv_goto (tgt := 37) hx hb d_Model_feed_99 (by decide) ?_
    exact hbk37 _ _ _ _ _ _ hE (lv_sub hl [1, 2, 3, 4, 0] rfl) hw hS
  have jn37 : ∀ (n : Nat) (ls : Array Slot) (H : Heap) (locs : List Loc) (σ : St) (l4 : Int32) (l5 : Int32), x_Model_feed_37 j1 a2 n l4 l5 σ = some (r, σ') → lv_has ls 6 [(0, .ref (G.2.1 51)), (1, .long j1), (3, .int a2), (4, .int l4), (5, .int l5)] → xw G σ H → va_S (xA G) s.heap H locs → W p l e (headSpec (ws_Model_feed) rm_Model_feed).room s m ([.ref (G.2.1 51), .long j1, .int a2] : List Value).toArray below meth c H locs 0 0 (MQ below (xQ G (some (.int r)) σ') ([.ref (G.2.1 51), .long j1, .int a2] : List Value).toArray s 0 0 (xA G)) (F0 m 37 ls []) := by
    intro n
    induction n with
    | zero => intro ls H locs σ l4 l5 hE; rw [x_Model_feed_37] at hE; cases hE
    | succ n ih =>
      intro ls H locs σ l4 l5 hE hl hw hS
      rw [x_Model_feed_37] at hE
      refine lv_iload hx hb d_Model_feed_37 (lv_at hl 4 rfl) ?_
      refine lv_iload_n hx hb d_Model_feed_39 rfl (lv_at hl 2 rfl) ?_
      refine lv_icmp_ge (tgt := 102) hx hb d_Model_feed_40 (by decide) (fun hc40 => ?_) (fun hc40 => ?_)
      · rw [if_pos hc40] at hE
        refine lv_aload_n hx hb d_Model_feed_102 rfl (lv_at hl 0 rfl) ?_
        refine va_get (D := G.1) (cl := xCl) (ci := 10) (v := .int (σ.1 51 30)) (C := R_Model) (T := T_Model) (N := 33) hx hb hu fi_Model hown hK hw 51 (x_at (by decide) (xcl_51 G σ)) rfl 30 (by decide) (hu _ mw_1098) (fun _ h9 => h9) rfl d_Model_feed_103 ?_
        refine lv_iload hx hb d_Model_feed_106 (lv_at hl 3 rfl) ?_
        refine lv_isub hx hb d_Model_feed_108 ?_
        obtain ⟨e1, e2⟩ := x_pair hE
        exact W.iret (v := (σ.1 51 30) - l4) hx hb hr (fun t ht hW => ⟨by rw [e1], by rw [ht, ← e2]; exact hw, hS.F ht⟩) hS.2.2 d_Model_feed_109
      · rw [if_neg hc40] at hE
        refine lv_aload_n hx hb d_Model_feed_43 rfl (lv_at hl 0 rfl) ?_
        refine va_get (D := G.1) (cl := xCl) (ci := 10) (v := .int (σ.1 51 7)) (C := R_Model) (T := T_Model) (N := 33) hx hb hu fi_Model hown hK hw 51 (x_at (by decide) (xcl_51 G σ)) rfl 7 (by decide) (hu _ mw_1075) (fun _ h9 => h9) rfl d_Model_feed_44 ?_
        refine lv_if_eq (tgt := 96) hx hb d_Model_feed_47 (by decide) (fun hc47 => ?_) (fun hc47 => ?_)
        · rw [if_pos hc47] at hE
          exact jn96 _ ih _ _ _ _ _ _ hE (lv_sub hl [0, 1, 2, 3, 4] rfl) hw hS
        · rw [if_neg hc47] at hE
          refine lv_aload_n hx hb d_Model_feed_50 rfl (lv_at hl 0 rfl) ?_
          refine lv_lload_n hx hb d_Model_feed_51 rfl (lv_at hl 1 rfl) ?_
          refine lv_bipush (v := (8 : Int32)) hx hb d_Model_feed_52 (by decide) ?_
          refine lv_iload hx hb d_Model_feed_54 (lv_at hl 4 rfl) ?_
          refine lv_imul hx hb d_Model_feed_56 ?_
          refine lv_lshr hx hb d_Model_feed_57 rfl ?_
          refine lv_ldc2 (v := (255 : Int64)) hx hb hown (hu _ mw_1181) d_Model_feed_58 ?_
          refine lv_land hx hb d_Model_feed_61 ?_
          refine lv_l2i hx hb d_Model_feed_62 rfl ?_
          obtain ⟨s63, hC63, hE⟩ := x_bind hE
          refine x_callV hS (W.runV (As := [.int (Int64.toInt32 ((j1 >>> (Int32.toInt64 ((8 : Int32) * l5) &&& 63)) &&& (255 : Int64)))]) (rest := []) ⟨hx, hb, hml, hown, hu⟩ (t_Model_take l G σ (Int64.toInt32 ((j1 >>> (Int32.toInt64 ((8 : Int32) * l5) &&& 63)) &&& (255 : Int64))) s63 hC63) (cwV 1 hu (uw_V mw_1182 mw_1184 mw_23 mw_70 mw_1185) rfl rfl rfl hd_Model_take ⟨Nat.le_of_ble_eq_true rfl, Nat.le_of_ble_eq_true rfl⟩) (x_preV hC hS hw (va_recv hK hw (q := (R_Model, T_Model, 33)) (ci := 10) rfl (x_at (by decide) (xcl_51 G σ)))) rfl rfl hl.1 rfl (lv_room (Nat.le_of_ble_eq_true rfl)) d_Model_feed_63 ⟨Nat.le_of_ble_eq_true rfl, Nat.le_of_ble_eq_true rfl⟩) (fun H locs hw hS => ?_)
          refine lv_aload_n hx hb d_Model_feed_66 rfl (lv_at hl 0 rfl) ?_
          refine va_get (D := G.1) (cl := xCl) (ci := 10) (v := .int (s63.1 51 25)) (C := R_Model) (T := T_Model) (N := 33) hx hb hu fi_Model hown hK hw 51 (x_at (by decide) (xcl_51 G s63)) rfl 25 (by decide) (hu _ mw_1093) (fun _ h9 => h9) rfl d_Model_feed_67 ?_
          refine lv_if_le (tgt := 96) hx hb d_Model_feed_70 (by decide) (fun hc70 => ?_) (fun hc70 => ?_)
          · rw [if_pos hc70] at hE
            exact jn96 _ ih _ _ _ _ _ _ hE (lv_sub hl [0, 1, 2, 3, 4] rfl) hw hS
          · rw [if_neg hc70] at hE
            refine lv_aload_n hx hb d_Model_feed_73 rfl (lv_at hl 0 rfl) ?_
            refine lv_iconst (v := (1 : Int32)) hx hb d_Model_feed_74 (by decide) ?_
            refine va_put (D := G.1) (cl := xCl) (ci := 10) (v := .int (1 : Int32)) (ty := .boolean) (C := R_Model) (T := T_Model) (N := 33) hx hb hu fi_Model ty_Model tyok_Model nm_Model hown hK hw (x_D hI _) hS 51 (x_at (by decide) (xcl_51 G s63)) rfl 16 (by decide) (hu _ mw_1084) (fun _ h9 => h9) rfl (tyok_Model 16 (by decide)) rfl rfl (Nat.le_of_ble_eq_true rfl) d_Model_feed_75 (fun H locs hw _ hS => ?_)
            replace hw := x_setR hw (by decide) rfl
            obtain ⟨s75, e75, hE⟩ := x_letE hE
            rw [← e75] at hw
            refine lv_aload_n hx hb d_Model_feed_78 rfl (lv_at hl 0 rfl) ?_
            refine lv_aload_n hx hb d_Model_feed_79 rfl (lv_at hl 0 rfl) ?_
            refine va_get (D := G.1) (cl := xCl) (ci := 10) (v := .int (s75.1 51 25)) (C := R_Model) (T := T_Model) (N := 33) hx hb hu fi_Model hown hK hw 51 (x_at (by decide) (xcl_51 G s75)) rfl 25 (by decide) (hu _ mw_1093) (fun _ h9 => h9) rfl d_Model_feed_80 ?_
            refine lv_iconst (v := (0 : Int32)) hx hb d_Model_feed_83 (by decide) ?_
            refine lv_iconst (v := ((-1) : Int32)) hx hb d_Model_feed_84 (by decide) ?_
            refine lv_iconst (v := ((-1) : Int32)) hx hb d_Model_feed_85 (by decide) ?_
            refine lv_iconst (v := (0 : Int32)) hx hb d_Model_feed_86 (by decide) ?_
            refine lv_iconst (v := (0 : Int32)) hx hb d_Model_feed_87 (by decide) ?_
            obtain ⟨s88, hC88, hE⟩ := x_bind hE
            refine x_callV hS (W.runV (As := [.int (s75.1 51 25), .int (0 : Int32), .int ((-1) : Int32), .int ((-1) : Int32), .int (0 : Int32), .int (0 : Int32)]) (rest := []) ⟨hx, hb, hml, hown, hu⟩ (t_Model_respond l G s75 (s75.1 51 25) (0 : Int32) ((-1) : Int32) ((-1) : Int32) (0 : Int32) (0 : Int32) s88 hC88) (cwV 6 hu (uw_V mw_1203 mw_1205 mw_26 mw_70 mw_1206) rfl rfl rfl hd_Model_respond ⟨Nat.le_of_ble_eq_true rfl, Nat.le_of_ble_eq_true rfl⟩) (x_preV hC hS hw (va_recv hK hw (q := (R_Model, T_Model, 33)) (ci := 10) rfl (x_at (by decide) (xcl_51 G s75)))) rfl rfl hl.1 rfl (lv_room (Nat.le_of_ble_eq_true rfl)) d_Model_feed_88 ⟨Nat.le_of_ble_eq_true rfl, Nat.le_of_ble_eq_true rfl⟩) (fun H locs hw hS => ?_)
            refine lv_aload_n hx hb d_Model_feed_91 rfl (lv_at hl 0 rfl) ?_
            refine lv_iconst (v := (0 : Int32)) hx hb d_Model_feed_92 (by decide) ?_
            refine va_put (D := G.1) (cl := xCl) (ci := 10) (v := .int (0 : Int32)) (ty := .int) (C := R_Model) (T := T_Model) (N := 33) hx hb hu fi_Model ty_Model tyok_Model nm_Model hown hK hw (x_D hI _) hS 51 (x_at (by decide) (xcl_51 G s88)) rfl 25 (by decide) (hu _ mw_1093) (fun _ h9 => h9) rfl (tyok_Model 25 (by decide)) rfl rfl (Nat.le_of_ble_eq_true rfl) d_Model_feed_93 (fun H locs hw _ hS => ?_)
            replace hw := x_setR hw (by decide) rfl
            obtain ⟨s93, e93, hE⟩ := x_letE hE
            rw [← e93] at hw
            exact jn96 _ ih _ _ _ _ _ _ hE (lv_sub hl [0, 1, 2, 3, 4] rfl) hw hS
  have jn16 : ∀ (ls : Array Slot) (H : Heap) (locs : List Loc) (σ : St) (k0 : Int32), x_Model_feed_16 j1 a2 k0 σ = some (r, σ') → lv_has ls 6 [(0, .ref (G.2.1 51)), (1, .long j1), (3, .int a2)] → xw G σ H → va_S (xA G) s.heap H locs → W p l e (headSpec (ws_Model_feed) rm_Model_feed).room s m ([.ref (G.2.1 51), .long j1, .int a2] : List Value).toArray below meth c H locs 0 0 (MQ below (xQ G (some (.int r)) σ') ([.ref (G.2.1 51), .long j1, .int a2] : List Value).toArray s 0 0 (xA G)) (F0 m 16 ls [.int k0, .ref (G.2.1 51)]) := by
    intro ls H locs σ k0 hE hl hw hS
    unfold x_Model_feed_16 at hE
    refine va_put (D := G.1) (cl := xCl) (ci := 10) (v := .int k0) (ty := .int) (C := R_Model) (T := T_Model) (N := 33) hx hb hu fi_Model ty_Model tyok_Model nm_Model hown hK hw (x_D hI _) hS 51 (x_at (by decide) (xcl_51 G σ)) rfl 1 (by decide) (hu _ mw_1069) (fun _ h9 => h9) rfl (tyok_Model 1 (by decide)) rfl rfl (Nat.le_of_ble_eq_true rfl) d_Model_feed_16 (fun H locs hw _ hS => ?_)
    replace hw := x_setR hw (by decide) rfl
    obtain ⟨s16, e16, hE⟩ := x_letE hE
    rw [← e16] at hw
    refine lv_aload_n hx hb d_Model_feed_19 rfl (lv_at hl 0 rfl) ?_
    refine va_get (D := G.1) (cl := xCl) (ci := 10) (v := .int (s16.1 51 1)) (C := R_Model) (T := T_Model) (N := 33) hx hb hu fi_Model hown hK hw 51 (x_at (by decide) (xcl_51 G s16)) rfl 1 (by decide) (hu _ mw_1069) (fun _ h9 => h9) rfl d_Model_feed_20 ?_
    refine lv_if_le (tgt := 28) hx hb d_Model_feed_23 (by decide) (fun hc23 => ?_) (fun hc23 => ?_)
    · rw [if_pos hc23] at hE
      refine lv_aload_n hx hb d_Model_feed_28 rfl (lv_at hl 0 rfl) ?_
      refine va_get (D := G.1) (cl := xCl) (ci := 10) (v := .int (s16.1 51 30)) (C := R_Model) (T := T_Model) (N := 33) hx hb hu fi_Model hown hK hw 51 (x_at (by decide) (xcl_51 G s16)) rfl 30 (by decide) (hu _ mw_1098) (fun _ h9 => h9) rfl d_Model_feed_29 ?_
      refine lv_topi (fun v32 e32 => ?_)
      replace hE := x_letT e32 hE
      refine lv_istore hx hb d_Model_feed_32 hl (by decide) rfl (fun ls hl => ?_)
      have hl : lv_has ls 6 [(4, .int v32), (0, .ref (G.2.1 51)), (1, .long j1), (3, .int a2)] := hl
      refine lv_iconst (v := (0 : Int32)) hx hb d_Model_feed_34 (by decide) ?_
      refine lv_istore hx hb d_Model_feed_35 hl (by decide) rfl (fun ls hl => ?_)
      have hl : lv_has ls 6 [(5, .int (0 : Int32)), (4, .int v32), (0, .ref (G.2.1 51)), (1, .long j1), (3, .int a2)] := hl
      exact jn37 x_fuel _ _ _ _ _ _ hE (lv_sub hl [2, 3, 4, 1, 0] rfl) hw hS
    · rw [if_neg hc23] at hE
      refine lv_iconst (v := (0 : Int32)) hx hb d_Model_feed_26 (by decide) ?_
      obtain ⟨e1, e2⟩ := x_pair hE
      exact W.iret (v := (0 : Int32)) hx hb hr (fun t ht hW => ⟨by rw [e1], by rw [ht, ← e2]; exact hw, hS.F ht⟩) hS.2.2 d_Model_feed_27
  have hl := lv_entry ([.ref (G.2.1 51), .long j1, .int a2]) (n := 6) (Nat.le_of_ble_eq_true rfl)
  rw [lg_entry_eq]
  generalize (lg_sl ([.ref (G.2.1 51), .long j1, .int a2]) ++ List.replicate (6 - (lg_sl ([.ref (G.2.1 51), .long j1, .int a2])).length) Slot.unset).toArray = ls at hl ⊢
  have hl : lv_has ls 6 [(0, .ref (G.2.1 51)), (1, .long j1), (3, .int a2)] := hl
  unfold x_Model_feed at hE
  refine lv_aload_n hx hb d_Model_feed_0 rfl (lv_at hl 0 rfl) ?_
  refine lv_iload_n hx hb d_Model_feed_1 rfl (lv_at hl 2 rfl) ?_
  refine lv_iconst (v := (0 : Int32)) hx hb d_Model_feed_2 (by decide) ?_
  refine lv_bipush (v := (8 : Int32)) hx hb d_Model_feed_3 (by decide) ?_
  obtain ⟨r5, hC5, hE⟩ := x_bind hE
  refine x_callR (W.runS (As := [.int a2, .int (0 : Int32), .int (8 : Int32)]) (rest := [.ref (G.2.1 51)]) ⟨hx, hb, hml, hown, hu⟩ (t_Model_within l G σ a2 (0 : Int32) (8 : Int32) r5 hC5) (va_cwS 3 hu (uw_S mw_1178 mw_1179 mw_70 mw_1180) rfl rfl rfl hd_Model_within ⟨Nat.le_of_ble_eq_true rfl, Nat.le_of_ble_eq_true rfl⟩) (x_preS hC hS hw) rfl rfl hl.1 rfl (lv_room (Nat.le_of_ble_eq_true rfl)) d_Model_feed_5 ⟨Nat.le_of_ble_eq_true rfl, Nat.le_of_ble_eq_true rfl⟩) ?_
  refine lv_if_eq (tgt := 15) hx hb d_Model_feed_8 (by decide) (fun hc8 => ?_) (fun hc8 => ?_)
  · rw [if_pos hc8] at hE
    refine lv_iconst (v := (1 : Int32)) hx hb d_Model_feed_15 (by decide) ?_
    exact jn16 _ _ _ _ _ hE (lv_sub hl [0, 1, 2] rfl) hw hS
  · rw [if_neg hc8] at hE
    refine lv_iconst (v := (0 : Int32)) hx hb d_Model_feed_11 (by decide) ?_
    refine lv_goto (tgt := 16) hx hb d_Model_feed_12 (by decide) ?_
    exact jn16 _ _ _ _ _ hE (lv_sub hl [0, 1, 2] rfl) hw hS

def y_Model_isOpen : MethodName := ⟨"PlainOriginModel", "isOpen", "()Z"⟩
def ws_Model_isOpen : List Cond := Cond.code y_Model_isOpen prog_14_method_48_code 1 (some .boolean) :: UW
theorem hd_Model_isOpen : y_Model_isOpen.cls = R_Model ∧ y_Model_isOpen.cls ≠ "java/lang/invoke/MethodHandle" ∧ y_Model_isOpen.cls ≠ "java/lang/invoke/VarHandle" ∧ (parseMethodDescriptor y_Model_isOpen.desc).map (fun d => d.parameters.length) = some 0 := by decide +kernel
theorem d_Model_isOpen_0 : decode prog_14_method_48_code 0 = .ok (.aload_n 0, 1) := by decide +kernel
theorem d_Model_isOpen_1 : decode prog_14_method_48_code 1 = .ok (.iconst 0, 1) := by decide +kernel
theorem d_Model_isOpen_2 : decode prog_14_method_48_code 2 = .ok (.putfield 142, 3) := by decide +kernel
theorem d_Model_isOpen_5 : decode prog_14_method_48_code 5 = .ok (.aload_n 0, 1) := by decide +kernel
theorem d_Model_isOpen_6 : decode prog_14_method_48_code 6 = .ok (.getfield 101, 3) := by decide +kernel
theorem d_Model_isOpen_9 : decode prog_14_method_48_code 9 = .ok (.ireturn, 1) := by decide +kernel
def x_Model_isOpen (σ : St) : Option (Int32 × St) := (x_let (x_updR σ 51 1 (0 : Int32)) (fun (s2 : St) => (if x_bit (s2.1 51 7) then some (s2.1 51 7, s2) else none)))
abbrev rm_Model_isOpen : Room := { frames := 0, cells := 0, slots := 0, locals := 0 }
set_option maxHeartbeats 4000000 in
set_option maxRecDepth 100000 in
theorem t_Model_isOpen (l : Launch) (G : xG) (σ : St) (r : Int32) (σ' : St) (hE : x_Model_isOpen σ = some (r, σ')) : Met l y_Model_isOpen (ws_Model_isOpen) rm_Model_isOpen (xP G σ [.ref (G.2.1 51)]) (xQ G (some (.int r)) σ') 0 0 (xA G) := by
  refine Met.ofW (cc := prog_14_method_48_code) (maxL := 1) (ret := (some .boolean)) (by decide) rfl ?_
  intro p e s m args below meth c s₁ B hml hv
  obtain ⟨rfl, hw, hC⟩ := hv
  have hx := B.exec
  have hb := B.bytes
  have hr := B.returns
  have hu : ∀ w ∈ UW, w.before _ s = true := fun w h => atoms_spec B.pre w (List.mem_cons_of_mem _ h)
  have hown : s.vm.findClass R_Model = some m.cls := findClass_of_methodNamed B.named
  have hlocks := B.notSynchronized
  have hK := hC.1
  have hI := hC.2.1
  have hG := hC.2.2.1
  have hN := hC.2.2.2
  have hS : va_S (xA G) s.heap s.heap [] := va_S.rf
  have hl := lv_entry ([.ref (G.2.1 51)]) (n := 1) (Nat.le_of_ble_eq_true rfl)
  rw [lg_entry_eq]
  generalize (lg_sl ([.ref (G.2.1 51)]) ++ List.replicate (1 - (lg_sl ([.ref (G.2.1 51)])).length) Slot.unset).toArray = ls at hl ⊢
  have hl : lv_has ls 1 [(0, .ref (G.2.1 51))] := hl
  unfold x_Model_isOpen at hE
  refine lv_aload_n hx hb d_Model_isOpen_0 rfl (lv_at hl 0 rfl) ?_
  refine lv_iconst (v := (0 : Int32)) hx hb d_Model_isOpen_1 (by decide) ?_
  refine va_put (D := G.1) (cl := xCl) (ci := 10) (v := .int (0 : Int32)) (ty := .int) (C := R_Model) (T := T_Model) (N := 33) hx hb hu fi_Model ty_Model tyok_Model nm_Model hown hK hw (x_D hI _) hS 51 (x_at (by decide) (xcl_51 G σ)) rfl 1 (by decide) (hu _ mw_1069) (fun _ h9 => h9) rfl (tyok_Model 1 (by decide)) rfl rfl (Nat.le_of_ble_eq_true rfl) d_Model_isOpen_2 (fun H locs hw _ hS => ?_)
  replace hw := x_setR hw (by decide) rfl
  obtain ⟨s2, e2, hE⟩ := x_letE hE
  rw [← e2] at hw
  refine lv_aload_n hx hb d_Model_isOpen_5 rfl (lv_at hl 0 rfl) ?_
  refine va_get (D := G.1) (cl := xCl) (ci := 10) (v := .int (s2.1 51 7)) (C := R_Model) (T := T_Model) (N := 33) hx hb hu fi_Model hown hK hw 51 (x_at (by decide) (xcl_51 G s2)) rfl 7 (by decide) (hu _ mw_1075) (fun _ h9 => h9) rfl d_Model_isOpen_6 ?_
  obtain ⟨g9, hE⟩ := x_guard hE
  obtain ⟨e1, e2⟩ := x_pair hE
  exact W.zret (v := s2.1 51 7) hx hb hr (x_nz g9) (fun t ht hW => ⟨by rw [e1], by rw [ht, ← e2]; exact hw, hS.F ht⟩) hS.2.2 d_Model_isOpen_9

def y_Model_connect : MethodName := ⟨"PlainOriginModel", "connect", "()V"⟩
def ws_Model_connect : List Cond := Cond.code y_Model_connect prog_14_method_49_code 1 none :: UW
theorem hd_Model_connect : y_Model_connect.cls = R_Model ∧ y_Model_connect.cls ≠ "java/lang/invoke/MethodHandle" ∧ y_Model_connect.cls ≠ "java/lang/invoke/VarHandle" ∧ (parseMethodDescriptor y_Model_connect.desc).map (fun d => d.parameters.length) = some 0 := by decide +kernel
theorem d_Model_connect_0 : decode prog_14_method_49_code 0 = .ok (.aload_n 0, 1) := by decide +kernel
theorem d_Model_connect_1 : decode prog_14_method_49_code 1 = .ok (.iconst 0, 1) := by decide +kernel
theorem d_Model_connect_2 : decode prog_14_method_49_code 2 = .ok (.putfield 142, 3) := by decide +kernel
theorem d_Model_connect_5 : decode prog_14_method_49_code 5 = .ok (.aload_n 0, 1) := by decide +kernel
theorem d_Model_connect_6 : decode prog_14_method_49_code 6 = .ok (.iconst 1, 1) := by decide +kernel
theorem d_Model_connect_7 : decode prog_14_method_49_code 7 = .ok (.putfield 101, 3) := by decide +kernel
theorem d_Model_connect_10 : decode prog_14_method_49_code 10 = .ok (.aload_n 0, 1) := by decide +kernel
theorem d_Model_connect_11 : decode prog_14_method_49_code 11 = .ok (.iconst 0, 1) := by decide +kernel
theorem d_Model_connect_12 : decode prog_14_method_49_code 12 = .ok (.putfield 179, 3) := by decide +kernel
theorem d_Model_connect_15 : decode prog_14_method_49_code 15 = .ok (.aload_n 0, 1) := by decide +kernel
theorem d_Model_connect_16 : decode prog_14_method_49_code 16 = .ok (.iconst 0, 1) := by decide +kernel
theorem d_Model_connect_17 : decode prog_14_method_49_code 17 = .ok (.putfield 191, 3) := by decide +kernel
theorem d_Model_connect_20 : decode prog_14_method_49_code 20 = .ok (.aload_n 0, 1) := by decide +kernel
theorem d_Model_connect_21 : decode prog_14_method_49_code 21 = .ok (.iconst 0, 1) := by decide +kernel
theorem d_Model_connect_22 : decode prog_14_method_49_code 22 = .ok (.putfield 201, 3) := by decide +kernel
theorem d_Model_connect_25 : decode prog_14_method_49_code 25 = .ok (.aload_n 0, 1) := by decide +kernel
theorem d_Model_connect_26 : decode prog_14_method_49_code 26 = .ok (.iconst 0, 1) := by decide +kernel
theorem d_Model_connect_27 : decode prog_14_method_49_code 27 = .ok (.putfield 297, 3) := by decide +kernel
theorem d_Model_connect_30 : decode prog_14_method_49_code 30 = .ok (.aload_n 0, 1) := by decide +kernel
theorem d_Model_connect_31 : decode prog_14_method_49_code 31 = .ok (.iconst (-1), 1) := by decide +kernel
theorem d_Model_connect_32 : decode prog_14_method_49_code 32 = .ok (.putfield 136, 3) := by decide +kernel
theorem d_Model_connect_35 : decode prog_14_method_49_code 35 = .ok (.return_, 1) := by decide +kernel
def x_Model_connect (σ : St) : Option St := (x_let (x_updR σ 51 1 (0 : Int32)) (fun (s2 : St) => (x_let (x_updR s2 51 7 (1 : Int32)) (fun (s7 : St) => (x_let (x_updR s7 51 8 (0 : Int32)) (fun (s12 : St) => (x_let (x_updR s12 51 9 (0 : Int32)) (fun (s17 : St) => (x_let (x_updR s17 51 10 (0 : Int32)) (fun (s22 : St) => (x_let (x_updR s22 51 31 (0 : Int32)) (fun (s27 : St) => (x_let (x_updR s27 51 29 ((-1) : Int32)) (fun (s32 : St) => some s32))))))))))))))
abbrev rm_Model_connect : Room := { frames := 0, cells := 0, slots := 0, locals := 0 }
set_option maxHeartbeats 4000000 in
set_option maxRecDepth 100000 in
theorem t_Model_connect (l : Launch) (G : xG) (σ : St) (σ' : St) (hE : x_Model_connect σ = some σ') : Met l y_Model_connect (ws_Model_connect) rm_Model_connect (xP G σ [.ref (G.2.1 51)]) (xQ G none σ') 0 0 (xA G) := by
  refine Met.ofW (cc := prog_14_method_49_code) (maxL := 1) (ret := none) (by decide) rfl ?_
  intro p e s m args below meth c s₁ B hml hv
  obtain ⟨rfl, hw, hC⟩ := hv
  have hx := B.exec
  have hb := B.bytes
  have hr := B.returns
  have hu : ∀ w ∈ UW, w.before _ s = true := fun w h => atoms_spec B.pre w (List.mem_cons_of_mem _ h)
  have hown : s.vm.findClass R_Model = some m.cls := findClass_of_methodNamed B.named
  have hlocks := B.notSynchronized
  have hK := hC.1
  have hI := hC.2.1
  have hG := hC.2.2.1
  have hN := hC.2.2.2
  have hS : va_S (xA G) s.heap s.heap [] := va_S.rf
  have hl := lv_entry ([.ref (G.2.1 51)]) (n := 1) (Nat.le_of_ble_eq_true rfl)
  rw [lg_entry_eq]
  generalize (lg_sl ([.ref (G.2.1 51)]) ++ List.replicate (1 - (lg_sl ([.ref (G.2.1 51)])).length) Slot.unset).toArray = ls at hl ⊢
  have hl : lv_has ls 1 [(0, .ref (G.2.1 51))] := hl
  unfold x_Model_connect at hE
  refine lv_aload_n hx hb d_Model_connect_0 rfl (lv_at hl 0 rfl) ?_
  refine lv_iconst (v := (0 : Int32)) hx hb d_Model_connect_1 (by decide) ?_
  refine va_put (D := G.1) (cl := xCl) (ci := 10) (v := .int (0 : Int32)) (ty := .int) (C := R_Model) (T := T_Model) (N := 33) hx hb hu fi_Model ty_Model tyok_Model nm_Model hown hK hw (x_D hI _) hS 51 (x_at (by decide) (xcl_51 G σ)) rfl 1 (by decide) (hu _ mw_1069) (fun _ h9 => h9) rfl (tyok_Model 1 (by decide)) rfl rfl (Nat.le_of_ble_eq_true rfl) d_Model_connect_2 (fun H locs hw _ hS => ?_)
  replace hw := x_setR hw (by decide) rfl
  obtain ⟨s2, e2, hE⟩ := x_letE hE
  rw [← e2] at hw
  refine lv_aload_n hx hb d_Model_connect_5 rfl (lv_at hl 0 rfl) ?_
  refine lv_iconst (v := (1 : Int32)) hx hb d_Model_connect_6 (by decide) ?_
  refine va_put (D := G.1) (cl := xCl) (ci := 10) (v := .int (1 : Int32)) (ty := .boolean) (C := R_Model) (T := T_Model) (N := 33) hx hb hu fi_Model ty_Model tyok_Model nm_Model hown hK hw (x_D hI _) hS 51 (x_at (by decide) (xcl_51 G s2)) rfl 7 (by decide) (hu _ mw_1075) (fun _ h9 => h9) rfl (tyok_Model 7 (by decide)) rfl rfl (Nat.le_of_ble_eq_true rfl) d_Model_connect_7 (fun H locs hw _ hS => ?_)
  replace hw := x_setR hw (by decide) rfl
  obtain ⟨s7, e7, hE⟩ := x_letE hE
  rw [← e7] at hw
  refine lv_aload_n hx hb d_Model_connect_10 rfl (lv_at hl 0 rfl) ?_
  refine lv_iconst (v := (0 : Int32)) hx hb d_Model_connect_11 (by decide) ?_
  refine va_put (D := G.1) (cl := xCl) (ci := 10) (v := .int (0 : Int32)) (ty := .int) (C := R_Model) (T := T_Model) (N := 33) hx hb hu fi_Model ty_Model tyok_Model nm_Model hown hK hw (x_D hI _) hS 51 (x_at (by decide) (xcl_51 G s7)) rfl 8 (by decide) (hu _ mw_1076) (fun _ h9 => h9) rfl (tyok_Model 8 (by decide)) rfl rfl (Nat.le_of_ble_eq_true rfl) d_Model_connect_12 (fun H locs hw _ hS => ?_)
  replace hw := x_setR hw (by decide) rfl
  obtain ⟨s12, e12, hE⟩ := x_letE hE
  rw [← e12] at hw
  refine lv_aload_n hx hb d_Model_connect_15 rfl (lv_at hl 0 rfl) ?_
  refine lv_iconst (v := (0 : Int32)) hx hb d_Model_connect_16 (by decide) ?_
  refine va_put (D := G.1) (cl := xCl) (ci := 10) (v := .int (0 : Int32)) (ty := .boolean) (C := R_Model) (T := T_Model) (N := 33) hx hb hu fi_Model ty_Model tyok_Model nm_Model hown hK hw (x_D hI _) hS 51 (x_at (by decide) (xcl_51 G s12)) rfl 9 (by decide) (hu _ mw_1077) (fun _ h9 => h9) rfl (tyok_Model 9 (by decide)) rfl rfl (Nat.le_of_ble_eq_true rfl) d_Model_connect_17 (fun H locs hw _ hS => ?_)
  replace hw := x_setR hw (by decide) rfl
  obtain ⟨s17, e17, hE⟩ := x_letE hE
  rw [← e17] at hw
  refine lv_aload_n hx hb d_Model_connect_20 rfl (lv_at hl 0 rfl) ?_
  refine lv_iconst (v := (0 : Int32)) hx hb d_Model_connect_21 (by decide) ?_
  refine va_put (D := G.1) (cl := xCl) (ci := 10) (v := .int (0 : Int32)) (ty := .int) (C := R_Model) (T := T_Model) (N := 33) hx hb hu fi_Model ty_Model tyok_Model nm_Model hown hK hw (x_D hI _) hS 51 (x_at (by decide) (xcl_51 G s17)) rfl 10 (by decide) (hu _ mw_1078) (fun _ h9 => h9) rfl (tyok_Model 10 (by decide)) rfl rfl (Nat.le_of_ble_eq_true rfl) d_Model_connect_22 (fun H locs hw _ hS => ?_)
  replace hw := x_setR hw (by decide) rfl
  obtain ⟨s22, e22, hE⟩ := x_letE hE
  rw [← e22] at hw
  refine lv_aload_n hx hb d_Model_connect_25 rfl (lv_at hl 0 rfl) ?_
  refine lv_iconst (v := (0 : Int32)) hx hb d_Model_connect_26 (by decide) ?_
  refine va_put (D := G.1) (cl := xCl) (ci := 10) (v := .int (0 : Int32)) (ty := .int) (C := R_Model) (T := T_Model) (N := 33) hx hb hu fi_Model ty_Model tyok_Model nm_Model hown hK hw (x_D hI _) hS 51 (x_at (by decide) (xcl_51 G s22)) rfl 31 (by decide) (hu _ mw_1099) (fun _ h9 => h9) rfl (tyok_Model 31 (by decide)) rfl rfl (Nat.le_of_ble_eq_true rfl) d_Model_connect_27 (fun H locs hw _ hS => ?_)
  replace hw := x_setR hw (by decide) rfl
  obtain ⟨s27, e27, hE⟩ := x_letE hE
  rw [← e27] at hw
  refine lv_aload_n hx hb d_Model_connect_30 rfl (lv_at hl 0 rfl) ?_
  refine lv_iconst (v := ((-1) : Int32)) hx hb d_Model_connect_31 (by decide) ?_
  refine va_put (D := G.1) (cl := xCl) (ci := 10) (v := .int ((-1) : Int32)) (ty := .int) (C := R_Model) (T := T_Model) (N := 33) hx hb hu fi_Model ty_Model tyok_Model nm_Model hown hK hw (x_D hI _) hS 51 (x_at (by decide) (xcl_51 G s27)) rfl 29 (by decide) (hu _ mw_1097) (fun _ h9 => h9) rfl (tyok_Model 29 (by decide)) rfl rfl (Nat.le_of_ble_eq_true rfl) d_Model_connect_32 (fun H locs hw _ hS => ?_)
  replace hw := x_setR hw (by decide) rfl
  obtain ⟨s32, e32, hE⟩ := x_letE hE
  rw [← e32] at hw
  have e1 := Option.some.inj hE
  exact W.vret hx hb hr (fun t ht hW => ⟨rfl, by rw [ht, ← e1]; exact hw, hS.F ht⟩) hS.2.2 d_Model_connect_35

def y_Model_sent : MethodName := ⟨"PlainOriginModel", "sent", "()I"⟩
def ws_Model_sent : List Cond := Cond.code y_Model_sent prog_14_method_50_code 1 (some .int) :: UW
theorem hd_Model_sent : y_Model_sent.cls = R_Model ∧ y_Model_sent.cls ≠ "java/lang/invoke/MethodHandle" ∧ y_Model_sent.cls ≠ "java/lang/invoke/VarHandle" ∧ (parseMethodDescriptor y_Model_sent.desc).map (fun d => d.parameters.length) = some 0 := by decide +kernel
theorem d_Model_sent_0 : decode prog_14_method_50_code 0 = .ok (.aload_n 0, 1) := by decide +kernel
theorem d_Model_sent_1 : decode prog_14_method_50_code 1 = .ok (.iconst 0, 1) := by decide +kernel
theorem d_Model_sent_2 : decode prog_14_method_50_code 2 = .ok (.putfield 142, 3) := by decide +kernel
theorem d_Model_sent_5 : decode prog_14_method_50_code 5 = .ok (.aload_n 0, 1) := by decide +kernel
theorem d_Model_sent_6 : decode prog_14_method_50_code 6 = .ok (.getfield 297, 3) := by decide +kernel
theorem d_Model_sent_9 : decode prog_14_method_50_code 9 = .ok (.ireturn, 1) := by decide +kernel
def x_Model_sent (σ : St) : Option (Int32 × St) := (x_let (x_updR σ 51 1 (0 : Int32)) (fun (s2 : St) => some (s2.1 51 31, s2)))
abbrev rm_Model_sent : Room := { frames := 0, cells := 0, slots := 0, locals := 0 }
set_option maxHeartbeats 4000000 in
set_option maxRecDepth 100000 in
theorem t_Model_sent (l : Launch) (G : xG) (σ : St) (r : Int32) (σ' : St) (hE : x_Model_sent σ = some (r, σ')) : Met l y_Model_sent (ws_Model_sent) rm_Model_sent (xP G σ [.ref (G.2.1 51)]) (xQ G (some (.int r)) σ') 0 0 (xA G) := by
  refine Met.ofW (cc := prog_14_method_50_code) (maxL := 1) (ret := (some .int)) (by decide) rfl ?_
  intro p e s m args below meth c s₁ B hml hv
  obtain ⟨rfl, hw, hC⟩ := hv
  have hx := B.exec
  have hb := B.bytes
  have hr := B.returns
  have hu : ∀ w ∈ UW, w.before _ s = true := fun w h => atoms_spec B.pre w (List.mem_cons_of_mem _ h)
  have hown : s.vm.findClass R_Model = some m.cls := findClass_of_methodNamed B.named
  have hlocks := B.notSynchronized
  have hK := hC.1
  have hI := hC.2.1
  have hG := hC.2.2.1
  have hN := hC.2.2.2
  have hS : va_S (xA G) s.heap s.heap [] := va_S.rf
  have hl := lv_entry ([.ref (G.2.1 51)]) (n := 1) (Nat.le_of_ble_eq_true rfl)
  rw [lg_entry_eq]
  generalize (lg_sl ([.ref (G.2.1 51)]) ++ List.replicate (1 - (lg_sl ([.ref (G.2.1 51)])).length) Slot.unset).toArray = ls at hl ⊢
  have hl : lv_has ls 1 [(0, .ref (G.2.1 51))] := hl
  unfold x_Model_sent at hE
  refine lv_aload_n hx hb d_Model_sent_0 rfl (lv_at hl 0 rfl) ?_
  refine lv_iconst (v := (0 : Int32)) hx hb d_Model_sent_1 (by decide) ?_
  refine va_put (D := G.1) (cl := xCl) (ci := 10) (v := .int (0 : Int32)) (ty := .int) (C := R_Model) (T := T_Model) (N := 33) hx hb hu fi_Model ty_Model tyok_Model nm_Model hown hK hw (x_D hI _) hS 51 (x_at (by decide) (xcl_51 G σ)) rfl 1 (by decide) (hu _ mw_1069) (fun _ h9 => h9) rfl (tyok_Model 1 (by decide)) rfl rfl (Nat.le_of_ble_eq_true rfl) d_Model_sent_2 (fun H locs hw _ hS => ?_)
  replace hw := x_setR hw (by decide) rfl
  obtain ⟨s2, e2, hE⟩ := x_letE hE
  rw [← e2] at hw
  refine lv_aload_n hx hb d_Model_sent_5 rfl (lv_at hl 0 rfl) ?_
  refine va_get (D := G.1) (cl := xCl) (ci := 10) (v := .int (s2.1 51 31)) (C := R_Model) (T := T_Model) (N := 33) hx hb hu fi_Model hown hK hw 51 (x_at (by decide) (xcl_51 G s2)) rfl 31 (by decide) (hu _ mw_1099) (fun _ h9 => h9) rfl d_Model_sent_6 ?_
  obtain ⟨e1, e2⟩ := x_pair hE
  exact W.iret (v := s2.1 51 31) hx hb hr (fun t ht hW => ⟨by rw [e1], by rw [ht, ← e2]; exact hw, hS.F ht⟩) hS.2.2 d_Model_sent_9

def y_Model_out : MethodName := ⟨"PlainOriginModel", "out", "(I)J"⟩
def ws_Model_out : List Cond := Cond.code y_Model_out prog_14_method_51_code 5 (some .long) :: UW
theorem hd_Model_out : y_Model_out.cls = R_Model ∧ y_Model_out.cls ≠ "java/lang/invoke/MethodHandle" ∧ y_Model_out.cls ≠ "java/lang/invoke/VarHandle" ∧ (parseMethodDescriptor y_Model_out.desc).map (fun d => d.parameters.length) = some 1 := by decide +kernel
theorem d_Model_out_0 : decode prog_14_method_51_code 0 = .ok (.aload_n 0, 1) := by decide +kernel
theorem d_Model_out_1 : decode prog_14_method_51_code 1 = .ok (.iload_n 1, 1) := by decide +kernel
theorem d_Model_out_2 : decode prog_14_method_51_code 2 = .ok (.iconst 0, 1) := by decide +kernel
theorem d_Model_out_3 : decode prog_14_method_51_code 3 = .ok (.sipush (249), 3) := by decide +kernel
theorem d_Model_out_6 : decode prog_14_method_51_code 6 = .ok (.invokestatic 147, 3) := by decide +kernel
theorem d_Model_out_9 : decode prog_14_method_51_code 9 = .ok (.ifCond .eq (7), 3) := by decide +kernel
theorem d_Model_out_12 : decode prog_14_method_51_code 12 = .ok (.iconst 0, 1) := by decide +kernel
theorem d_Model_out_13 : decode prog_14_method_51_code 13 = .ok (.goto (4), 3) := by decide +kernel
theorem d_Model_out_16 : decode prog_14_method_51_code 16 = .ok (.iconst 1, 1) := by decide +kernel
theorem d_Model_out_17 : decode prog_14_method_51_code 17 = .ok (.putfield 142, 3) := by decide +kernel
theorem d_Model_out_20 : decode prog_14_method_51_code 20 = .ok (.lconst 0, 1) := by decide +kernel
theorem d_Model_out_21 : decode prog_14_method_51_code 21 = .ok (.lstore_n 2, 1) := by decide +kernel
theorem d_Model_out_22 : decode prog_14_method_51_code 22 = .ok (.bipush (7), 2) := by decide +kernel
theorem d_Model_out_24 : decode prog_14_method_51_code 24 = .ok (.istore 4, 2) := by decide +kernel
theorem d_Model_out_26 : decode prog_14_method_51_code 26 = .ok (.iload 4, 2) := by decide +kernel
theorem d_Model_out_28 : decode prog_14_method_51_code 28 = .ok (.ifCond .lt (53), 3) := by decide +kernel
theorem d_Model_out_31 : decode prog_14_method_51_code 31 = .ok (.aload_n 0, 1) := by decide +kernel
theorem d_Model_out_32 : decode prog_14_method_51_code 32 = .ok (.getfield 142, 3) := by decide +kernel
theorem d_Model_out_35 : decode prog_14_method_51_code 35 = .ok (.ifCond .ne (46), 3) := by decide +kernel
theorem d_Model_out_38 : decode prog_14_method_51_code 38 = .ok (.lload_n 2, 1) := by decide +kernel
theorem d_Model_out_39 : decode prog_14_method_51_code 39 = .ok (.bipush (8), 2) := by decide +kernel
theorem d_Model_out_41 : decode prog_14_method_51_code 41 = .ok (.lshl, 1) := by decide +kernel
theorem d_Model_out_42 : decode prog_14_method_51_code 42 = .ok (.bipush (8), 2) := by decide +kernel
theorem d_Model_out_44 : decode prog_14_method_51_code 44 = .ok (.iload_n 1, 1) := by decide +kernel
theorem d_Model_out_45 : decode prog_14_method_51_code 45 = .ok (.imul, 1) := by decide +kernel
theorem d_Model_out_46 : decode prog_14_method_51_code 46 = .ok (.iload 4, 2) := by decide +kernel
theorem d_Model_out_48 : decode prog_14_method_51_code 48 = .ok (.iadd, 1) := by decide +kernel
theorem d_Model_out_49 : decode prog_14_method_51_code 49 = .ok (.aload_n 0, 1) := by decide +kernel
theorem d_Model_out_50 : decode prog_14_method_51_code 50 = .ok (.getfield 297, 3) := by decide +kernel
theorem d_Model_out_53 : decode prog_14_method_51_code 53 = .ok (.if_icmp .ge (18), 3) := by decide +kernel
theorem d_Model_out_56 : decode prog_14_method_51_code 56 = .ok (.aload_n 0, 1) := by decide +kernel
theorem d_Model_out_57 : decode prog_14_method_51_code 57 = .ok (.getfield 139, 3) := by decide +kernel
theorem d_Model_out_60 : decode prog_14_method_51_code 60 = .ok (.bipush (8), 2) := by decide +kernel
theorem d_Model_out_62 : decode prog_14_method_51_code 62 = .ok (.iload_n 1, 1) := by decide +kernel
theorem d_Model_out_63 : decode prog_14_method_51_code 63 = .ok (.imul, 1) := by decide +kernel
theorem d_Model_out_64 : decode prog_14_method_51_code 64 = .ok (.iload 4, 2) := by decide +kernel
theorem d_Model_out_66 : decode prog_14_method_51_code 66 = .ok (.iadd, 1) := by decide +kernel
theorem d_Model_out_67 : decode prog_14_method_51_code 67 = .ok (.iaload, 1) := by decide +kernel
theorem d_Model_out_68 : decode prog_14_method_51_code 68 = .ok (.goto (4), 3) := by decide +kernel
theorem d_Model_out_71 : decode prog_14_method_51_code 71 = .ok (.iconst 0, 1) := by decide +kernel
theorem d_Model_out_72 : decode prog_14_method_51_code 72 = .ok (.i2l, 1) := by decide +kernel
theorem d_Model_out_73 : decode prog_14_method_51_code 73 = .ok (.lor, 1) := by decide +kernel
theorem d_Model_out_74 : decode prog_14_method_51_code 74 = .ok (.lstore_n 2, 1) := by decide +kernel
theorem d_Model_out_75 : decode prog_14_method_51_code 75 = .ok (.iinc 4 (-1), 3) := by decide +kernel
theorem d_Model_out_78 : decode prog_14_method_51_code 78 = .ok (.goto (-52), 3) := by decide +kernel
theorem d_Model_out_81 : decode prog_14_method_51_code 81 = .ok (.lload_n 2, 1) := by decide +kernel
theorem d_Model_out_82 : decode prog_14_method_51_code 82 = .ok (.lreturn, 1) := by decide +kernel
def x_Model_out_72 (a1 : Int32) (bk26 : Int64 → Int32 → St → Option (Int64 × St)) (l4 : Int32) (k0 : Int32) (k1 : Int64) (σ : St) : Option (Int64 × St) := (x_let (k1 ||| (Int32.toInt64 k0)) (fun (v74 : Int64) => (x_let (l4 + ((-1) : Int32)) (fun (v75 : Int32) => bk26 v74 v75 σ))))
def x_Model_out_26 (a1 : Int32) : Nat → Int64 → Int32 → St → Option (Int64 × St)
  | 0, _, _, _ => none
  | n + 1, l2, l4, σ => (if l4 < 0 then some (l2, σ) else (if (σ.1 51 1) = 0 then (if (σ.1 51 31) ≤ (((8 : Int32) * a1) + l4) then x_Model_out_72 a1 (x_Model_out_26 a1 n) l4 (0 : Int32) (l2 <<< (Int32.toInt64 (8 : Int32) &&& 63)) σ else (if x_in (((8 : Int32) * a1) + l4) 2000 then x_Model_out_72 a1 (x_Model_out_26 a1 n) l4 (σ.2.1 65 (((8 : Int32) * a1) + l4).toNatClampNeg) (l2 <<< (Int32.toInt64 (8 : Int32) &&& 63)) σ else none)) else some (l2, σ)))
def x_Model_out_17 (a1 : Int32) (k0 : Int32) (σ : St) : Option (Int64 × St) := (x_let (x_updR σ 51 1 k0) (fun (s17 : St) => x_Model_out_26 a1 x_fuel (0 : Int64) (7 : Int32) s17))
def x_Model_out (a1 : Int32) (σ : St) : Option (Int64 × St) := (Option.bind (x_Model_within a1 (0 : Int32) (249 : Int32)) (fun r6 => (if r6 = 0 then x_Model_out_17 a1 (1 : Int32) σ else x_Model_out_17 a1 (0 : Int32) σ)))
abbrev rm_Model_out : Room := { frames := 1, cells := 0, slots := 0, locals := 22 }
set_option maxHeartbeats 4000000 in
set_option maxRecDepth 100000 in
theorem t_Model_out (l : Launch) (G : xG) (σ : St) (a1 : Int32) (r : Int64) (σ' : St) (hE : x_Model_out a1 σ = some (r, σ')) : Met l y_Model_out (ws_Model_out) rm_Model_out (xP G σ [.ref (G.2.1 51), .int a1]) (xQ G (some (.long r)) σ') 0 0 (xA G) := by
  refine Met.ofW (cc := prog_14_method_51_code) (maxL := 5) (ret := (some .long)) (by decide) rfl ?_
  intro p e s m args below meth c s₁ B hml hv
  obtain ⟨rfl, hw, hC⟩ := hv
  have hx := B.exec
  have hb := B.bytes
  have hr := B.returns
  have hu : ∀ w ∈ UW, w.before _ s = true := fun w h => atoms_spec B.pre w (List.mem_cons_of_mem _ h)
  have hown : s.vm.findClass R_Model = some m.cls := findClass_of_methodNamed B.named
  have hlocks := B.notSynchronized
  have hK := hC.1
  have hI := hC.2.1
  have hG := hC.2.2.1
  have hN := hC.2.2.2
  have hS : va_S (xA G) s.heap s.heap [] := va_S.rf
  have jn72 : ∀ (bk26 : Int64 → Int32 → St → Option (Int64 × St)) (hbk26 : ∀ (ls : Array Slot) (H : Heap) (locs : List Loc) (σ : St) (l2 : Int64) (l4 : Int32), bk26 l2 l4 σ = some (r, σ') → lv_has ls 5 [(0, .ref (G.2.1 51)), (1, .int a1), (2, .long l2), (4, .int l4)] → xw G σ H → va_S (xA G) s.heap H locs → W p l e (headSpec (ws_Model_out) rm_Model_out).room s m ([.ref (G.2.1 51), .int a1] : List Value).toArray below meth c H locs 0 0 (MQ below (xQ G (some (.long r)) σ') ([.ref (G.2.1 51), .int a1] : List Value).toArray s 0 0 (xA G)) (F0 m 26 ls [])) (ls : Array Slot) (H : Heap) (locs : List Loc) (σ : St) (l4 : Int32) (k0 : Int32) (k1 : Int64), x_Model_out_72 a1 bk26 l4 k0 k1 σ = some (r, σ') → lv_has ls 5 [(0, .ref (G.2.1 51)), (1, .int a1), (4, .int l4)] → xw G σ H → va_S (xA G) s.heap H locs → W p l e (headSpec (ws_Model_out) rm_Model_out).room s m ([.ref (G.2.1 51), .int a1] : List Value).toArray below meth c H locs 0 0 (MQ below (xQ G (some (.long r)) σ') ([.ref (G.2.1 51), .int a1] : List Value).toArray s 0 0 (xA G)) (F0 m 72 ls [.int k0, .long k1]) := by
    intro bk26 hbk26 ls H locs σ l4 k0 k1 hE hl hw hS
    unfold x_Model_out_72 at hE
    refine lv_i2l hx hb d_Model_out_72 rfl ?_
    refine lv_lor hx hb d_Model_out_73 ?_
    refine lv_topl (fun v74 e74 => ?_)
    replace hE := x_letT e74 hE
    refine lv_lstore_n hx hb d_Model_out_74 rfl hl (by decide) rfl (fun ls hl => ?_)
    have hl : lv_has ls 5 [(2, .long v74), (0, .ref (G.2.1 51)), (1, .int a1), (4, .int l4)] := hl
    obtain ⟨v75, e75, hE⟩ := x_letE hE
    refine lv_iinc hx hb d_Model_out_75 hl (k := 3) rfl (x_inc v75 e75 (by decide)) (by decide) rfl (fun ls hl => ?_)
    have hl : lv_has ls 5 [(4, .int v75), (2, .long v74), (0, .ref (G.2.1 51)), (1, .int a1)] := hl
    refine lv_goto (tgt := 26) hx hb d_Model_out_78 (by decide) ?_
    exact hbk26 _ _ _ _ _ _ hE (lv_sub hl [2, 3, 1, 0] rfl) hw hS
  have jn26 : ∀ (n : Nat) (ls : Array Slot) (H : Heap) (locs : List Loc) (σ : St) (l2 : Int64) (l4 : Int32), x_Model_out_26 a1 n l2 l4 σ = some (r, σ') → lv_has ls 5 [(0, .ref (G.2.1 51)), (1, .int a1), (2, .long l2), (4, .int l4)] → xw G σ H → va_S (xA G) s.heap H locs → W p l e (headSpec (ws_Model_out) rm_Model_out).room s m ([.ref (G.2.1 51), .int a1] : List Value).toArray below meth c H locs 0 0 (MQ below (xQ G (some (.long r)) σ') ([.ref (G.2.1 51), .int a1] : List Value).toArray s 0 0 (xA G)) (F0 m 26 ls []) := by
    intro n
    induction n with
    | zero => intro ls H locs σ l2 l4 hE; rw [x_Model_out_26] at hE; cases hE
    | succ n ih =>
      intro ls H locs σ l2 l4 hE hl hw hS
      rw [x_Model_out_26] at hE
      refine lv_iload hx hb d_Model_out_26 (lv_at hl 3 rfl) ?_
      refine lv_if_lt (tgt := 81) hx hb d_Model_out_28 (by decide) (fun hc28 => ?_) (fun hc28 => ?_)
      · rw [if_pos hc28] at hE
        refine lv_lload_n hx hb d_Model_out_81 rfl (lv_at hl 2 rfl) ?_
        obtain ⟨e1, e2⟩ := x_pair hE
        exact W.lret (v := l2) hx hb hr (fun t ht hW => ⟨by rw [e1], by rw [ht, ← e2]; exact hw, hS.F ht⟩) hS.2.2 d_Model_out_82
      · rw [if_neg hc28] at hE
        refine lv_aload_n hx hb d_Model_out_31 rfl (lv_at hl 0 rfl) ?_
        refine va_get (D := G.1) (cl := xCl) (ci := 10) (v := .int (σ.1 51 1)) (C := R_Model) (T := T_Model) (N := 33) hx hb hu fi_Model hown hK hw 51 (x_at (by decide) (xcl_51 G σ)) rfl 1 (by decide) (hu _ mw_1069) (fun _ h9 => h9) rfl d_Model_out_32 ?_
        refine lv_if_ne (tgt := 81) hx hb d_Model_out_35 (by decide) (fun hc35 => ?_) (fun hc35 => ?_)
        · rw [if_neg hc35] at hE
          refine lv_lload_n hx hb d_Model_out_81 rfl (lv_at hl 2 rfl) ?_
          obtain ⟨e1, e2⟩ := x_pair hE
          exact W.lret (v := l2) hx hb hr (fun t ht hW => ⟨by rw [e1], by rw [ht, ← e2]; exact hw, hS.F ht⟩) hS.2.2 d_Model_out_82
        · rw [if_pos hc35] at hE
          refine lv_lload_n hx hb d_Model_out_38 rfl (lv_at hl 2 rfl) ?_
          refine lv_bipush (v := (8 : Int32)) hx hb d_Model_out_39 (by decide) ?_
          refine lv_lshl hx hb d_Model_out_41 rfl ?_
          refine lv_bipush (v := (8 : Int32)) hx hb d_Model_out_42 (by decide) ?_
          refine lv_iload_n hx hb d_Model_out_44 rfl (lv_at hl 1 rfl) ?_
          refine lv_imul hx hb d_Model_out_45 ?_
          refine lv_iload hx hb d_Model_out_46 (lv_at hl 3 rfl) ?_
          refine lv_iadd hx hb d_Model_out_48 ?_
          refine lv_aload_n hx hb d_Model_out_49 rfl (lv_at hl 0 rfl) ?_
          refine va_get (D := G.1) (cl := xCl) (ci := 10) (v := .int (σ.1 51 31)) (C := R_Model) (T := T_Model) (N := 33) hx hb hu fi_Model hown hK hw 51 (x_at (by decide) (xcl_51 G σ)) rfl 31 (by decide) (hu _ mw_1099) (fun _ h9 => h9) rfl d_Model_out_50 ?_
          refine lv_icmp_ge (tgt := 71) hx hb d_Model_out_53 (by decide) (fun hc53 => ?_) (fun hc53 => ?_)
          · rw [if_pos hc53] at hE
            refine lv_iconst (v := (0 : Int32)) hx hb d_Model_out_71 (by decide) ?_
            exact jn72 _ ih _ _ _ _ _ _ _ hE (lv_sub hl [0, 1, 3] rfl) hw hS
          · rw [if_neg hc53] at hE
            refine lv_aload_n hx hb d_Model_out_56 rfl (lv_at hl 0 rfl) ?_
            refine va_get (D := G.1) (cl := xCl) (ci := 10) (v := .ref (G.2.1 65)) (C := R_Model) (T := T_Model) (N := 33) hx hb hu fi_Model hown hK hw 51 (x_at (by decide) (xcl_51 G σ)) rfl 32 (by decide) (hu _ mw_1100) (fun _ h9 => h9) rfl d_Model_out_57 ?_
            refine lv_bipush (v := (8 : Int32)) hx hb d_Model_out_60 (by decide) ?_
            refine lv_iload_n hx hb d_Model_out_62 rfl (lv_at hl 1 rfl) ?_
            refine lv_imul hx hb d_Model_out_63 ?_
            refine lv_iload hx hb d_Model_out_64 (lv_at hl 3 rfl) ?_
            refine lv_iadd hx hb d_Model_out_66 ?_
            obtain ⟨g67, hE⟩ := x_guard hE
            refine va_iald hx hb hK hw 65 0 (x_at (by decide) (xcl_65 G σ)) rfl g67 d_Model_out_67 ?_
            refine lv_goto (tgt := 72) hx hb d_Model_out_68 (by decide) ?_
            exact jn72 _ ih _ _ _ _ _ _ _ hE (lv_sub hl [0, 1, 3] rfl) hw hS
  have jn17 : ∀ (ls : Array Slot) (H : Heap) (locs : List Loc) (σ : St) (k0 : Int32), x_Model_out_17 a1 k0 σ = some (r, σ') → lv_has ls 5 [(0, .ref (G.2.1 51)), (1, .int a1)] → xw G σ H → va_S (xA G) s.heap H locs → W p l e (headSpec (ws_Model_out) rm_Model_out).room s m ([.ref (G.2.1 51), .int a1] : List Value).toArray below meth c H locs 0 0 (MQ below (xQ G (some (.long r)) σ') ([.ref (G.2.1 51), .int a1] : List Value).toArray s 0 0 (xA G)) (F0 m 17 ls [.int k0, .ref (G.2.1 51)]) := by
    intro ls H locs σ k0 hE hl hw hS
    unfold x_Model_out_17 at hE
    refine va_put (D := G.1) (cl := xCl) (ci := 10) (v := .int k0) (ty := .int) (C := R_Model) (T := T_Model) (N := 33) hx hb hu fi_Model ty_Model tyok_Model nm_Model hown hK hw (x_D hI _) hS 51 (x_at (by decide) (xcl_51 G σ)) rfl 1 (by decide) (hu _ mw_1069) (fun _ h9 => h9) rfl (tyok_Model 1 (by decide)) rfl rfl (Nat.le_of_ble_eq_true rfl) d_Model_out_17 (fun H locs hw _ hS => ?_)
    replace hw := x_setR hw (by decide) rfl
    obtain ⟨s17, e17, hE⟩ := x_letE hE
    rw [← e17] at hw
    refine lv_lconst (v := (0 : Int64)) hx hb d_Model_out_20 (by decide) ?_
    refine lv_lstore_n hx hb d_Model_out_21 rfl hl (by decide) rfl (fun ls hl => ?_)
    have hl : lv_has ls 5 [(2, .long (0 : Int64)), (0, .ref (G.2.1 51)), (1, .int a1)] := hl
    refine lv_bipush (v := (7 : Int32)) hx hb d_Model_out_22 (by decide) ?_
    refine lv_istore hx hb d_Model_out_24 hl (by decide) rfl (fun ls hl => ?_)
    have hl : lv_has ls 5 [(4, .int (7 : Int32)), (2, .long (0 : Int64)), (0, .ref (G.2.1 51)), (1, .int a1)] := hl
    exact jn26 x_fuel _ _ _ _ _ _ hE (lv_sub hl [2, 3, 1, 0] rfl) hw hS
  have hl := lv_entry ([.ref (G.2.1 51), .int a1]) (n := 5) (Nat.le_of_ble_eq_true rfl)
  rw [lg_entry_eq]
  generalize (lg_sl ([.ref (G.2.1 51), .int a1]) ++ List.replicate (5 - (lg_sl ([.ref (G.2.1 51), .int a1])).length) Slot.unset).toArray = ls at hl ⊢
  have hl : lv_has ls 5 [(0, .ref (G.2.1 51)), (1, .int a1)] := hl
  unfold x_Model_out at hE
  refine lv_aload_n hx hb d_Model_out_0 rfl (lv_at hl 0 rfl) ?_
  refine lv_iload_n hx hb d_Model_out_1 rfl (lv_at hl 1 rfl) ?_
  refine lv_iconst (v := (0 : Int32)) hx hb d_Model_out_2 (by decide) ?_
  refine lv_sipush (v := (249 : Int32)) hx hb d_Model_out_3 (by decide) ?_
  obtain ⟨r6, hC6, hE⟩ := x_bind hE
  refine x_callR (W.runS (As := [.int a1, .int (0 : Int32), .int (249 : Int32)]) (rest := [.ref (G.2.1 51)]) ⟨hx, hb, hml, hown, hu⟩ (t_Model_within l G σ a1 (0 : Int32) (249 : Int32) r6 hC6) (va_cwS 3 hu (uw_S mw_1178 mw_1179 mw_70 mw_1180) rfl rfl rfl hd_Model_within ⟨Nat.le_of_ble_eq_true rfl, Nat.le_of_ble_eq_true rfl⟩) (x_preS hC hS hw) rfl rfl hl.1 rfl (lv_room (Nat.le_of_ble_eq_true rfl)) d_Model_out_6 ⟨Nat.le_of_ble_eq_true rfl, Nat.le_of_ble_eq_true rfl⟩) ?_
  refine lv_if_eq (tgt := 16) hx hb d_Model_out_9 (by decide) (fun hc9 => ?_) (fun hc9 => ?_)
  · rw [if_pos hc9] at hE
    refine lv_iconst (v := (1 : Int32)) hx hb d_Model_out_16 (by decide) ?_
    exact jn17 _ _ _ _ _ hE (lv_sub hl [0, 1] rfl) hw hS
  · rw [if_neg hc9] at hE
    refine lv_iconst (v := (0 : Int32)) hx hb d_Model_out_12 (by decide) ?_
    refine lv_goto (tgt := 17) hx hb d_Model_out_13 (by decide) ?_
    exact jn17 _ _ _ _ _ hE (lv_sub hl [0, 1] rfl) hw hS

def y_Model_drain : MethodName := ⟨"PlainOriginModel", "drain", "()I"⟩
def ws_Model_drain : List Cond := Cond.code y_Model_drain prog_14_method_52_code 2 (some .int) :: UW
theorem hd_Model_drain : y_Model_drain.cls = R_Model ∧ y_Model_drain.cls ≠ "java/lang/invoke/MethodHandle" ∧ y_Model_drain.cls ≠ "java/lang/invoke/VarHandle" ∧ (parseMethodDescriptor y_Model_drain.desc).map (fun d => d.parameters.length) = some 0 := by decide +kernel
theorem d_Model_drain_0 : decode prog_14_method_52_code 0 = .ok (.aload_n 0, 1) := by decide +kernel
theorem d_Model_drain_1 : decode prog_14_method_52_code 1 = .ok (.iconst 0, 1) := by decide +kernel
theorem d_Model_drain_2 : decode prog_14_method_52_code 2 = .ok (.putfield 142, 3) := by decide +kernel
theorem d_Model_drain_5 : decode prog_14_method_52_code 5 = .ok (.aload_n 0, 1) := by decide +kernel
theorem d_Model_drain_6 : decode prog_14_method_52_code 6 = .ok (.getfield 297, 3) := by decide +kernel
theorem d_Model_drain_9 : decode prog_14_method_52_code 9 = .ok (.istore_n 1, 1) := by decide +kernel
theorem d_Model_drain_10 : decode prog_14_method_52_code 10 = .ok (.aload_n 0, 1) := by decide +kernel
theorem d_Model_drain_11 : decode prog_14_method_52_code 11 = .ok (.iconst 0, 1) := by decide +kernel
theorem d_Model_drain_12 : decode prog_14_method_52_code 12 = .ok (.putfield 297, 3) := by decide +kernel
theorem d_Model_drain_15 : decode prog_14_method_52_code 15 = .ok (.iload_n 1, 1) := by decide +kernel
theorem d_Model_drain_16 : decode prog_14_method_52_code 16 = .ok (.ireturn, 1) := by decide +kernel
def x_Model_drain (σ : St) : Option (Int32 × St) := (x_let (x_updR σ 51 1 (0 : Int32)) (fun (s2 : St) => (x_let (s2.1 51 31) (fun (v9 : Int32) => (x_let (x_updR s2 51 31 (0 : Int32)) (fun (s12 : St) => some (v9, s12)))))))
abbrev rm_Model_drain : Room := { frames := 0, cells := 0, slots := 0, locals := 0 }
set_option maxHeartbeats 4000000 in
set_option maxRecDepth 100000 in
theorem t_Model_drain (l : Launch) (G : xG) (σ : St) (r : Int32) (σ' : St) (hE : x_Model_drain σ = some (r, σ')) : Met l y_Model_drain (ws_Model_drain) rm_Model_drain (xP G σ [.ref (G.2.1 51)]) (xQ G (some (.int r)) σ') 0 0 (xA G) := by
  refine Met.ofW (cc := prog_14_method_52_code) (maxL := 2) (ret := (some .int)) (by decide) rfl ?_
  intro p e s m args below meth c s₁ B hml hv
  obtain ⟨rfl, hw, hC⟩ := hv
  have hx := B.exec
  have hb := B.bytes
  have hr := B.returns
  have hu : ∀ w ∈ UW, w.before _ s = true := fun w h => atoms_spec B.pre w (List.mem_cons_of_mem _ h)
  have hown : s.vm.findClass R_Model = some m.cls := findClass_of_methodNamed B.named
  have hlocks := B.notSynchronized
  have hK := hC.1
  have hI := hC.2.1
  have hG := hC.2.2.1
  have hN := hC.2.2.2
  have hS : va_S (xA G) s.heap s.heap [] := va_S.rf
  have hl := lv_entry ([.ref (G.2.1 51)]) (n := 2) (Nat.le_of_ble_eq_true rfl)
  rw [lg_entry_eq]
  generalize (lg_sl ([.ref (G.2.1 51)]) ++ List.replicate (2 - (lg_sl ([.ref (G.2.1 51)])).length) Slot.unset).toArray = ls at hl ⊢
  have hl : lv_has ls 2 [(0, .ref (G.2.1 51))] := hl
  unfold x_Model_drain at hE
  refine lv_aload_n hx hb d_Model_drain_0 rfl (lv_at hl 0 rfl) ?_
  refine lv_iconst (v := (0 : Int32)) hx hb d_Model_drain_1 (by decide) ?_
  refine va_put (D := G.1) (cl := xCl) (ci := 10) (v := .int (0 : Int32)) (ty := .int) (C := R_Model) (T := T_Model) (N := 33) hx hb hu fi_Model ty_Model tyok_Model nm_Model hown hK hw (x_D hI _) hS 51 (x_at (by decide) (xcl_51 G σ)) rfl 1 (by decide) (hu _ mw_1069) (fun _ h9 => h9) rfl (tyok_Model 1 (by decide)) rfl rfl (Nat.le_of_ble_eq_true rfl) d_Model_drain_2 (fun H locs hw _ hS => ?_)
  replace hw := x_setR hw (by decide) rfl
  obtain ⟨s2, e2, hE⟩ := x_letE hE
  rw [← e2] at hw
  refine lv_aload_n hx hb d_Model_drain_5 rfl (lv_at hl 0 rfl) ?_
  refine va_get (D := G.1) (cl := xCl) (ci := 10) (v := .int (s2.1 51 31)) (C := R_Model) (T := T_Model) (N := 33) hx hb hu fi_Model hown hK hw 51 (x_at (by decide) (xcl_51 G s2)) rfl 31 (by decide) (hu _ mw_1099) (fun _ h9 => h9) rfl d_Model_drain_6 ?_
  refine lv_topi (fun v9 e9 => ?_)
  replace hE := x_letT e9 hE
  refine lv_istore_n hx hb d_Model_drain_9 rfl hl (by decide) rfl (fun ls hl => ?_)
  have hl : lv_has ls 2 [(1, .int v9), (0, .ref (G.2.1 51))] := hl
  refine lv_aload_n hx hb d_Model_drain_10 rfl (lv_at hl 1 rfl) ?_
  refine lv_iconst (v := (0 : Int32)) hx hb d_Model_drain_11 (by decide) ?_
  refine va_put (D := G.1) (cl := xCl) (ci := 10) (v := .int (0 : Int32)) (ty := .int) (C := R_Model) (T := T_Model) (N := 33) hx hb hu fi_Model ty_Model tyok_Model nm_Model hown hK hw (x_D hI _) hS 51 (x_at (by decide) (xcl_51 G s2)) rfl 31 (by decide) (hu _ mw_1099) (fun _ h9 => h9) rfl (tyok_Model 31 (by decide)) rfl rfl (Nat.le_of_ble_eq_true rfl) d_Model_drain_12 (fun H locs hw _ hS => ?_)
  replace hw := x_setR hw (by decide) rfl
  obtain ⟨s12, e12, hE⟩ := x_letE hE
  rw [← e12] at hw
  refine lv_iload_n hx hb d_Model_drain_15 rfl (lv_at hl 0 rfl) ?_
  obtain ⟨e1, e2⟩ := x_pair hE
  exact W.iret (v := v9) hx hb hr (fun t ht hW => ⟨by rw [e1], by rw [ht, ← e2]; exact hw, hS.F ht⟩) hS.2.2 d_Model_drain_16

def y_Model_status : MethodName := ⟨"PlainOriginModel", "status", "()I"⟩
def ws_Model_status : List Cond := Cond.code y_Model_status prog_14_method_53_code 1 (some .int) :: UW
theorem hd_Model_status : y_Model_status.cls = R_Model ∧ y_Model_status.cls ≠ "java/lang/invoke/MethodHandle" ∧ y_Model_status.cls ≠ "java/lang/invoke/VarHandle" ∧ (parseMethodDescriptor y_Model_status.desc).map (fun d => d.parameters.length) = some 0 := by decide +kernel
theorem d_Model_status_0 : decode prog_14_method_53_code 0 = .ok (.aload_n 0, 1) := by decide +kernel
theorem d_Model_status_1 : decode prog_14_method_53_code 1 = .ok (.iconst 0, 1) := by decide +kernel
theorem d_Model_status_2 : decode prog_14_method_53_code 2 = .ok (.putfield 142, 3) := by decide +kernel
theorem d_Model_status_5 : decode prog_14_method_53_code 5 = .ok (.aload_n 0, 1) := by decide +kernel
theorem d_Model_status_6 : decode prog_14_method_53_code 6 = .ok (.getfield 136, 3) := by decide +kernel
theorem d_Model_status_9 : decode prog_14_method_53_code 9 = .ok (.ireturn, 1) := by decide +kernel
def x_Model_status (σ : St) : Option (Int32 × St) := (x_let (x_updR σ 51 1 (0 : Int32)) (fun (s2 : St) => some (s2.1 51 29, s2)))
abbrev rm_Model_status : Room := { frames := 0, cells := 0, slots := 0, locals := 0 }
set_option maxHeartbeats 4000000 in
set_option maxRecDepth 100000 in
theorem t_Model_status (l : Launch) (G : xG) (σ : St) (r : Int32) (σ' : St) (hE : x_Model_status σ = some (r, σ')) : Met l y_Model_status (ws_Model_status) rm_Model_status (xP G σ [.ref (G.2.1 51)]) (xQ G (some (.int r)) σ') 0 0 (xA G) := by
  refine Met.ofW (cc := prog_14_method_53_code) (maxL := 1) (ret := (some .int)) (by decide) rfl ?_
  intro p e s m args below meth c s₁ B hml hv
  obtain ⟨rfl, hw, hC⟩ := hv
  have hx := B.exec
  have hb := B.bytes
  have hr := B.returns
  have hu : ∀ w ∈ UW, w.before _ s = true := fun w h => atoms_spec B.pre w (List.mem_cons_of_mem _ h)
  have hown : s.vm.findClass R_Model = some m.cls := findClass_of_methodNamed B.named
  have hlocks := B.notSynchronized
  have hK := hC.1
  have hI := hC.2.1
  have hG := hC.2.2.1
  have hN := hC.2.2.2
  have hS : va_S (xA G) s.heap s.heap [] := va_S.rf
  have hl := lv_entry ([.ref (G.2.1 51)]) (n := 1) (Nat.le_of_ble_eq_true rfl)
  rw [lg_entry_eq]
  generalize (lg_sl ([.ref (G.2.1 51)]) ++ List.replicate (1 - (lg_sl ([.ref (G.2.1 51)])).length) Slot.unset).toArray = ls at hl ⊢
  have hl : lv_has ls 1 [(0, .ref (G.2.1 51))] := hl
  unfold x_Model_status at hE
  refine lv_aload_n hx hb d_Model_status_0 rfl (lv_at hl 0 rfl) ?_
  refine lv_iconst (v := (0 : Int32)) hx hb d_Model_status_1 (by decide) ?_
  refine va_put (D := G.1) (cl := xCl) (ci := 10) (v := .int (0 : Int32)) (ty := .int) (C := R_Model) (T := T_Model) (N := 33) hx hb hu fi_Model ty_Model tyok_Model nm_Model hown hK hw (x_D hI _) hS 51 (x_at (by decide) (xcl_51 G σ)) rfl 1 (by decide) (hu _ mw_1069) (fun _ h9 => h9) rfl (tyok_Model 1 (by decide)) rfl rfl (Nat.le_of_ble_eq_true rfl) d_Model_status_2 (fun H locs hw _ hS => ?_)
  replace hw := x_setR hw (by decide) rfl
  obtain ⟨s2, e2, hE⟩ := x_letE hE
  rw [← e2] at hw
  refine lv_aload_n hx hb d_Model_status_5 rfl (lv_at hl 0 rfl) ?_
  refine va_get (D := G.1) (cl := xCl) (ci := 10) (v := .int (s2.1 51 29)) (C := R_Model) (T := T_Model) (N := 33) hx hb hu fi_Model hown hK hw 51 (x_at (by decide) (xcl_51 G s2)) rfl 29 (by decide) (hu _ mw_1097) (fun _ h9 => h9) rfl d_Model_status_6 ?_
  obtain ⟨e1, e2⟩ := x_pair hE
  exact W.iret (v := s2.1 51 29) hx hb hr (fun t ht hW => ⟨by rw [e1], by rw [ht, ← e2]; exact hw, hS.F ht⟩) hS.2.2 d_Model_status_9

def y_Model_reading : MethodName := ⟨"PlainOriginModel", "reading", "()I"⟩
def ws_Model_reading : List Cond := Cond.code y_Model_reading prog_14_method_54_code 1 (some .int) :: UW
theorem hd_Model_reading : y_Model_reading.cls = R_Model ∧ y_Model_reading.cls ≠ "java/lang/invoke/MethodHandle" ∧ y_Model_reading.cls ≠ "java/lang/invoke/VarHandle" ∧ (parseMethodDescriptor y_Model_reading.desc).map (fun d => d.parameters.length) = some 0 := by decide +kernel
theorem d_Model_reading_0 : decode prog_14_method_54_code 0 = .ok (.aload_n 0, 1) := by decide +kernel
theorem d_Model_reading_1 : decode prog_14_method_54_code 1 = .ok (.iconst 0, 1) := by decide +kernel
theorem d_Model_reading_2 : decode prog_14_method_54_code 2 = .ok (.putfield 142, 3) := by decide +kernel
theorem d_Model_reading_5 : decode prog_14_method_54_code 5 = .ok (.aload_n 0, 1) := by decide +kernel
theorem d_Model_reading_6 : decode prog_14_method_54_code 6 = .ok (.getfield 101, 3) := by decide +kernel
theorem d_Model_reading_9 : decode prog_14_method_54_code 9 = .ok (.ifCond .eq (10), 3) := by decide +kernel
theorem d_Model_reading_12 : decode prog_14_method_54_code 12 = .ok (.aload_n 0, 1) := by decide +kernel
theorem d_Model_reading_13 : decode prog_14_method_54_code 13 = .ok (.getfield 179, 3) := by decide +kernel
theorem d_Model_reading_16 : decode prog_14_method_54_code 16 = .ok (.goto (4), 3) := by decide +kernel
theorem d_Model_reading_19 : decode prog_14_method_54_code 19 = .ok (.iconst (-1), 1) := by decide +kernel
theorem d_Model_reading_20 : decode prog_14_method_54_code 20 = .ok (.ireturn, 1) := by decide +kernel
def x_Model_reading (σ : St) : Option (Int32 × St) := (x_let (x_updR σ 51 1 (0 : Int32)) (fun (s2 : St) => (if (s2.1 51 7) = 0 then some (((-1) : Int32), s2) else some (s2.1 51 8, s2))))
abbrev rm_Model_reading : Room := { frames := 0, cells := 0, slots := 0, locals := 0 }
set_option maxHeartbeats 4000000 in
set_option maxRecDepth 100000 in
theorem t_Model_reading (l : Launch) (G : xG) (σ : St) (r : Int32) (σ' : St) (hE : x_Model_reading σ = some (r, σ')) : Met l y_Model_reading (ws_Model_reading) rm_Model_reading (xP G σ [.ref (G.2.1 51)]) (xQ G (some (.int r)) σ') 0 0 (xA G) := by
  refine Met.ofW (cc := prog_14_method_54_code) (maxL := 1) (ret := (some .int)) (by decide) rfl ?_
  intro p e s m args below meth c s₁ B hml hv
  obtain ⟨rfl, hw, hC⟩ := hv
  have hx := B.exec
  have hb := B.bytes
  have hr := B.returns
  have hu : ∀ w ∈ UW, w.before _ s = true := fun w h => atoms_spec B.pre w (List.mem_cons_of_mem _ h)
  have hown : s.vm.findClass R_Model = some m.cls := findClass_of_methodNamed B.named
  have hlocks := B.notSynchronized
  have hK := hC.1
  have hI := hC.2.1
  have hG := hC.2.2.1
  have hN := hC.2.2.2
  have hS : va_S (xA G) s.heap s.heap [] := va_S.rf
  have hl := lv_entry ([.ref (G.2.1 51)]) (n := 1) (Nat.le_of_ble_eq_true rfl)
  rw [lg_entry_eq]
  generalize (lg_sl ([.ref (G.2.1 51)]) ++ List.replicate (1 - (lg_sl ([.ref (G.2.1 51)])).length) Slot.unset).toArray = ls at hl ⊢
  have hl : lv_has ls 1 [(0, .ref (G.2.1 51))] := hl
  unfold x_Model_reading at hE
  refine lv_aload_n hx hb d_Model_reading_0 rfl (lv_at hl 0 rfl) ?_
  refine lv_iconst (v := (0 : Int32)) hx hb d_Model_reading_1 (by decide) ?_
  refine va_put (D := G.1) (cl := xCl) (ci := 10) (v := .int (0 : Int32)) (ty := .int) (C := R_Model) (T := T_Model) (N := 33) hx hb hu fi_Model ty_Model tyok_Model nm_Model hown hK hw (x_D hI _) hS 51 (x_at (by decide) (xcl_51 G σ)) rfl 1 (by decide) (hu _ mw_1069) (fun _ h9 => h9) rfl (tyok_Model 1 (by decide)) rfl rfl (Nat.le_of_ble_eq_true rfl) d_Model_reading_2 (fun H locs hw _ hS => ?_)
  replace hw := x_setR hw (by decide) rfl
  obtain ⟨s2, e2, hE⟩ := x_letE hE
  rw [← e2] at hw
  refine lv_aload_n hx hb d_Model_reading_5 rfl (lv_at hl 0 rfl) ?_
  refine va_get (D := G.1) (cl := xCl) (ci := 10) (v := .int (s2.1 51 7)) (C := R_Model) (T := T_Model) (N := 33) hx hb hu fi_Model hown hK hw 51 (x_at (by decide) (xcl_51 G s2)) rfl 7 (by decide) (hu _ mw_1075) (fun _ h9 => h9) rfl d_Model_reading_6 ?_
  refine lv_if_eq (tgt := 19) hx hb d_Model_reading_9 (by decide) (fun hc9 => ?_) (fun hc9 => ?_)
  · rw [if_pos hc9] at hE
    refine lv_iconst (v := ((-1) : Int32)) hx hb d_Model_reading_19 (by decide) ?_
    obtain ⟨e1, e2⟩ := x_pair hE
    exact W.iret (v := ((-1) : Int32)) hx hb hr (fun t ht hW => ⟨by rw [e1], by rw [ht, ← e2]; exact hw, hS.F ht⟩) hS.2.2 d_Model_reading_20
  · rw [if_neg hc9] at hE
    refine lv_aload_n hx hb d_Model_reading_12 rfl (lv_at hl 0 rfl) ?_
    refine va_get (D := G.1) (cl := xCl) (ci := 10) (v := .int (s2.1 51 8)) (C := R_Model) (T := T_Model) (N := 33) hx hb hu fi_Model hown hK hw 51 (x_at (by decide) (xcl_51 G s2)) rfl 8 (by decide) (hu _ mw_1076) (fun _ h9 => h9) rfl d_Model_reading_13 ?_
    refine lv_goto (tgt := 20) hx hb d_Model_reading_16 (by decide) ?_
    obtain ⟨e1, e2⟩ := x_pair hE
    exact W.iret (v := s2.1 51 8) hx hb hr (fun t ht hW => ⟨by rw [e1], by rw [ht, ← e2]; exact hw, hS.F ht⟩) hS.2.2 d_Model_reading_20

def y_Model_size : MethodName := ⟨"PlainOriginModel", "size", "(I)I"⟩
def ws_Model_size : List Cond := Cond.code y_Model_size prog_14_method_55_code 2 (some .int) :: UW
theorem hd_Model_size : y_Model_size.cls = R_Model ∧ y_Model_size.cls ≠ "java/lang/invoke/MethodHandle" ∧ y_Model_size.cls ≠ "java/lang/invoke/VarHandle" ∧ (parseMethodDescriptor y_Model_size.desc).map (fun d => d.parameters.length) = some 1 := by decide +kernel
theorem d_Model_size_0 : decode prog_14_method_55_code 0 = .ok (.aload_n 0, 1) := by decide +kernel
theorem d_Model_size_1 : decode prog_14_method_55_code 1 = .ok (.iload_n 1, 1) := by decide +kernel
theorem d_Model_size_2 : decode prog_14_method_55_code 2 = .ok (.iconst 0, 1) := by decide +kernel
theorem d_Model_size_3 : decode prog_14_method_55_code 3 = .ok (.bipush (7), 2) := by decide +kernel
theorem d_Model_size_5 : decode prog_14_method_55_code 5 = .ok (.invokestatic 147, 3) := by decide +kernel
theorem d_Model_size_8 : decode prog_14_method_55_code 8 = .ok (.ifCond .eq (7), 3) := by decide +kernel
theorem d_Model_size_11 : decode prog_14_method_55_code 11 = .ok (.iconst 0, 1) := by decide +kernel
theorem d_Model_size_12 : decode prog_14_method_55_code 12 = .ok (.goto (4), 3) := by decide +kernel
theorem d_Model_size_15 : decode prog_14_method_55_code 15 = .ok (.iconst 1, 1) := by decide +kernel
theorem d_Model_size_16 : decode prog_14_method_55_code 16 = .ok (.putfield 142, 3) := by decide +kernel
theorem d_Model_size_19 : decode prog_14_method_55_code 19 = .ok (.aload_n 0, 1) := by decide +kernel
theorem d_Model_size_20 : decode prog_14_method_55_code 20 = .ok (.getfield 142, 3) := by decide +kernel
theorem d_Model_size_23 : decode prog_14_method_55_code 23 = .ok (.ifCond .le (7), 3) := by decide +kernel
theorem d_Model_size_26 : decode prog_14_method_55_code 26 = .ok (.iconst 0, 1) := by decide +kernel
theorem d_Model_size_27 : decode prog_14_method_55_code 27 = .ok (.goto (22), 3) := by decide +kernel
theorem d_Model_size_30 : decode prog_14_method_55_code 30 = .ok (.aload_n 0, 1) := by decide +kernel
theorem d_Model_size_31 : decode prog_14_method_55_code 31 = .ok (.getfield 87, 3) := by decide +kernel
theorem d_Model_size_34 : decode prog_14_method_55_code 34 = .ok (.iload_n 1, 1) := by decide +kernel
theorem d_Model_size_35 : decode prog_14_method_55_code 35 = .ok (.baload, 1) := by decide +kernel
theorem d_Model_size_36 : decode prog_14_method_55_code 36 = .ok (.ifCond .eq (12), 3) := by decide +kernel
theorem d_Model_size_39 : decode prog_14_method_55_code 39 = .ok (.aload_n 0, 1) := by decide +kernel
theorem d_Model_size_40 : decode prog_14_method_55_code 40 = .ok (.getfield 95, 3) := by decide +kernel
theorem d_Model_size_43 : decode prog_14_method_55_code 43 = .ok (.iload_n 1, 1) := by decide +kernel
theorem d_Model_size_44 : decode prog_14_method_55_code 44 = .ok (.iaload, 1) := by decide +kernel
theorem d_Model_size_45 : decode prog_14_method_55_code 45 = .ok (.goto (4), 3) := by decide +kernel
theorem d_Model_size_48 : decode prog_14_method_55_code 48 = .ok (.iconst (-1), 1) := by decide +kernel
theorem d_Model_size_49 : decode prog_14_method_55_code 49 = .ok (.ireturn, 1) := by decide +kernel
def x_Model_size_16 (a1 : Int32) (k0 : Int32) (σ : St) : Option (Int32 × St) := (x_let (x_updR σ 51 1 k0) (fun (s16 : St) => (if (s16.1 51 1) ≤ 0 then (if x_in a1 8 then (if (s16.2.1 53 a1.toNatClampNeg) = 0 then some (((-1) : Int32), s16) else (if x_in a1 8 then some (s16.2.1 55 a1.toNatClampNeg, s16) else none)) else none) else some ((0 : Int32), s16))))
def x_Model_size (a1 : Int32) (σ : St) : Option (Int32 × St) := (Option.bind (x_Model_within a1 (0 : Int32) (7 : Int32)) (fun r5 => (if r5 = 0 then x_Model_size_16 a1 (1 : Int32) σ else x_Model_size_16 a1 (0 : Int32) σ)))
abbrev rm_Model_size : Room := { frames := 1, cells := 0, slots := 0, locals := 22 }
set_option maxHeartbeats 4000000 in
set_option maxRecDepth 100000 in
theorem t_Model_size (l : Launch) (G : xG) (σ : St) (a1 : Int32) (r : Int32) (σ' : St) (hE : x_Model_size a1 σ = some (r, σ')) : Met l y_Model_size (ws_Model_size) rm_Model_size (xP G σ [.ref (G.2.1 51), .int a1]) (xQ G (some (.int r)) σ') 0 0 (xA G) := by
  refine Met.ofW (cc := prog_14_method_55_code) (maxL := 2) (ret := (some .int)) (by decide) rfl ?_
  intro p e s m args below meth c s₁ B hml hv
  obtain ⟨rfl, hw, hC⟩ := hv
  have hx := B.exec
  have hb := B.bytes
  have hr := B.returns
  have hu : ∀ w ∈ UW, w.before _ s = true := fun w h => atoms_spec B.pre w (List.mem_cons_of_mem _ h)
  have hown : s.vm.findClass R_Model = some m.cls := findClass_of_methodNamed B.named
  have hlocks := B.notSynchronized
  have hK := hC.1
  have hI := hC.2.1
  have hG := hC.2.2.1
  have hN := hC.2.2.2
  have hS : va_S (xA G) s.heap s.heap [] := va_S.rf
  have jn16 : ∀ (ls : Array Slot) (H : Heap) (locs : List Loc) (σ : St) (k0 : Int32), x_Model_size_16 a1 k0 σ = some (r, σ') → lv_has ls 2 [(0, .ref (G.2.1 51)), (1, .int a1)] → xw G σ H → va_S (xA G) s.heap H locs → W p l e (headSpec (ws_Model_size) rm_Model_size).room s m ([.ref (G.2.1 51), .int a1] : List Value).toArray below meth c H locs 0 0 (MQ below (xQ G (some (.int r)) σ') ([.ref (G.2.1 51), .int a1] : List Value).toArray s 0 0 (xA G)) (F0 m 16 ls [.int k0, .ref (G.2.1 51)]) := by
    intro ls H locs σ k0 hE hl hw hS
    unfold x_Model_size_16 at hE
    refine va_put (D := G.1) (cl := xCl) (ci := 10) (v := .int k0) (ty := .int) (C := R_Model) (T := T_Model) (N := 33) hx hb hu fi_Model ty_Model tyok_Model nm_Model hown hK hw (x_D hI _) hS 51 (x_at (by decide) (xcl_51 G σ)) rfl 1 (by decide) (hu _ mw_1069) (fun _ h9 => h9) rfl (tyok_Model 1 (by decide)) rfl rfl (Nat.le_of_ble_eq_true rfl) d_Model_size_16 (fun H locs hw _ hS => ?_)
    replace hw := x_setR hw (by decide) rfl
    obtain ⟨s16, e16, hE⟩ := x_letE hE
    rw [← e16] at hw
    refine lv_aload_n hx hb d_Model_size_19 rfl (lv_at hl 0 rfl) ?_
    refine va_get (D := G.1) (cl := xCl) (ci := 10) (v := .int (s16.1 51 1)) (C := R_Model) (T := T_Model) (N := 33) hx hb hu fi_Model hown hK hw 51 (x_at (by decide) (xcl_51 G s16)) rfl 1 (by decide) (hu _ mw_1069) (fun _ h9 => h9) rfl d_Model_size_20 ?_
    refine lv_if_le (tgt := 30) hx hb d_Model_size_23 (by decide) (fun hc23 => ?_) (fun hc23 => ?_)
    · rw [if_pos hc23] at hE
      refine lv_aload_n hx hb d_Model_size_30 rfl (lv_at hl 0 rfl) ?_
      refine va_get (D := G.1) (cl := xCl) (ci := 10) (v := .ref (G.2.1 53)) (C := R_Model) (T := T_Model) (N := 33) hx hb hu fi_Model hown hK hw 51 (x_at (by decide) (xcl_51 G s16)) rfl 2 (by decide) (hu _ mw_1070) (fun _ h9 => h9) rfl d_Model_size_31 ?_
      refine lv_iload_n hx hb d_Model_size_34 rfl (lv_at hl 1 rfl) ?_
      obtain ⟨g35, hE⟩ := x_guard hE
      refine va_zald hx hb hK hw 53 1 (x_at (by decide) (xcl_53 G s16)) rfl g35 d_Model_size_35 ?_
      refine lv_if_eq (tgt := 48) hx hb d_Model_size_36 (by decide) (fun hc36 => ?_) (fun hc36 => ?_)
      · rw [if_pos hc36] at hE
        refine lv_iconst (v := ((-1) : Int32)) hx hb d_Model_size_48 (by decide) ?_
        obtain ⟨e1, e2⟩ := x_pair hE
        exact W.iret (v := ((-1) : Int32)) hx hb hr (fun t ht hW => ⟨by rw [e1], by rw [ht, ← e2]; exact hw, hS.F ht⟩) hS.2.2 d_Model_size_49
      · rw [if_neg hc36] at hE
        refine lv_aload_n hx hb d_Model_size_39 rfl (lv_at hl 0 rfl) ?_
        refine va_get (D := G.1) (cl := xCl) (ci := 10) (v := .ref (G.2.1 55)) (C := R_Model) (T := T_Model) (N := 33) hx hb hu fi_Model hown hK hw 51 (x_at (by decide) (xcl_51 G s16)) rfl 4 (by decide) (hu _ mw_1072) (fun _ h9 => h9) rfl d_Model_size_40 ?_
        refine lv_iload_n hx hb d_Model_size_43 rfl (lv_at hl 1 rfl) ?_
        obtain ⟨g44, hE⟩ := x_guard hE
        refine va_iald hx hb hK hw 55 0 (x_at (by decide) (xcl_55 G s16)) rfl g44 d_Model_size_44 ?_
        refine lv_goto (tgt := 49) hx hb d_Model_size_45 (by decide) ?_
        obtain ⟨e1, e2⟩ := x_pair hE
        exact W.iret (v := s16.2.1 55 a1.toNatClampNeg) hx hb hr (fun t ht hW => ⟨by rw [e1], by rw [ht, ← e2]; exact hw, hS.F ht⟩) hS.2.2 d_Model_size_49
    · rw [if_neg hc23] at hE
      refine lv_iconst (v := (0 : Int32)) hx hb d_Model_size_26 (by decide) ?_
      refine lv_goto (tgt := 49) hx hb d_Model_size_27 (by decide) ?_
      obtain ⟨e1, e2⟩ := x_pair hE
      exact W.iret (v := (0 : Int32)) hx hb hr (fun t ht hW => ⟨by rw [e1], by rw [ht, ← e2]; exact hw, hS.F ht⟩) hS.2.2 d_Model_size_49
  have hl := lv_entry ([.ref (G.2.1 51), .int a1]) (n := 2) (Nat.le_of_ble_eq_true rfl)
  rw [lg_entry_eq]
  generalize (lg_sl ([.ref (G.2.1 51), .int a1]) ++ List.replicate (2 - (lg_sl ([.ref (G.2.1 51), .int a1])).length) Slot.unset).toArray = ls at hl ⊢
  have hl : lv_has ls 2 [(0, .ref (G.2.1 51)), (1, .int a1)] := hl
  unfold x_Model_size at hE
  refine lv_aload_n hx hb d_Model_size_0 rfl (lv_at hl 0 rfl) ?_
  refine lv_iload_n hx hb d_Model_size_1 rfl (lv_at hl 1 rfl) ?_
  refine lv_iconst (v := (0 : Int32)) hx hb d_Model_size_2 (by decide) ?_
  refine lv_bipush (v := (7 : Int32)) hx hb d_Model_size_3 (by decide) ?_
  obtain ⟨r5, hC5, hE⟩ := x_bind hE
  refine x_callR (W.runS (As := [.int a1, .int (0 : Int32), .int (7 : Int32)]) (rest := [.ref (G.2.1 51)]) ⟨hx, hb, hml, hown, hu⟩ (t_Model_within l G σ a1 (0 : Int32) (7 : Int32) r5 hC5) (va_cwS 3 hu (uw_S mw_1178 mw_1179 mw_70 mw_1180) rfl rfl rfl hd_Model_within ⟨Nat.le_of_ble_eq_true rfl, Nat.le_of_ble_eq_true rfl⟩) (x_preS hC hS hw) rfl rfl hl.1 rfl (lv_room (Nat.le_of_ble_eq_true rfl)) d_Model_size_5 ⟨Nat.le_of_ble_eq_true rfl, Nat.le_of_ble_eq_true rfl⟩) ?_
  refine lv_if_eq (tgt := 15) hx hb d_Model_size_8 (by decide) (fun hc8 => ?_) (fun hc8 => ?_)
  · rw [if_pos hc8] at hE
    refine lv_iconst (v := (1 : Int32)) hx hb d_Model_size_15 (by decide) ?_
    exact jn16 _ _ _ _ _ hE (lv_sub hl [0, 1] rfl) hw hS
  · rw [if_neg hc8] at hE
    refine lv_iconst (v := (0 : Int32)) hx hb d_Model_size_11 (by decide) ?_
    refine lv_goto (tgt := 16) hx hb d_Model_size_12 (by decide) ?_
    exact jn16 _ _ _ _ _ hE (lv_sub hl [0, 1] rfl) hw hS

def y_Model_at : MethodName := ⟨"PlainOriginModel", "at", "(II)I"⟩
def ws_Model_at : List Cond := Cond.code y_Model_at prog_14_method_56_code 3 (some .int) :: UW
theorem hd_Model_at : y_Model_at.cls = R_Model ∧ y_Model_at.cls ≠ "java/lang/invoke/MethodHandle" ∧ y_Model_at.cls ≠ "java/lang/invoke/VarHandle" ∧ (parseMethodDescriptor y_Model_at.desc).map (fun d => d.parameters.length) = some 2 := by decide +kernel
theorem d_Model_at_0 : decode prog_14_method_56_code 0 = .ok (.aload_n 0, 1) := by decide +kernel
theorem d_Model_at_1 : decode prog_14_method_56_code 1 = .ok (.iload_n 1, 1) := by decide +kernel
theorem d_Model_at_2 : decode prog_14_method_56_code 2 = .ok (.iconst 0, 1) := by decide +kernel
theorem d_Model_at_3 : decode prog_14_method_56_code 3 = .ok (.bipush (7), 2) := by decide +kernel
theorem d_Model_at_5 : decode prog_14_method_56_code 5 = .ok (.invokestatic 147, 3) := by decide +kernel
theorem d_Model_at_8 : decode prog_14_method_56_code 8 = .ok (.ifCond .ne (7), 3) := by decide +kernel
theorem d_Model_at_11 : decode prog_14_method_56_code 11 = .ok (.iconst 1, 1) := by decide +kernel
theorem d_Model_at_12 : decode prog_14_method_56_code 12 = .ok (.goto (31), 3) := by decide +kernel
theorem d_Model_at_15 : decode prog_14_method_56_code 15 = .ok (.aload_n 0, 1) := by decide +kernel
theorem d_Model_at_16 : decode prog_14_method_56_code 16 = .ok (.getfield 87, 3) := by decide +kernel
theorem d_Model_at_19 : decode prog_14_method_56_code 19 = .ok (.iload_n 1, 1) := by decide +kernel
theorem d_Model_at_20 : decode prog_14_method_56_code 20 = .ok (.baload, 1) := by decide +kernel
theorem d_Model_at_21 : decode prog_14_method_56_code 21 = .ok (.ifCond .eq (17), 3) := by decide +kernel
theorem d_Model_at_24 : decode prog_14_method_56_code 24 = .ok (.iload_n 2, 1) := by decide +kernel
theorem d_Model_at_25 : decode prog_14_method_56_code 25 = .ok (.ifCond .lt (13), 3) := by decide +kernel
theorem d_Model_at_28 : decode prog_14_method_56_code 28 = .ok (.iload_n 2, 1) := by decide +kernel
theorem d_Model_at_29 : decode prog_14_method_56_code 29 = .ok (.aload_n 0, 1) := by decide +kernel
theorem d_Model_at_30 : decode prog_14_method_56_code 30 = .ok (.getfield 95, 3) := by decide +kernel
theorem d_Model_at_33 : decode prog_14_method_56_code 33 = .ok (.iload_n 1, 1) := by decide +kernel
theorem d_Model_at_34 : decode prog_14_method_56_code 34 = .ok (.iaload, 1) := by decide +kernel
theorem d_Model_at_35 : decode prog_14_method_56_code 35 = .ok (.if_icmp .lt (7), 3) := by decide +kernel
theorem d_Model_at_38 : decode prog_14_method_56_code 38 = .ok (.iconst 2, 1) := by decide +kernel
theorem d_Model_at_39 : decode prog_14_method_56_code 39 = .ok (.goto (4), 3) := by decide +kernel
theorem d_Model_at_42 : decode prog_14_method_56_code 42 = .ok (.iconst 0, 1) := by decide +kernel
theorem d_Model_at_43 : decode prog_14_method_56_code 43 = .ok (.putfield 142, 3) := by decide +kernel
theorem d_Model_at_46 : decode prog_14_method_56_code 46 = .ok (.aload_n 0, 1) := by decide +kernel
theorem d_Model_at_47 : decode prog_14_method_56_code 47 = .ok (.getfield 142, 3) := by decide +kernel
theorem d_Model_at_50 : decode prog_14_method_56_code 50 = .ok (.ifCond .le (7), 3) := by decide +kernel
theorem d_Model_at_53 : decode prog_14_method_56_code 53 = .ok (.iconst 0, 1) := by decide +kernel
theorem d_Model_at_54 : decode prog_14_method_56_code 54 = .ok (.goto (15), 3) := by decide +kernel
theorem d_Model_at_57 : decode prog_14_method_56_code 57 = .ok (.aload_n 0, 1) := by decide +kernel
theorem d_Model_at_58 : decode prog_14_method_56_code 58 = .ok (.getfield 98, 3) := by decide +kernel
theorem d_Model_at_61 : decode prog_14_method_56_code 61 = .ok (.sipush (200), 3) := by decide +kernel
theorem d_Model_at_64 : decode prog_14_method_56_code 64 = .ok (.iload_n 1, 1) := by decide +kernel
theorem d_Model_at_65 : decode prog_14_method_56_code 65 = .ok (.imul, 1) := by decide +kernel
theorem d_Model_at_66 : decode prog_14_method_56_code 66 = .ok (.iload_n 2, 1) := by decide +kernel
theorem d_Model_at_67 : decode prog_14_method_56_code 67 = .ok (.iadd, 1) := by decide +kernel
theorem d_Model_at_68 : decode prog_14_method_56_code 68 = .ok (.iaload, 1) := by decide +kernel
theorem d_Model_at_69 : decode prog_14_method_56_code 69 = .ok (.ireturn, 1) := by decide +kernel
def x_Model_at_43 (a1 : Int32) (a2 : Int32) (k0 : Int32) (σ : St) : Option (Int32 × St) := (x_let (x_updR σ 51 1 k0) (fun (s43 : St) => (if (s43.1 51 1) ≤ 0 then (if x_in (((200 : Int32) * a1) + a2) 1600 then some (s43.2.1 56 (((200 : Int32) * a1) + a2).toNatClampNeg, s43) else none) else some ((0 : Int32), s43))))
def x_Model_at_38 (a1 : Int32) (a2 : Int32) (σ : St) : Option (Int32 × St) := x_Model_at_43 a1 a2 (2 : Int32) σ
def x_Model_at (a1 : Int32) (a2 : Int32) (σ : St) : Option (Int32 × St) := (Option.bind (x_Model_within a1 (0 : Int32) (7 : Int32)) (fun r5 => (if r5 = 0 then x_Model_at_43 a1 a2 (1 : Int32) σ else (if x_in a1 8 then (if (σ.2.1 53 a1.toNatClampNeg) = 0 then x_Model_at_38 a1 a2 σ else (if a2 < 0 then x_Model_at_38 a1 a2 σ else (if x_in a1 8 then (if a2 < (σ.2.1 55 a1.toNatClampNeg) then x_Model_at_43 a1 a2 (0 : Int32) σ else x_Model_at_38 a1 a2 σ) else none))) else none))))
abbrev rm_Model_at : Room := { frames := 1, cells := 0, slots := 0, locals := 22 }
set_option maxHeartbeats 4000000 in
set_option maxRecDepth 100000 in
theorem t_Model_at (l : Launch) (G : xG) (σ : St) (a1 : Int32) (a2 : Int32) (r : Int32) (σ' : St) (hE : x_Model_at a1 a2 σ = some (r, σ')) : Met l y_Model_at (ws_Model_at) rm_Model_at (xP G σ [.ref (G.2.1 51), .int a1, .int a2]) (xQ G (some (.int r)) σ') 0 0 (xA G) := by
  refine Met.ofW (cc := prog_14_method_56_code) (maxL := 3) (ret := (some .int)) (by decide) rfl ?_
  intro p e s m args below meth c s₁ B hml hv
  obtain ⟨rfl, hw, hC⟩ := hv
  have hx := B.exec
  have hb := B.bytes
  have hr := B.returns
  have hu : ∀ w ∈ UW, w.before _ s = true := fun w h => atoms_spec B.pre w (List.mem_cons_of_mem _ h)
  have hown : s.vm.findClass R_Model = some m.cls := findClass_of_methodNamed B.named
  have hlocks := B.notSynchronized
  have hK := hC.1
  have hI := hC.2.1
  have hG := hC.2.2.1
  have hN := hC.2.2.2
  have hS : va_S (xA G) s.heap s.heap [] := va_S.rf
  have jn43 : ∀ (ls : Array Slot) (H : Heap) (locs : List Loc) (σ : St) (k0 : Int32), x_Model_at_43 a1 a2 k0 σ = some (r, σ') → lv_has ls 3 [(0, .ref (G.2.1 51)), (1, .int a1), (2, .int a2)] → xw G σ H → va_S (xA G) s.heap H locs → W p l e (headSpec (ws_Model_at) rm_Model_at).room s m ([.ref (G.2.1 51), .int a1, .int a2] : List Value).toArray below meth c H locs 0 0 (MQ below (xQ G (some (.int r)) σ') ([.ref (G.2.1 51), .int a1, .int a2] : List Value).toArray s 0 0 (xA G)) (F0 m 43 ls [.int k0, .ref (G.2.1 51)]) := by
    intro ls H locs σ k0 hE hl hw hS
    unfold x_Model_at_43 at hE
    refine va_put (D := G.1) (cl := xCl) (ci := 10) (v := .int k0) (ty := .int) (C := R_Model) (T := T_Model) (N := 33) hx hb hu fi_Model ty_Model tyok_Model nm_Model hown hK hw (x_D hI _) hS 51 (x_at (by decide) (xcl_51 G σ)) rfl 1 (by decide) (hu _ mw_1069) (fun _ h9 => h9) rfl (tyok_Model 1 (by decide)) rfl rfl (Nat.le_of_ble_eq_true rfl) d_Model_at_43 (fun H locs hw _ hS => ?_)
    replace hw := x_setR hw (by decide) rfl
    obtain ⟨s43, e43, hE⟩ := x_letE hE
    rw [← e43] at hw
    refine lv_aload_n hx hb d_Model_at_46 rfl (lv_at hl 0 rfl) ?_
    refine va_get (D := G.1) (cl := xCl) (ci := 10) (v := .int (s43.1 51 1)) (C := R_Model) (T := T_Model) (N := 33) hx hb hu fi_Model hown hK hw 51 (x_at (by decide) (xcl_51 G s43)) rfl 1 (by decide) (hu _ mw_1069) (fun _ h9 => h9) rfl d_Model_at_47 ?_
    refine lv_if_le (tgt := 57) hx hb d_Model_at_50 (by decide) (fun hc50 => ?_) (fun hc50 => ?_)
    · rw [if_pos hc50] at hE
      refine lv_aload_n hx hb d_Model_at_57 rfl (lv_at hl 0 rfl) ?_
      refine va_get (D := G.1) (cl := xCl) (ci := 10) (v := .ref (G.2.1 56)) (C := R_Model) (T := T_Model) (N := 33) hx hb hu fi_Model hown hK hw 51 (x_at (by decide) (xcl_51 G s43)) rfl 5 (by decide) (hu _ mw_1073) (fun _ h9 => h9) rfl d_Model_at_58 ?_
      refine lv_sipush (v := (200 : Int32)) hx hb d_Model_at_61 (by decide) ?_
      refine lv_iload_n hx hb d_Model_at_64 rfl (lv_at hl 1 rfl) ?_
      refine lv_imul hx hb d_Model_at_65 ?_
      refine lv_iload_n hx hb d_Model_at_66 rfl (lv_at hl 2 rfl) ?_
      refine lv_iadd hx hb d_Model_at_67 ?_
      obtain ⟨g68, hE⟩ := x_guard hE
      refine va_iald hx hb hK hw 56 0 (x_at (by decide) (xcl_56 G s43)) rfl g68 d_Model_at_68 ?_
      obtain ⟨e1, e2⟩ := x_pair hE
      exact W.iret (v := s43.2.1 56 (((200 : Int32) * a1) + a2).toNatClampNeg) hx hb hr (fun t ht hW => ⟨by rw [e1], by rw [ht, ← e2]; exact hw, hS.F ht⟩) hS.2.2 d_Model_at_69
    · rw [if_neg hc50] at hE
      refine lv_iconst (v := (0 : Int32)) hx hb d_Model_at_53 (by decide) ?_
      refine lv_goto (tgt := 69) hx hb d_Model_at_54 (by decide) ?_
      obtain ⟨e1, e2⟩ := x_pair hE
      exact W.iret (v := (0 : Int32)) hx hb hr (fun t ht hW => ⟨by rw [e1], by rw [ht, ← e2]; exact hw, hS.F ht⟩) hS.2.2 d_Model_at_69
  have jn38 : ∀ (ls : Array Slot) (H : Heap) (locs : List Loc) (σ : St), x_Model_at_38 a1 a2 σ = some (r, σ') → lv_has ls 3 [(0, .ref (G.2.1 51)), (1, .int a1), (2, .int a2)] → xw G σ H → va_S (xA G) s.heap H locs → W p l e (headSpec (ws_Model_at) rm_Model_at).room s m ([.ref (G.2.1 51), .int a1, .int a2] : List Value).toArray below meth c H locs 0 0 (MQ below (xQ G (some (.int r)) σ') ([.ref (G.2.1 51), .int a1, .int a2] : List Value).toArray s 0 0 (xA G)) (F0 m 38 ls [.ref (G.2.1 51)]) := by
    intro ls H locs σ hE hl hw hS
    unfold x_Model_at_38 at hE
    refine lv_iconst (v := (2 : Int32)) hx hb d_Model_at_38 (by decide) ?_
    refine lv_goto (tgt := 43) hx hb d_Model_at_39 (by decide) ?_
    exact jn43 _ _ _ _ _ hE (lv_sub hl [0, 1, 2] rfl) hw hS
  have hl := lv_entry ([.ref (G.2.1 51), .int a1, .int a2]) (n := 3) (Nat.le_of_ble_eq_true rfl)
  rw [lg_entry_eq]
  generalize (lg_sl ([.ref (G.2.1 51), .int a1, .int a2]) ++ List.replicate (3 - (lg_sl ([.ref (G.2.1 51), .int a1, .int a2])).length) Slot.unset).toArray = ls at hl ⊢
  have hl : lv_has ls 3 [(0, .ref (G.2.1 51)), (1, .int a1), (2, .int a2)] := hl
  unfold x_Model_at at hE
  refine lv_aload_n hx hb d_Model_at_0 rfl (lv_at hl 0 rfl) ?_
  refine lv_iload_n hx hb d_Model_at_1 rfl (lv_at hl 1 rfl) ?_
  refine lv_iconst (v := (0 : Int32)) hx hb d_Model_at_2 (by decide) ?_
  refine lv_bipush (v := (7 : Int32)) hx hb d_Model_at_3 (by decide) ?_
  obtain ⟨r5, hC5, hE⟩ := x_bind hE
  refine x_callR (W.runS (As := [.int a1, .int (0 : Int32), .int (7 : Int32)]) (rest := [.ref (G.2.1 51)]) ⟨hx, hb, hml, hown, hu⟩ (t_Model_within l G σ a1 (0 : Int32) (7 : Int32) r5 hC5) (va_cwS 3 hu (uw_S mw_1178 mw_1179 mw_70 mw_1180) rfl rfl rfl hd_Model_within ⟨Nat.le_of_ble_eq_true rfl, Nat.le_of_ble_eq_true rfl⟩) (x_preS hC hS hw) rfl rfl hl.1 rfl (lv_room (Nat.le_of_ble_eq_true rfl)) d_Model_at_5 ⟨Nat.le_of_ble_eq_true rfl, Nat.le_of_ble_eq_true rfl⟩) ?_
  refine lv_if_ne (tgt := 15) hx hb d_Model_at_8 (by decide) (fun hc8 => ?_) (fun hc8 => ?_)
  · rw [if_neg hc8] at hE
    refine lv_aload_n hx hb d_Model_at_15 rfl (lv_at hl 0 rfl) ?_
    refine va_get (D := G.1) (cl := xCl) (ci := 10) (v := .ref (G.2.1 53)) (C := R_Model) (T := T_Model) (N := 33) hx hb hu fi_Model hown hK hw 51 (x_at (by decide) (xcl_51 G σ)) rfl 2 (by decide) (hu _ mw_1070) (fun _ h9 => h9) rfl d_Model_at_16 ?_
    refine lv_iload_n hx hb d_Model_at_19 rfl (lv_at hl 1 rfl) ?_
    obtain ⟨g20, hE⟩ := x_guard hE
    refine va_zald hx hb hK hw 53 1 (x_at (by decide) (xcl_53 G σ)) rfl g20 d_Model_at_20 ?_
    refine lv_if_eq (tgt := 38) hx hb d_Model_at_21 (by decide) (fun hc21 => ?_) (fun hc21 => ?_)
    · rw [if_pos hc21] at hE
      exact jn38 _ _ _ _ hE (lv_sub hl [0, 1, 2] rfl) hw hS
    · rw [if_neg hc21] at hE
      refine lv_iload_n hx hb d_Model_at_24 rfl (lv_at hl 2 rfl) ?_
      refine lv_if_lt (tgt := 38) hx hb d_Model_at_25 (by decide) (fun hc25 => ?_) (fun hc25 => ?_)
      · rw [if_pos hc25] at hE
        exact jn38 _ _ _ _ hE (lv_sub hl [0, 1, 2] rfl) hw hS
      · rw [if_neg hc25] at hE
        refine lv_iload_n hx hb d_Model_at_28 rfl (lv_at hl 2 rfl) ?_
        refine lv_aload_n hx hb d_Model_at_29 rfl (lv_at hl 0 rfl) ?_
        refine va_get (D := G.1) (cl := xCl) (ci := 10) (v := .ref (G.2.1 55)) (C := R_Model) (T := T_Model) (N := 33) hx hb hu fi_Model hown hK hw 51 (x_at (by decide) (xcl_51 G σ)) rfl 4 (by decide) (hu _ mw_1072) (fun _ h9 => h9) rfl d_Model_at_30 ?_
        refine lv_iload_n hx hb d_Model_at_33 rfl (lv_at hl 1 rfl) ?_
        obtain ⟨g34, hE⟩ := x_guard hE
        refine va_iald hx hb hK hw 55 0 (x_at (by decide) (xcl_55 G σ)) rfl g34 d_Model_at_34 ?_
        refine lv_icmp_lt (tgt := 42) hx hb d_Model_at_35 (by decide) (fun hc35 => ?_) (fun hc35 => ?_)
        · rw [if_pos hc35] at hE
          refine lv_iconst (v := (0 : Int32)) hx hb d_Model_at_42 (by decide) ?_
          exact jn43 _ _ _ _ _ hE (lv_sub hl [0, 1, 2] rfl) hw hS
        · rw [if_neg hc35] at hE
          exact jn38 _ _ _ _ hE (lv_sub hl [0, 1, 2] rfl) hw hS
  · rw [if_pos hc8] at hE
    refine lv_iconst (v := (1 : Int32)) hx hb d_Model_at_11 (by decide) ?_
    refine lv_goto (tgt := 43) hx hb d_Model_at_12 (by decide) ?_
    exact jn43 _ _ _ _ _ hE (lv_sub hl [0, 1, 2] rfl) hw hS

def y_Model_mark : MethodName := ⟨"PlainOriginModel", "mark", "(I)I"⟩
def ws_Model_mark : List Cond := Cond.code y_Model_mark prog_14_method_57_code 2 (some .int) :: UW
theorem hd_Model_mark : y_Model_mark.cls = R_Model ∧ y_Model_mark.cls ≠ "java/lang/invoke/MethodHandle" ∧ y_Model_mark.cls ≠ "java/lang/invoke/VarHandle" ∧ (parseMethodDescriptor y_Model_mark.desc).map (fun d => d.parameters.length) = some 1 := by decide +kernel
theorem d_Model_mark_0 : decode prog_14_method_57_code 0 = .ok (.aload_n 0, 1) := by decide +kernel
theorem d_Model_mark_1 : decode prog_14_method_57_code 1 = .ok (.iload_n 1, 1) := by decide +kernel
theorem d_Model_mark_2 : decode prog_14_method_57_code 2 = .ok (.iconst 0, 1) := by decide +kernel
theorem d_Model_mark_3 : decode prog_14_method_57_code 3 = .ok (.bipush (7), 2) := by decide +kernel
theorem d_Model_mark_5 : decode prog_14_method_57_code 5 = .ok (.invokestatic 147, 3) := by decide +kernel
theorem d_Model_mark_8 : decode prog_14_method_57_code 8 = .ok (.ifCond .eq (7), 3) := by decide +kernel
theorem d_Model_mark_11 : decode prog_14_method_57_code 11 = .ok (.iconst 0, 1) := by decide +kernel
theorem d_Model_mark_12 : decode prog_14_method_57_code 12 = .ok (.goto (4), 3) := by decide +kernel
theorem d_Model_mark_15 : decode prog_14_method_57_code 15 = .ok (.iconst 1, 1) := by decide +kernel
theorem d_Model_mark_16 : decode prog_14_method_57_code 16 = .ok (.putfield 142, 3) := by decide +kernel
theorem d_Model_mark_19 : decode prog_14_method_57_code 19 = .ok (.aload_n 0, 1) := by decide +kernel
theorem d_Model_mark_20 : decode prog_14_method_57_code 20 = .ok (.getfield 142, 3) := by decide +kernel
theorem d_Model_mark_23 : decode prog_14_method_57_code 23 = .ok (.ifCond .le (7), 3) := by decide +kernel
theorem d_Model_mark_26 : decode prog_14_method_57_code 26 = .ok (.iconst 0, 1) := by decide +kernel
theorem d_Model_mark_27 : decode prog_14_method_57_code 27 = .ok (.goto (22), 3) := by decide +kernel
theorem d_Model_mark_30 : decode prog_14_method_57_code 30 = .ok (.aload_n 0, 1) := by decide +kernel
theorem d_Model_mark_31 : decode prog_14_method_57_code 31 = .ok (.getfield 87, 3) := by decide +kernel
theorem d_Model_mark_34 : decode prog_14_method_57_code 34 = .ok (.iload_n 1, 1) := by decide +kernel
theorem d_Model_mark_35 : decode prog_14_method_57_code 35 = .ok (.baload, 1) := by decide +kernel
theorem d_Model_mark_36 : decode prog_14_method_57_code 36 = .ok (.ifCond .eq (12), 3) := by decide +kernel
theorem d_Model_mark_39 : decode prog_14_method_57_code 39 = .ok (.aload_n 0, 1) := by decide +kernel
theorem d_Model_mark_40 : decode prog_14_method_57_code 40 = .ok (.getfield 91, 3) := by decide +kernel
theorem d_Model_mark_43 : decode prog_14_method_57_code 43 = .ok (.iload_n 1, 1) := by decide +kernel
theorem d_Model_mark_44 : decode prog_14_method_57_code 44 = .ok (.iaload, 1) := by decide +kernel
theorem d_Model_mark_45 : decode prog_14_method_57_code 45 = .ok (.goto (4), 3) := by decide +kernel
theorem d_Model_mark_48 : decode prog_14_method_57_code 48 = .ok (.iconst (-1), 1) := by decide +kernel
theorem d_Model_mark_49 : decode prog_14_method_57_code 49 = .ok (.ireturn, 1) := by decide +kernel
def x_Model_mark_16 (a1 : Int32) (k0 : Int32) (σ : St) : Option (Int32 × St) := (x_let (x_updR σ 51 1 k0) (fun (s16 : St) => (if (s16.1 51 1) ≤ 0 then (if x_in a1 8 then (if (s16.2.1 53 a1.toNatClampNeg) = 0 then some (((-1) : Int32), s16) else (if x_in a1 8 then some (s16.2.1 54 a1.toNatClampNeg, s16) else none)) else none) else some ((0 : Int32), s16))))
def x_Model_mark (a1 : Int32) (σ : St) : Option (Int32 × St) := (Option.bind (x_Model_within a1 (0 : Int32) (7 : Int32)) (fun r5 => (if r5 = 0 then x_Model_mark_16 a1 (1 : Int32) σ else x_Model_mark_16 a1 (0 : Int32) σ)))
abbrev rm_Model_mark : Room := { frames := 1, cells := 0, slots := 0, locals := 22 }
set_option maxHeartbeats 4000000 in
set_option maxRecDepth 100000 in
theorem t_Model_mark (l : Launch) (G : xG) (σ : St) (a1 : Int32) (r : Int32) (σ' : St) (hE : x_Model_mark a1 σ = some (r, σ')) : Met l y_Model_mark (ws_Model_mark) rm_Model_mark (xP G σ [.ref (G.2.1 51), .int a1]) (xQ G (some (.int r)) σ') 0 0 (xA G) := by
  refine Met.ofW (cc := prog_14_method_57_code) (maxL := 2) (ret := (some .int)) (by decide) rfl ?_
  intro p e s m args below meth c s₁ B hml hv
  obtain ⟨rfl, hw, hC⟩ := hv
  have hx := B.exec
  have hb := B.bytes
  have hr := B.returns
  have hu : ∀ w ∈ UW, w.before _ s = true := fun w h => atoms_spec B.pre w (List.mem_cons_of_mem _ h)
  have hown : s.vm.findClass R_Model = some m.cls := findClass_of_methodNamed B.named
  have hlocks := B.notSynchronized
  have hK := hC.1
  have hI := hC.2.1
  have hG := hC.2.2.1
  have hN := hC.2.2.2
  have hS : va_S (xA G) s.heap s.heap [] := va_S.rf
  have jn16 : ∀ (ls : Array Slot) (H : Heap) (locs : List Loc) (σ : St) (k0 : Int32), x_Model_mark_16 a1 k0 σ = some (r, σ') → lv_has ls 2 [(0, .ref (G.2.1 51)), (1, .int a1)] → xw G σ H → va_S (xA G) s.heap H locs → W p l e (headSpec (ws_Model_mark) rm_Model_mark).room s m ([.ref (G.2.1 51), .int a1] : List Value).toArray below meth c H locs 0 0 (MQ below (xQ G (some (.int r)) σ') ([.ref (G.2.1 51), .int a1] : List Value).toArray s 0 0 (xA G)) (F0 m 16 ls [.int k0, .ref (G.2.1 51)]) := by
    intro ls H locs σ k0 hE hl hw hS
    unfold x_Model_mark_16 at hE
    refine va_put (D := G.1) (cl := xCl) (ci := 10) (v := .int k0) (ty := .int) (C := R_Model) (T := T_Model) (N := 33) hx hb hu fi_Model ty_Model tyok_Model nm_Model hown hK hw (x_D hI _) hS 51 (x_at (by decide) (xcl_51 G σ)) rfl 1 (by decide) (hu _ mw_1069) (fun _ h9 => h9) rfl (tyok_Model 1 (by decide)) rfl rfl (Nat.le_of_ble_eq_true rfl) d_Model_mark_16 (fun H locs hw _ hS => ?_)
    replace hw := x_setR hw (by decide) rfl
    obtain ⟨s16, e16, hE⟩ := x_letE hE
    rw [← e16] at hw
    refine lv_aload_n hx hb d_Model_mark_19 rfl (lv_at hl 0 rfl) ?_
    refine va_get (D := G.1) (cl := xCl) (ci := 10) (v := .int (s16.1 51 1)) (C := R_Model) (T := T_Model) (N := 33) hx hb hu fi_Model hown hK hw 51 (x_at (by decide) (xcl_51 G s16)) rfl 1 (by decide) (hu _ mw_1069) (fun _ h9 => h9) rfl d_Model_mark_20 ?_
    refine lv_if_le (tgt := 30) hx hb d_Model_mark_23 (by decide) (fun hc23 => ?_) (fun hc23 => ?_)
    · rw [if_pos hc23] at hE
      refine lv_aload_n hx hb d_Model_mark_30 rfl (lv_at hl 0 rfl) ?_
      refine va_get (D := G.1) (cl := xCl) (ci := 10) (v := .ref (G.2.1 53)) (C := R_Model) (T := T_Model) (N := 33) hx hb hu fi_Model hown hK hw 51 (x_at (by decide) (xcl_51 G s16)) rfl 2 (by decide) (hu _ mw_1070) (fun _ h9 => h9) rfl d_Model_mark_31 ?_
      refine lv_iload_n hx hb d_Model_mark_34 rfl (lv_at hl 1 rfl) ?_
      obtain ⟨g35, hE⟩ := x_guard hE
      refine va_zald hx hb hK hw 53 1 (x_at (by decide) (xcl_53 G s16)) rfl g35 d_Model_mark_35 ?_
      refine lv_if_eq (tgt := 48) hx hb d_Model_mark_36 (by decide) (fun hc36 => ?_) (fun hc36 => ?_)
      · rw [if_pos hc36] at hE
        refine lv_iconst (v := ((-1) : Int32)) hx hb d_Model_mark_48 (by decide) ?_
        obtain ⟨e1, e2⟩ := x_pair hE
        exact W.iret (v := ((-1) : Int32)) hx hb hr (fun t ht hW => ⟨by rw [e1], by rw [ht, ← e2]; exact hw, hS.F ht⟩) hS.2.2 d_Model_mark_49
      · rw [if_neg hc36] at hE
        refine lv_aload_n hx hb d_Model_mark_39 rfl (lv_at hl 0 rfl) ?_
        refine va_get (D := G.1) (cl := xCl) (ci := 10) (v := .ref (G.2.1 54)) (C := R_Model) (T := T_Model) (N := 33) hx hb hu fi_Model hown hK hw 51 (x_at (by decide) (xcl_51 G s16)) rfl 3 (by decide) (hu _ mw_1071) (fun _ h9 => h9) rfl d_Model_mark_40 ?_
        refine lv_iload_n hx hb d_Model_mark_43 rfl (lv_at hl 1 rfl) ?_
        obtain ⟨g44, hE⟩ := x_guard hE
        refine va_iald hx hb hK hw 54 0 (x_at (by decide) (xcl_54 G s16)) rfl g44 d_Model_mark_44 ?_
        refine lv_goto (tgt := 49) hx hb d_Model_mark_45 (by decide) ?_
        obtain ⟨e1, e2⟩ := x_pair hE
        exact W.iret (v := s16.2.1 54 a1.toNatClampNeg) hx hb hr (fun t ht hW => ⟨by rw [e1], by rw [ht, ← e2]; exact hw, hS.F ht⟩) hS.2.2 d_Model_mark_49
    · rw [if_neg hc23] at hE
      refine lv_iconst (v := (0 : Int32)) hx hb d_Model_mark_26 (by decide) ?_
      refine lv_goto (tgt := 49) hx hb d_Model_mark_27 (by decide) ?_
      obtain ⟨e1, e2⟩ := x_pair hE
      exact W.iret (v := (0 : Int32)) hx hb hr (fun t ht hW => ⟨by rw [e1], by rw [ht, ← e2]; exact hw, hS.F ht⟩) hS.2.2 d_Model_mark_49
  have hl := lv_entry ([.ref (G.2.1 51), .int a1]) (n := 2) (Nat.le_of_ble_eq_true rfl)
  rw [lg_entry_eq]
  generalize (lg_sl ([.ref (G.2.1 51), .int a1]) ++ List.replicate (2 - (lg_sl ([.ref (G.2.1 51), .int a1])).length) Slot.unset).toArray = ls at hl ⊢
  have hl : lv_has ls 2 [(0, .ref (G.2.1 51)), (1, .int a1)] := hl
  unfold x_Model_mark at hE
  refine lv_aload_n hx hb d_Model_mark_0 rfl (lv_at hl 0 rfl) ?_
  refine lv_iload_n hx hb d_Model_mark_1 rfl (lv_at hl 1 rfl) ?_
  refine lv_iconst (v := (0 : Int32)) hx hb d_Model_mark_2 (by decide) ?_
  refine lv_bipush (v := (7 : Int32)) hx hb d_Model_mark_3 (by decide) ?_
  obtain ⟨r5, hC5, hE⟩ := x_bind hE
  refine x_callR (W.runS (As := [.int a1, .int (0 : Int32), .int (7 : Int32)]) (rest := [.ref (G.2.1 51)]) ⟨hx, hb, hml, hown, hu⟩ (t_Model_within l G σ a1 (0 : Int32) (7 : Int32) r5 hC5) (va_cwS 3 hu (uw_S mw_1178 mw_1179 mw_70 mw_1180) rfl rfl rfl hd_Model_within ⟨Nat.le_of_ble_eq_true rfl, Nat.le_of_ble_eq_true rfl⟩) (x_preS hC hS hw) rfl rfl hl.1 rfl (lv_room (Nat.le_of_ble_eq_true rfl)) d_Model_mark_5 ⟨Nat.le_of_ble_eq_true rfl, Nat.le_of_ble_eq_true rfl⟩) ?_
  refine lv_if_eq (tgt := 15) hx hb d_Model_mark_8 (by decide) (fun hc8 => ?_) (fun hc8 => ?_)
  · rw [if_pos hc8] at hE
    refine lv_iconst (v := (1 : Int32)) hx hb d_Model_mark_15 (by decide) ?_
    exact jn16 _ _ _ _ _ hE (lv_sub hl [0, 1] rfl) hw hS
  · rw [if_neg hc8] at hE
    refine lv_iconst (v := (0 : Int32)) hx hb d_Model_mark_11 (by decide) ?_
    refine lv_goto (tgt := 16) hx hb d_Model_mark_12 (by decide) ?_
    exact jn16 _ _ _ _ _ hE (lv_sub hl [0, 1] rfl) hw hS

def y_Model_changes : MethodName := ⟨"PlainOriginModel", "changes", "()I"⟩
def ws_Model_changes : List Cond := Cond.code y_Model_changes prog_14_method_58_code 1 (some .int) :: UW
theorem hd_Model_changes : y_Model_changes.cls = R_Model ∧ y_Model_changes.cls ≠ "java/lang/invoke/MethodHandle" ∧ y_Model_changes.cls ≠ "java/lang/invoke/VarHandle" ∧ (parseMethodDescriptor y_Model_changes.desc).map (fun d => d.parameters.length) = some 0 := by decide +kernel
theorem d_Model_changes_0 : decode prog_14_method_58_code 0 = .ok (.aload_n 0, 1) := by decide +kernel
theorem d_Model_changes_1 : decode prog_14_method_58_code 1 = .ok (.iconst 0, 1) := by decide +kernel
theorem d_Model_changes_2 : decode prog_14_method_58_code 2 = .ok (.putfield 142, 3) := by decide +kernel
theorem d_Model_changes_5 : decode prog_14_method_58_code 5 = .ok (.aload_n 0, 1) := by decide +kernel
theorem d_Model_changes_6 : decode prog_14_method_58_code 6 = .ok (.getfield 329, 3) := by decide +kernel
theorem d_Model_changes_9 : decode prog_14_method_58_code 9 = .ok (.ireturn, 1) := by decide +kernel
def x_Model_changes (σ : St) : Option (Int32 × St) := (x_let (x_updR σ 51 1 (0 : Int32)) (fun (s2 : St) => some (s2.1 51 6, s2)))
abbrev rm_Model_changes : Room := { frames := 0, cells := 0, slots := 0, locals := 0 }
set_option maxHeartbeats 4000000 in
set_option maxRecDepth 100000 in
theorem t_Model_changes (l : Launch) (G : xG) (σ : St) (r : Int32) (σ' : St) (hE : x_Model_changes σ = some (r, σ')) : Met l y_Model_changes (ws_Model_changes) rm_Model_changes (xP G σ [.ref (G.2.1 51)]) (xQ G (some (.int r)) σ') 0 0 (xA G) := by
  refine Met.ofW (cc := prog_14_method_58_code) (maxL := 1) (ret := (some .int)) (by decide) rfl ?_
  intro p e s m args below meth c s₁ B hml hv
  obtain ⟨rfl, hw, hC⟩ := hv
  have hx := B.exec
  have hb := B.bytes
  have hr := B.returns
  have hu : ∀ w ∈ UW, w.before _ s = true := fun w h => atoms_spec B.pre w (List.mem_cons_of_mem _ h)
  have hown : s.vm.findClass R_Model = some m.cls := findClass_of_methodNamed B.named
  have hlocks := B.notSynchronized
  have hK := hC.1
  have hI := hC.2.1
  have hG := hC.2.2.1
  have hN := hC.2.2.2
  have hS : va_S (xA G) s.heap s.heap [] := va_S.rf
  have hl := lv_entry ([.ref (G.2.1 51)]) (n := 1) (Nat.le_of_ble_eq_true rfl)
  rw [lg_entry_eq]
  generalize (lg_sl ([.ref (G.2.1 51)]) ++ List.replicate (1 - (lg_sl ([.ref (G.2.1 51)])).length) Slot.unset).toArray = ls at hl ⊢
  have hl : lv_has ls 1 [(0, .ref (G.2.1 51))] := hl
  unfold x_Model_changes at hE
  refine lv_aload_n hx hb d_Model_changes_0 rfl (lv_at hl 0 rfl) ?_
  refine lv_iconst (v := (0 : Int32)) hx hb d_Model_changes_1 (by decide) ?_
  refine va_put (D := G.1) (cl := xCl) (ci := 10) (v := .int (0 : Int32)) (ty := .int) (C := R_Model) (T := T_Model) (N := 33) hx hb hu fi_Model ty_Model tyok_Model nm_Model hown hK hw (x_D hI _) hS 51 (x_at (by decide) (xcl_51 G σ)) rfl 1 (by decide) (hu _ mw_1069) (fun _ h9 => h9) rfl (tyok_Model 1 (by decide)) rfl rfl (Nat.le_of_ble_eq_true rfl) d_Model_changes_2 (fun H locs hw _ hS => ?_)
  replace hw := x_setR hw (by decide) rfl
  obtain ⟨s2, e2, hE⟩ := x_letE hE
  rw [← e2] at hw
  refine lv_aload_n hx hb d_Model_changes_5 rfl (lv_at hl 0 rfl) ?_
  refine va_get (D := G.1) (cl := xCl) (ci := 10) (v := .int (s2.1 51 6)) (C := R_Model) (T := T_Model) (N := 33) hx hb hu fi_Model hown hK hw 51 (x_at (by decide) (xcl_51 G s2)) rfl 6 (by decide) (hu _ mw_1074) (fun _ h9 => h9) rfl d_Model_changes_6 ?_
  obtain ⟨e1, e2⟩ := x_pair hE
  exact W.iret (v := s2.1 51 6) hx hb hr (fun t ht hW => ⟨by rw [e1], by rw [ht, ← e2]; exact hw, hS.F ht⟩) hS.2.2 d_Model_changes_9
