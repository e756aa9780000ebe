theorem dX6_from_75 : decode cX6_from 75 = .ok (.aload_n 0, 1) := by decide +kernel
theorem dX6_from_76 : decode cX6_from 76 = .ok (.iload 6, 2) := by decide +kernel
theorem dX6_from_78 : decode cX6_from 78 = .ok (.iload_n 3, 1) := by decide +kernel
theorem dX6_from_79 : decode cX6_from 79 = .ok (.iload 4, 2) := by decide +kernel
theorem dX6_from_81 : decode cX6_from 81 = .ok (.iconst 1, 1) := by decide +kernel
theorem dX6_from_82 : decode cX6_from 82 = .ok (.iadd, 1) := by decide +kernel
theorem dX6_from_83 : decode cX6_from 83 = .ok (.invokevirtual 49, 3) := by decide +kernel
theorem dX6_from_86 : decode cX6_from 86 = .ok (.ireturn, 1) := by decide +kernel
set_option maxRecDepth 20000 in
theorem ggX6_run_X6_own : GoodIn wsX6_run wsX6_own := goodIn_r _ [27, 28, 17, 18, 19, 7, 11, 12, 13, 14, 15, 16, 20, 3, 21, 22, 23, 24, 25, 26, 0, 1, 2, 4, 5, 6, 8, 9, 10, 29, 30, 31, 32, 33, 34] (by decide +kernel) (by decide +kernel)
set_option maxRecDepth 20000 in
theorem gX6_run_X6_own : GoodIn wsX6_run (wsV RX6 32 RX6 yX6_own wsX6_own) := goodIn_app (goodIn_of _ (by decide +kernel)) ggX6_run_X6_own
set_option maxRecDepth 20000 in
theorem ggX6_run_X6_above : GoodIn wsX6_run wsX6_above := goodIn_r _ [11, 12, 13, 14, 15, 16, 17, 18, 19, 7, 20, 3, 21, 22, 23, 24, 25, 26, 27, 28, 0, 1, 2, 4, 5, 6, 8, 9, 10, 29, 30, 31, 32, 33, 34] (by decide +kernel) (by decide +kernel)
set_option maxRecDepth 20000 in
theorem gX6_run_X6_above : GoodIn wsX6_run (wsV RX6 52 RX6 yX6_above wsX6_above) := goodIn_app (goodIn_of _ (by decide +kernel)) ggX6_run_X6_above
theorem dX6_run_0 : decode cX6_run 0 = .ok (.iload_n 1, 1) := by decide +kernel
theorem dX6_run_1 : decode cX6_run 1 = .ok (.lookupswitch 295 #[(10, 115), (11, 122), (12, 132), (13, 145), (20, 192), (21, 203), (30, 220), (40, 231), (50, 242), (51, 253), (60, 267), (70, 278), (71, 281)], 115) := by decide +kernel
theorem dX6_run_116 : decode cX6_run 116 = .ok (.iload_n 2, 1) := by decide +kernel
theorem dX6_run_117 : decode cX6_run 117 = .ok (.aload_n 0, 1) := by decide +kernel
theorem dX6_run_118 : decode cX6_run 118 = .ok (.getfield 19, 3) := by decide +kernel
theorem dX6_run_121 : decode cX6_run 121 = .ok (.iadd, 1) := by decide +kernel
theorem dX6_run_122 : decode cX6_run 122 = .ok (.ireturn, 1) := by decide +kernel
theorem dX6_run_123 : decode cX6_run 123 = .ok (.aload_n 0, 1) := by decide +kernel
theorem dX6_run_124 : decode cX6_run 124 = .ok (.iconst 0, 1) := by decide +kernel
theorem dX6_run_125 : decode cX6_run 125 = .ok (.iload_n 2, 1) := by decide +kernel
theorem dX6_run_126 : decode cX6_run 126 = .ok (.iload_n 3, 1) := by decide +kernel
theorem dX6_run_127 : decode cX6_run 127 = .ok (.invokevirtual 32, 3) := by decide +kernel
theorem dX6_run_130 : decode cX6_run 130 = .ok (.iconst 2, 1) := by decide +kernel
theorem dX6_run_131 : decode cX6_run 131 = .ok (.imul, 1) := by decide +kernel
theorem dX6_run_132 : decode cX6_run 132 = .ok (.ireturn, 1) := by decide +kernel
theorem dX6_run_133 : decode cX6_run 133 = .ok (.aload_n 0, 1) := by decide +kernel
theorem dX6_run_134 : decode cX6_run 134 = .ok (.iconst 1, 1) := by decide +kernel
theorem dX6_run_135 : decode cX6_run 135 = .ok (.iload_n 2, 1) := by decide +kernel
theorem dX6_run_136 : decode cX6_run 136 = .ok (.iload_n 3, 1) := by decide +kernel
theorem dX6_run_137 : decode cX6_run 137 = .ok (.invokevirtual 32, 3) := by decide +kernel
theorem dX6_run_140 : decode cX6_run 140 = .ok (.aload_n 0, 1) := by decide +kernel
theorem dX6_run_141 : decode cX6_run 141 = .ok (.getfield 22, 3) := by decide +kernel
theorem dX6_run_144 : decode cX6_run 144 = .ok (.isub, 1) := by decide +kernel
theorem dX6_run_145 : decode cX6_run 145 = .ok (.ireturn, 1) := by decide +kernel
theorem dX6_run_146 : decode cX6_run 146 = .ok (.aload_n 0, 1) := by decide +kernel
theorem dX6_run_147 : decode cX6_run 147 = .ok (.aload_n 0, 1) := by decide +kernel
theorem dX6_run_148 : decode cX6_run 148 = .ok (.getfield 22, 3) := by decide +kernel
theorem dX6_run_151 : decode cX6_run 151 = .ok (.aload_n 0, 1) := by decide +kernel
theorem dX6_run_152 : decode cX6_run 152 = .ok (.getfield 19, 3) := by decide +kernel
theorem dX6_run_155 : decode cX6_run 155 = .ok (.if_icmp .ne 7, 3) := by decide +kernel
theorem dX6_run_158 : decode cX6_run 158 = .ok (.iconst 1, 1) := by decide +kernel
theorem dX6_run_159 : decode cX6_run 159 = .ok (.goto 4, 3) := by decide +kernel
theorem dX6_run_162 : decode cX6_run 162 = .ok (.iconst 0, 1) := by decide +kernel
theorem dX6_run_163 : decode cX6_run 163 = .ok (.putfield 25, 3) := by decide +kernel
theorem dX6_run_166 : decode cX6_run 166 = .ok (.aload_n 0, 1) := by decide +kernel
theorem dX6_run_167 : decode cX6_run 167 = .ok (.getfield 22, 3) := by decide +kernel
theorem dX6_run_170 : decode cX6_run 170 = .ok (.aload_n 0, 1) := by decide +kernel
theorem dX6_run_171 : decode cX6_run 171 = .ok (.getfield 19, 3) := by decide +kernel
theorem dX6_run_174 : decode cX6_run 174 = .ok (.if_icmp .ne 7, 3) := by decide +kernel
theorem dX6_run_177 : decode cX6_run 177 = .ok (.iconst 0, 1) := by decide +kernel
theorem dX6_run_178 : decode cX6_run 178 = .ok (.goto 14, 3) := by decide +kernel
theorem dX6_run_181 : decode cX6_run 181 = .ok (.iload_n 2, 1) := by decide +kernel
theorem dX6_run_182 : decode cX6_run 182 = .ok (.aload_n 0, 1) := by decide +kernel
theorem dX6_run_183 : decode cX6_run 183 = .ok (.getfield 22, 3) := by decide +kernel
theorem dX6_run_186 : decode cX6_run 186 = .ok (.aload_n 0, 1) := by decide +kernel
theorem dX6_run_187 : decode cX6_run 187 = .ok (.getfield 19, 3) := by decide +kernel
theorem dX6_run_190 : decode cX6_run 190 = .ok (.isub, 1) := by decide +kernel
theorem dX6_run_191 : decode cX6_run 191 = .ok (.idiv, 1) := by decide +kernel
theorem dX6_run_192 : decode cX6_run 192 = .ok (.ireturn, 1) := by decide +kernel
theorem dX6_run_193 : decode cX6_run 193 = .ok (.aload_n 0, 1) := by decide +kernel
theorem dX6_run_194 : decode cX6_run 194 = .ok (.iload_n 1, 1) := by decide +kernel
theorem dX6_run_195 : decode cX6_run 195 = .ok (.iconst 0, 1) := by decide +kernel
theorem dX6_run_196 : decode cX6_run 196 = .ok (.iload_n 2, 1) := by decide +kernel
theorem dX6_run_197 : decode cX6_run 197 = .ok (.iload_n 3, 1) := by decide +kernel
theorem dX6_run_198 : decode cX6_run 198 = .ok (.invokevirtual 52, 3) := by decide +kernel
theorem dX6_run_201 : decode cX6_run 201 = .ok (.iconst 4, 1) := by decide +kernel
theorem dX6_run_202 : decode cX6_run 202 = .ok (.isub, 1) := by decide +kernel
theorem dX6_run_203 : decode cX6_run 203 = .ok (.ireturn, 1) := by decide +kernel
theorem dX6_run_204 : decode cX6_run 204 = .ok (.aload_n 0, 1) := by decide +kernel
theorem dX6_run_205 : decode cX6_run 205 = .ok (.iload_n 1, 1) := by decide +kernel
theorem dX6_run_206 : decode cX6_run 206 = .ok (.iconst 3, 1) := by decide +kernel
theorem dX6_run_207 : decode cX6_run 207 = .ok (.iload_n 2, 1) := by decide +kernel
theorem dX6_run_208 : decode cX6_run 208 = .ok (.iload_n 3, 1) := by decide +kernel
theorem dX6_run_209 : decode cX6_run 209 = .ok (.invokevirtual 52, 3) := by decide +kernel
theorem dX6_run_212 : decode cX6_run 212 = .ok (.aload_n 0, 1) := by decide +kernel
theorem dX6_run_213 : decode cX6_run 213 = .ok (.iconst 1, 1) := by decide +kernel
theorem dX6_run_214 : decode cX6_run 214 = .ok (.iconst 1, 1) := by decide +kernel
theorem dX6_run_215 : decode cX6_run 215 = .ok (.iload_n 3, 1) := by decide +kernel
theorem dX6_run_216 : decode cX6_run 216 = .ok (.invokevirtual 32, 3) := by decide +kernel
theorem dX6_run_219 : decode cX6_run 219 = .ok (.iadd, 1) := by decide +kernel
theorem dX6_run_220 : decode cX6_run 220 = .ok (.ireturn, 1) := by decide +kernel
theorem dX6_run_221 : decode cX6_run 221 = .ok (.iconst 0, 1) := by decide +kernel
theorem dX6_run_222 : decode cX6_run 222 = .ok (.aload_n 0, 1) := by decide +kernel
theorem dX6_run_223 : decode cX6_run 223 = .ok (.iload_n 1, 1) := by decide +kernel
theorem dX6_run_224 : decode cX6_run 224 = .ok (.iconst 1, 1) := by decide +kernel
theorem dX6_run_225 : decode cX6_run 225 = .ok (.iload_n 2, 1) := by decide +kernel
theorem dX6_run_226 : decode cX6_run 226 = .ok (.iload_n 3, 1) := by decide +kernel
theorem dX6_run_227 : decode cX6_run 227 = .ok (.invokevirtual 52, 3) := by decide +kernel
theorem dX6_run_230 : decode cX6_run 230 = .ok (.isub, 1) := by decide +kernel
theorem dX6_run_231 : decode cX6_run 231 = .ok (.ireturn, 1) := by decide +kernel
theorem dX6_run_232 : decode cX6_run 232 = .ok (.aload_n 0, 1) := by decide +kernel
theorem dX6_run_233 : decode cX6_run 233 = .ok (.iload_n 1, 1) := by decide +kernel
theorem dX6_run_234 : decode cX6_run 234 = .ok (.iconst 2, 1) := by decide +kernel
theorem dX6_run_235 : decode cX6_run 235 = .ok (.iload_n 2, 1) := by decide +kernel
theorem dX6_run_236 : decode cX6_run 236 = .ok (.iconst 2, 1) := by decide +kernel
theorem dX6_run_237 : decode cX6_run 237 = .ok (.idiv, 1) := by decide +kernel
theorem dX6_run_238 : decode cX6_run 238 = .ok (.iload_n 3, 1) := by decide +kernel
theorem dX6_run_239 : decode cX6_run 239 = .ok (.invokevirtual 52, 3) := by decide +kernel
theorem dX6_run_242 : decode cX6_run 242 = .ok (.ireturn, 1) := by decide +kernel
theorem dX6_run_243 : decode cX6_run 243 = .ok (.aload_n 0, 1) := by decide +kernel
theorem dX6_run_244 : decode cX6_run 244 = .ok (.iload_n 1, 1) := by decide +kernel
theorem dX6_run_245 : decode cX6_run 245 = .ok (.iconst 0, 1) := by decide +kernel
theorem dX6_run_246 : decode cX6_run 246 = .ok (.iload_n 2, 1) := by decide +kernel
theorem dX6_run_247 : decode cX6_run 247 = .ok (.iload_n 3, 1) := by decide +kernel
theorem dX6_run_248 : decode cX6_run 248 = .ok (.invokevirtual 52, 3) := by decide +kernel
theorem dX6_run_251 : decode cX6_run 251 = .ok (.iconst 3, 1) := by decide +kernel
theorem dX6_run_252 : decode cX6_run 252 = .ok (.imul, 1) := by decide +kernel
theorem dX6_run_253 : decode cX6_run 253 = .ok (.ireturn, 1) := by decide +kernel
theorem dX6_run_254 : decode cX6_run 254 = .ok (.aload_n 0, 1) := by decide +kernel
theorem dX6_run_255 : decode cX6_run 255 = .ok (.iload_n 1, 1) := by decide +kernel
theorem dX6_run_256 : decode cX6_run 256 = .ok (.iconst 2, 1) := by decide +kernel
theorem dX6_run_257 : decode cX6_run 257 = .ok (.iload_n 2, 1) := by decide +kernel
theorem dX6_run_258 : decode cX6_run 258 = .ok (.iload_n 3, 1) := by decide +kernel
theorem dX6_run_259 : decode cX6_run 259 = .ok (.invokevirtual 52, 3) := by decide +kernel
theorem dX6_run_262 : decode cX6_run 262 = .ok (.aload_n 0, 1) := by decide +kernel
theorem dX6_run_263 : decode cX6_run 263 = .ok (.getfield 19, 3) := by decide +kernel
theorem dX6_run_266 : decode cX6_run 266 = .ok (.ixor, 1) := by decide +kernel
theorem dX6_run_267 : decode cX6_run 267 = .ok (.ireturn, 1) := by decide +kernel
theorem dX6_run_268 : decode cX6_run 268 = .ok (.aload_n 0, 1) := by decide +kernel
theorem dX6_run_269 : decode cX6_run 269 = .ok (.iload_n 1, 1) := by decide +kernel
theorem dX6_run_270 : decode cX6_run 270 = .ok (.iconst 1, 1) := by decide +kernel
theorem dX6_run_271 : decode cX6_run 271 = .ok (.iload_n 2, 1) := by decide +kernel
theorem dX6_run_272 : decode cX6_run 272 = .ok (.iconst 1, 1) := by decide +kernel
theorem dX6_run_273 : decode cX6_run 273 = .ok (.iadd, 1) := by decide +kernel
theorem dX6_run_274 : decode cX6_run 274 = .ok (.iload_n 3, 1) := by decide +kernel
theorem dX6_run_275 : decode cX6_run 275 = .ok (.invokevirtual 52, 3) := by decide +kernel
theorem dX6_run_278 : decode cX6_run 278 = .ok (.ireturn, 1) := by decide +kernel
theorem dX6_run_279 : decode cX6_run 279 = .ok (.bipush 9, 2) := by decide +kernel
theorem dX6_run_281 : decode cX6_run 281 = .ok (.ireturn, 1) := by decide +kernel
theorem dX6_run_282 : decode cX6_run 282 = .ok (.aload_n 0, 1) := by decide +kernel
theorem dX6_run_283 : decode cX6_run 283 = .ok (.iload_n 1, 1) := by decide +kernel
theorem dX6_run_284 : decode cX6_run 284 = .ok (.iconst 1, 1) := by decide +kernel
theorem dX6_run_285 : decode cX6_run 285 = .ok (.iload_n 2, 1) := by decide +kernel
theorem dX6_run_286 : decode cX6_run 286 = .ok (.iload_n 3, 1) := by decide +kernel
theorem dX6_run_287 : decode cX6_run 287 = .ok (.invokevirtual 52, 3) := by decide +kernel
theorem dX6_run_290 : decode cX6_run 290 = .ok (.aload_n 0, 1) := by decide +kernel
theorem dX6_run_291 : decode cX6_run 291 = .ok (.getfield 22, 3) := by decide +kernel
theorem dX6_run_294 : decode cX6_run 294 = .ok (.iadd, 1) := by decide +kernel
theorem dX6_run_295 : decode cX6_run 295 = .ok (.ireturn, 1) := by decide +kernel
theorem dX6_run_296 : decode cX6_run 296 = .ok (.iconst 0, 1) := by decide +kernel
theorem dX6_run_297 : decode cX6_run 297 = .ok (.ireturn, 1) := by decide +kernel
set_option maxRecDepth 20000 in
theorem ggX7_init_X2_init : GoodIn wsX7_init wsX2_init := goodIn_r _ [23, 24, 2, 3, 8, 25, 26, 41, 42, 43, 44] (by decide +kernel) (by decide +kernel)
set_option maxRecDepth 20000 in
theorem gX7_init_X2_init_n11 : GoodIn wsX7_init (wsX2_init) := ggX7_init_X2_init
set_option maxRecDepth 20000 in
theorem ggX7_init_X1_init : GoodIn wsX7_init wsX1_init := goodIn_r _ [29, 30, 2, 3, 8, 31, 32, 33, 34, 35, 36, 37, 38, 39, 40, 58, 59, 60, 61, 62, 63, 64] (by decide +kernel) (by decide +kernel)
set_option maxRecDepth 20000 in
theorem gX7_init_X1_init : GoodIn wsX7_init (wsX1_init) := ggX7_init_X1_init
theorem dX7_init_0 : decode cX7_init 0 = .ok (.aload_n 0, 1) := by decide +kernel
theorem dX7_init_1 : decode cX7_init 1 = .ok (.invokespecial 3, 3) := by decide +kernel
theorem dX7_init_4 : decode cX7_init 4 = .ok (.aload_n 0, 1) := by decide +kernel
theorem dX7_init_5 : decode cX7_init 5 = .ok (.new 9, 3) := by decide +kernel
theorem dX7_init_8 : decode cX7_init 8 = .ok (.dup, 1) := by decide +kernel
theorem dX7_init_9 : decode cX7_init 9 = .ok (.invokespecial 11, 3) := by decide +kernel
theorem dX7_init_12 : decode cX7_init 12 = .ok (.putfield 12, 3) := by decide +kernel
theorem dX7_init_15 : decode cX7_init 15 = .ok (.aload_n 0, 1) := by decide +kernel
theorem dX7_init_16 : decode cX7_init 16 = .ok (.bipush 6, 2) := by decide +kernel
theorem dX7_init_18 : decode cX7_init 18 = .ok (.newarray .int, 2) := by decide +kernel
theorem dX7_init_20 : decode cX7_init 20 = .ok (.dup, 1) := by decide +kernel
theorem dX7_init_21 : decode cX7_init 21 = .ok (.iconst 0, 1) := by decide +kernel
theorem dX7_init_22 : decode cX7_init 22 = .ok (.iconst 1, 1) := by decide +kernel
theorem dX7_init_23 : decode cX7_init 23 = .ok (.iastore, 1) := by decide +kernel
theorem dX7_init_24 : decode cX7_init 24 = .ok (.dup, 1) := by decide +kernel
theorem dX7_init_25 : decode cX7_init 25 = .ok (.iconst 1, 1) := by decide +kernel
theorem dX7_init_26 : decode cX7_init 26 = .ok (.iconst 2, 1) := by decide +kernel
theorem dX7_init_27 : decode cX7_init 27 = .ok (.iastore, 1) := by decide +kernel
theorem dX7_init_28 : decode cX7_init 28 = .ok (.dup, 1) := by decide +kernel
theorem dX7_init_29 : decode cX7_init 29 = .ok (.iconst 2, 1) := by decide +kernel
theorem dX7_init_30 : decode cX7_init 30 = .ok (.iconst 4, 1) := by decide +kernel
theorem dX7_init_31 : decode cX7_init 31 = .ok (.iastore, 1) := by decide +kernel
theorem dX7_init_32 : decode cX7_init 32 = .ok (.dup, 1) := by decide +kernel
theorem dX7_init_33 : decode cX7_init 33 = .ok (.iconst 3, 1) := by decide +kernel
theorem dX7_init_34 : decode cX7_init 34 = .ok (.bipush 8, 2) := by decide +kernel
theorem dX7_init_36 : decode cX7_init 36 = .ok (.iastore, 1) := by decide +kernel
theorem dX7_init_37 : decode cX7_init 37 = .ok (.dup, 1) := by decide +kernel
theorem dX7_init_38 : decode cX7_init 38 = .ok (.iconst 4, 1) := by decide +kernel
theorem dX7_init_39 : decode cX7_init 39 = .ok (.bipush 16, 2) := by decide +kernel
theorem dX7_init_41 : decode cX7_init 41 = .ok (.iastore, 1) := by decide +kernel
theorem dX7_init_42 : decode cX7_init 42 = .ok (.dup, 1) := by decide +kernel
theorem dX7_init_43 : decode cX7_init 43 = .ok (.iconst 5, 1) := by decide +kernel
theorem dX7_init_44 : decode cX7_init 44 = .ok (.bipush 32, 2) := by decide +kernel
theorem dX7_init_46 : decode cX7_init 46 = .ok (.iastore, 1) := by decide +kernel
theorem dX7_init_47 : decode cX7_init 47 = .ok (.putfield 18, 3) := by decide +kernel
theorem dX7_init_50 : decode cX7_init 50 = .ok (.aload_n 0, 1) := by decide +kernel
theorem dX7_init_51 : decode cX7_init 51 = .ok (.bipush 6, 2) := by decide +kernel
theorem dX7_init_53 : decode cX7_init 53 = .ok (.newarray .int, 2) := by decide +kernel
theorem dX7_init_55 : decode cX7_init 55 = .ok (.putfield 22, 3) := by decide +kernel
theorem dX7_init_58 : decode cX7_init 58 = .ok (.aload_n 0, 1) := by decide +kernel
theorem dX7_init_59 : decode cX7_init 59 = .ok (.bipush 6, 2) := by decide +kernel
theorem dX7_init_61 : decode cX7_init 61 = .ok (.newarray .int, 2) := by decide +kernel
theorem dX7_init_63 : decode cX7_init 63 = .ok (.putfield 25, 3) := by decide +kernel
theorem dX7_init_66 : decode cX7_init 66 = .ok (.aload_n 0, 1) := by decide +kernel
theorem dX7_init_67 : decode cX7_init 67 = .ok (.bipush 6, 2) := by decide +kernel
theorem dX7_init_69 : decode cX7_init 69 = .ok (.newarray .int, 2) := by decide +kernel
theorem dX7_init_71 : decode cX7_init 71 = .ok (.putfield 28, 3) := by decide +kernel
theorem dX7_init_74 : decode cX7_init 74 = .ok (.aload_n 0, 1) := by decide +kernel
theorem dX7_init_75 : decode cX7_init 75 = .ok (.bipush 60, 2) := by decide +kernel
theorem dX7_init_77 : decode cX7_init 77 = .ok (.newarray .byte, 2) := by decide +kernel
theorem dX7_init_79 : decode cX7_init 79 = .ok (.putfield 31, 3) := by decide +kernel
theorem dX7_init_82 : decode cX7_init 82 = .ok (.aload_n 0, 1) := by decide +kernel
theorem dX7_init_83 : decode cX7_init 83 = .ok (.bipush 24, 2) := by decide +kernel
theorem dX7_init_85 : decode cX7_init 85 = .ok (.newarray .int, 2) := by decide +kernel
theorem dX7_init_87 : decode cX7_init 87 = .ok (.putfield 35, 3) := by decide +kernel
theorem dX7_init_90 : decode cX7_init 90 = .ok (.aload_n 0, 1) := by decide +kernel
theorem dX7_init_91 : decode cX7_init 91 = .ok (.iconst 1, 1) := by decide +kernel
theorem dX7_init_92 : decode cX7_init 92 = .ok (.putfield 38, 3) := by decide +kernel
theorem dX7_init_95 : decode cX7_init 95 = .ok (.aload_n 0, 1) := by decide +kernel
theorem dX7_init_96 : decode cX7_init 96 = .ok (.new 42, 3) := by decide +kernel
theorem dX7_init_99 : decode cX7_init 99 = .ok (.dup, 1) := by decide +kernel
theorem dX7_init_100 : decode cX7_init 100 = .ok (.bipush 30, 2) := by decide +kernel
theorem dX7_init_102 : decode cX7_init 102 = .ok (.iload_n 1, 1) := by decide +kernel
theorem dX7_init_103 : decode cX7_init 103 = .ok (.ifCond .eq 8, 3) := by decide +kernel
theorem dX7_init_106 : decode cX7_init 106 = .ok (.bipush 9, 2) := by decide +kernel
theorem dX7_init_108 : decode cX7_init 108 = .ok (.goto 4, 3) := by decide +kernel
theorem dX7_init_111 : decode cX7_init 111 = .ok (.iconst 0, 1) := by decide +kernel
theorem dX7_init_112 : decode cX7_init 112 = .ok (.bipush 16, 2) := by decide +kernel
theorem dX7_init_114 : decode cX7_init 114 = .ok (.invokespecial 44, 3) := by decide +kernel
theorem dX7_init_117 : decode cX7_init 117 = .ok (.putfield 47, 3) := by decide +kernel
theorem dX7_init_120 : decode cX7_init 120 = .ok (.aload_n 0, 1) := by decide +kernel
theorem dX7_init_121 : decode cX7_init 121 = .ok (.new 42, 3) := by decide +kernel
theorem dX7_init_124 : decode cX7_init 124 = .ok (.dup, 1) := by decide +kernel
theorem dX7_init_125 : decode cX7_init 125 = .ok (.bipush 40, 2) := by decide +kernel
theorem dX7_init_127 : decode cX7_init 127 = .ok (.iload_n 1, 1) := by decide +kernel
theorem dX7_init_128 : decode cX7_init 128 = .ok (.ifCond .eq 8, 3) := by decide +kernel
theorem dX7_init_131 : decode cX7_init 131 = .ok (.bipush 66, 2) := by decide +kernel
theorem dX7_init_133 : decode cX7_init 133 = .ok (.goto 4, 3) := by decide +kernel
theorem dX7_init_136 : decode cX7_init 136 = .ok (.iconst 0, 1) := by decide +kernel
theorem dX7_init_137 : decode cX7_init 137 = .ok (.bipush 10, 2) := by decide +kernel
theorem dX7_init_139 : decode cX7_init 139 = .ok (.invokespecial 44, 3) := by decide +kernel
theorem dX7_init_142 : decode cX7_init 142 = .ok (.putfield 51, 3) := by decide +kernel
theorem dX7_init_145 : decode cX7_init 145 = .ok (.return_, 1) := by decide +kernel
set_option maxRecDepth 20000 in
theorem ggX7_copyFrom_X2_copyFrom : GoodIn wsX7_copyFrom wsX2_copyFrom := goodIn_r _ [24, 25, 26, 27, 28, 4, 5, 6, 69, 70, 71, 72] (by decide +kernel) (by decide +kernel)
set_option maxRecDepth 20000 in
theorem gX7_copyFrom_X2_copyFrom : GoodIn wsX7_copyFrom (wsV RX7 54 RX2 yX2_copyFrom wsX2_copyFrom) := goodIn_app (goodIn_of _ (by decide +kernel)) ggX7_copyFrom_X2_copyFrom
set_option maxRecDepth 20000 in
theorem ggX7_copyFrom_X1_take : GoodIn wsX7_copyFrom wsX1_take := goodIn_r _ [33, 34, 35, 36, 37, 38, 39, 40, 41, 42, 43, 4, 5, 6, 44, 45, 46, 47, 48, 62, 63, 64, 65, 66, 67, 68] (by decide +kernel) (by decide +kernel)
set_option maxRecDepth 20000 in
theorem gX7_copyFrom_X1_take : GoodIn wsX7_copyFrom (wsV RX7 73 RX1 yX1_take wsX1_take) := goodIn_app (goodIn_of _ (by decide +kernel)) ggX7_copyFrom_X1_take
theorem dX7_copyFrom_0 : decode cX7_copyFrom 0 = .ok (.aload_n 0, 1) := by decide +kernel
theorem dX7_copyFrom_1 : decode cX7_copyFrom 1 = .ok (.getfield 12, 3) := by decide +kernel
theorem dX7_copyFrom_4 : decode cX7_copyFrom 4 = .ok (.aload_n 1, 1) := by decide +kernel
theorem dX7_copyFrom_5 : decode cX7_copyFrom 5 = .ok (.getfield 12, 3) := by decide +kernel
theorem dX7_copyFrom_8 : decode cX7_copyFrom 8 = .ok (.invokevirtual 54, 3) := by decide +kernel
theorem dX7_copyFrom_11 : decode cX7_copyFrom 11 = .ok (.aload_n 1, 1) := by decide +kernel
theorem dX7_copyFrom_12 : decode cX7_copyFrom 12 = .ok (.getfield 18, 3) := by decide +kernel
theorem dX7_copyFrom_15 : decode cX7_copyFrom 15 = .ok (.iconst 0, 1) := by decide +kernel
theorem dX7_copyFrom_16 : decode cX7_copyFrom 16 = .ok (.aload_n 0, 1) := by decide +kernel
theorem dX7_copyFrom_17 : decode cX7_copyFrom 17 = .ok (.getfield 18, 3) := by decide +kernel
theorem dX7_copyFrom_20 : decode cX7_copyFrom 20 = .ok (.iconst 0, 1) := by decide +kernel
theorem dX7_copyFrom_21 : decode cX7_copyFrom 21 = .ok (.bipush 6, 2) := by decide +kernel
theorem dX7_copyFrom_23 : decode cX7_copyFrom 23 = .ok (.invokestatic 58, 3) := by decide +kernel
theorem dX7_copyFrom_26 : decode cX7_copyFrom 26 = .ok (.aload_n 0, 1) := by decide +kernel
theorem dX7_copyFrom_27 : decode cX7_copyFrom 27 = .ok (.aload_n 1, 1) := by decide +kernel
theorem dX7_copyFrom_28 : decode cX7_copyFrom 28 = .ok (.getfield 64, 3) := by decide +kernel
theorem dX7_copyFrom_31 : decode cX7_copyFrom 31 = .ok (.putfield 64, 3) := by decide +kernel
theorem dX7_copyFrom_34 : decode cX7_copyFrom 34 = .ok (.aload_n 1, 1) := by decide +kernel
theorem dX7_copyFrom_35 : decode cX7_copyFrom 35 = .ok (.getfield 22, 3) := by decide +kernel
theorem dX7_copyFrom_38 : decode cX7_copyFrom 38 = .ok (.iconst 0, 1) := by decide +kernel
theorem dX7_copyFrom_39 : decode cX7_copyFrom 39 = .ok (.aload_n 0, 1) := by decide +kernel
theorem dX7_copyFrom_40 : decode cX7_copyFrom 40 = .ok (.getfield 22, 3) := by decide +kernel
theorem dX7_copyFrom_43 : decode cX7_copyFrom 43 = .ok (.iconst 0, 1) := by decide +kernel
theorem dX7_copyFrom_44 : decode cX7_copyFrom 44 = .ok (.bipush 6, 2) := by decide +kernel
theorem dX7_copyFrom_46 : decode cX7_copyFrom 46 = .ok (.invokestatic 58, 3) := by decide +kernel
theorem dX7_copyFrom_49 : decode cX7_copyFrom 49 = .ok (.aload_n 1, 1) := by decide +kernel
theorem dX7_copyFrom_50 : decode cX7_copyFrom 50 = .ok (.getfield 25, 3) := by decide +kernel
theorem dX7_copyFrom_53 : decode cX7_copyFrom 53 = .ok (.iconst 0, 1) := by decide +kernel
theorem dX7_copyFrom_54 : decode cX7_copyFrom 54 = .ok (.aload_n 0, 1) := by decide +kernel
theorem dX7_copyFrom_55 : decode cX7_copyFrom 55 = .ok (.getfield 25, 3) := by decide +kernel
theorem dX7_copyFrom_58 : decode cX7_copyFrom 58 = .ok (.iconst 0, 1) := by decide +kernel
theorem dX7_copyFrom_59 : decode cX7_copyFrom 59 = .ok (.bipush 6, 2) := by decide +kernel
theorem dX7_copyFrom_61 : decode cX7_copyFrom 61 = .ok (.invokestatic 58, 3) := by decide +kernel
theorem dX7_copyFrom_64 : decode cX7_copyFrom 64 = .ok (.aload_n 1, 1) := by decide +kernel
theorem dX7_copyFrom_65 : decode cX7_copyFrom 65 = .ok (.getfield 28, 3) := by decide +kernel
theorem dX7_copyFrom_68 : decode cX7_copyFrom 68 = .ok (.iconst 0, 1) := by decide +kernel
theorem dX7_copyFrom_69 : decode cX7_copyFrom 69 = .ok (.aload_n 0, 1) := by decide +kernel
theorem dX7_copyFrom_70 : decode cX7_copyFrom 70 = .ok (.getfield 28, 3) := by decide +kernel
theorem dX7_copyFrom_73 : decode cX7_copyFrom 73 = .ok (.iconst 0, 1) := by decide +kernel
theorem dX7_copyFrom_74 : decode cX7_copyFrom 74 = .ok (.bipush 6, 2) := by decide +kernel
theorem dX7_copyFrom_76 : decode cX7_copyFrom 76 = .ok (.invokestatic 58, 3) := by decide +kernel
theorem dX7_copyFrom_79 : decode cX7_copyFrom 79 = .ok (.aload_n 0, 1) := by decide +kernel
theorem dX7_copyFrom_80 : decode cX7_copyFrom 80 = .ok (.getfield 47, 3) := by decide +kernel
theorem dX7_copyFrom_83 : decode cX7_copyFrom 83 = .ok (.aload_n 1, 1) := by decide +kernel
theorem dX7_copyFrom_84 : decode cX7_copyFrom 84 = .ok (.getfield 47, 3) := by decide +kernel
theorem dX7_copyFrom_87 : decode cX7_copyFrom 87 = .ok (.getfield 67, 3) := by decide +kernel
theorem dX7_copyFrom_90 : decode cX7_copyFrom 90 = .ok (.aload_n 1, 1) := by decide +kernel
theorem dX7_copyFrom_91 : decode cX7_copyFrom 91 = .ok (.getfield 47, 3) := by decide +kernel
theorem dX7_copyFrom_94 : decode cX7_copyFrom 94 = .ok (.getfield 70, 3) := by decide +kernel
theorem dX7_copyFrom_97 : decode cX7_copyFrom 97 = .ok (.invokevirtual 73, 3) := by decide +kernel
theorem dX7_copyFrom_100 : decode cX7_copyFrom 100 = .ok (.aload_n 0, 1) := by decide +kernel
theorem dX7_copyFrom_101 : decode cX7_copyFrom 101 = .ok (.getfield 51, 3) := by decide +kernel
theorem dX7_copyFrom_104 : decode cX7_copyFrom 104 = .ok (.aload_n 1, 1) := by decide +kernel
theorem dX7_copyFrom_105 : decode cX7_copyFrom 105 = .ok (.getfield 51, 3) := by decide +kernel
theorem dX7_copyFrom_108 : decode cX7_copyFrom 108 = .ok (.getfield 67, 3) := by decide +kernel
theorem dX7_copyFrom_111 : decode cX7_copyFrom 111 = .ok (.aload_n 1, 1) := by decide +kernel
theorem dX7_copyFrom_112 : decode cX7_copyFrom 112 = .ok (.getfield 51, 3) := by decide +kernel
theorem dX7_copyFrom_115 : decode cX7_copyFrom 115 = .ok (.getfield 70, 3) := by decide +kernel
theorem dX7_copyFrom_118 : decode cX7_copyFrom 118 = .ok (.invokevirtual 73, 3) := by decide +kernel
theorem dX7_copyFrom_121 : decode cX7_copyFrom 121 = .ok (.aload_n 1, 1) := by decide +kernel
theorem dX7_copyFrom_122 : decode cX7_copyFrom 122 = .ok (.getfield 31, 3) := by decide +kernel
theorem dX7_copyFrom_125 : decode cX7_copyFrom 125 = .ok (.iconst 0, 1) := by decide +kernel
theorem dX7_copyFrom_126 : decode cX7_copyFrom 126 = .ok (.aload_n 0, 1) := by decide +kernel
theorem dX7_copyFrom_127 : decode cX7_copyFrom 127 = .ok (.getfield 31, 3) := by decide +kernel
theorem dX7_copyFrom_130 : decode cX7_copyFrom 130 = .ok (.iconst 0, 1) := by decide +kernel
theorem dX7_copyFrom_131 : decode cX7_copyFrom 131 = .ok (.bipush 60, 2) := by decide +kernel
theorem dX7_copyFrom_133 : decode cX7_copyFrom 133 = .ok (.invokestatic 58, 3) := by decide +kernel
theorem dX7_copyFrom_136 : decode cX7_copyFrom 136 = .ok (.aload_n 0, 1) := by decide +kernel
theorem dX7_copyFrom_137 : decode cX7_copyFrom 137 = .ok (.aload_n 1, 1) := by decide +kernel
theorem dX7_copyFrom_138 : decode cX7_copyFrom 138 = .ok (.getfield 77, 3) := by decide +kernel
theorem dX7_copyFrom_141 : decode cX7_copyFrom 141 = .ok (.putfield 77, 3) := by decide +kernel
theorem dX7_copyFrom_144 : decode cX7_copyFrom 144 = .ok (.aload_n 1, 1) := by decide +kernel
theorem dX7_copyFrom_145 : decode cX7_copyFrom 145 = .ok (.getfield 35, 3) := by decide +kernel
theorem dX7_copyFrom_148 : decode cX7_copyFrom 148 = .ok (.iconst 0, 1) := by decide +kernel
theorem dX7_copyFrom_149 : decode cX7_copyFrom 149 = .ok (.aload_n 0, 1) := by decide +kernel
theorem dX7_copyFrom_150 : decode cX7_copyFrom 150 = .ok (.getfield 35, 3) := by decide +kernel
theorem dX7_copyFrom_153 : decode cX7_copyFrom 153 = .ok (.iconst 0, 1) := by decide +kernel
theorem dX7_copyFrom_154 : decode cX7_copyFrom 154 = .ok (.bipush 24, 2) := by decide +kernel
theorem dX7_copyFrom_156 : decode cX7_copyFrom 156 = .ok (.invokestatic 58, 3) := by decide +kernel
theorem dX7_copyFrom_159 : decode cX7_copyFrom 159 = .ok (.aload_n 0, 1) := by decide +kernel
theorem dX7_copyFrom_160 : decode cX7_copyFrom 160 = .ok (.aload_n 1, 1) := by decide +kernel
theorem dX7_copyFrom_161 : decode cX7_copyFrom 161 = .ok (.getfield 80, 3) := by decide +kernel
theorem dX7_copyFrom_164 : decode cX7_copyFrom 164 = .ok (.putfield 80, 3) := by decide +kernel
theorem dX7_copyFrom_167 : decode cX7_copyFrom 167 = .ok (.aload_n 0, 1) := by decide +kernel
theorem dX7_copyFrom_168 : decode cX7_copyFrom 168 = .ok (.aload_n 1, 1) := by decide +kernel
theorem dX7_copyFrom_169 : decode cX7_copyFrom 169 = .ok (.getfield 38, 3) := by decide +kernel
theorem dX7_copyFrom_172 : decode cX7_copyFrom 172 = .ok (.putfield 38, 3) := by decide +kernel
theorem dX7_copyFrom_175 : decode cX7_copyFrom 175 = .ok (.return_, 1) := by decide +kernel
theorem dX7_lawOf_0 : decode cX7_lawOf 0 = .ok (.iload_n 1, 1) := by decide +kernel
theorem dX7_lawOf_1 : decode cX7_lawOf 1 = .ok (.ifCond .ne 10, 3) := by decide +kernel
theorem dX7_lawOf_4 : decode cX7_lawOf 4 = .ok (.aload_n 0, 1) := by decide +kernel
theorem dX7_lawOf_5 : decode cX7_lawOf 5 = .ok (.getfield 47, 3) := by decide +kernel
theorem dX7_lawOf_8 : decode cX7_lawOf 8 = .ok (.goto 7, 3) := by decide +kernel
theorem dX7_lawOf_11 : decode cX7_lawOf 11 = .ok (.aload_n 0, 1) := by decide +kernel
theorem dX7_lawOf_12 : decode cX7_lawOf 12 = .ok (.getfield 51, 3) := by decide +kernel
theorem dX7_lawOf_15 : decode cX7_lawOf 15 = .ok (.areturn, 1) := by decide +kernel
set_option maxRecDepth 20000 in
theorem ggX7_eventIn_J9_floorMod_7cf53 : GoodIn wsX7_eventIn wsJ9_floorMod_7cf53 := goodIn_r _ [5] (by decide +kernel) (by decide +kernel)
set_option maxRecDepth 20000 in
theorem gX7_eventIn_J9_floorMod_7cf53 : GoodIn wsX7_eventIn (va_wsS RX7 83 yJ9_floorMod_7cf53 wsJ9_floorMod_7cf53) := goodIn_app (goodIn_of _ (by decide +kernel)) ggX7_eventIn_J9_floorMod_7cf53
theorem dX7_eventIn_0 : decode cX7_eventIn 0 = .ok (.aload_n 0, 1) := by decide +kernel
theorem dX7_eventIn_1 : decode cX7_eventIn 1 = .ok (.getfield 18, 3) := by decide +kernel
theorem dX7_eventIn_4 : decode cX7_eventIn 4 = .ok (.iload_n 1, 1) := by decide +kernel
theorem dX7_eventIn_5 : decode cX7_eventIn 5 = .ok (.bipush 6, 2) := by decide +kernel
theorem dX7_eventIn_7 : decode cX7_eventIn 7 = .ok (.invokestatic 83, 3) := by decide +kernel
theorem dX7_eventIn_10 : decode cX7_eventIn 10 = .ok (.iaload, 1) := by decide +kernel
theorem dX7_eventIn_11 : decode cX7_eventIn 11 = .ok (.ireturn, 1) := by decide +kernel
theorem dX7_draw_0 : decode cX7_draw 0 = .ok (.aload_n 0, 1) := by decide +kernel
theorem dX7_draw_1 : decode cX7_draw 1 = .ok (.aload_n 0, 1) := by decide +kernel
theorem dX7_draw_2 : decode cX7_draw 2 = .ok (.getfield 38, 3) := by decide +kernel
theorem dX7_draw_5 : decode cX7_draw 5 = .ok (.ldc 89, 2) := by decide +kernel
theorem dX7_draw_7 : decode cX7_draw 7 = .ok (.imul, 1) := by decide +kernel
theorem dX7_draw_8 : decode cX7_draw 8 = .ok (.sipush 12345, 3) := by decide +kernel
theorem dX7_draw_11 : decode cX7_draw 11 = .ok (.iadd, 1) := by decide +kernel
theorem dX7_draw_12 : decode cX7_draw 12 = .ok (.putfield 38, 3) := by decide +kernel
theorem dX7_draw_15 : decode cX7_draw 15 = .ok (.aload_n 0, 1) := by decide +kernel
theorem dX7_draw_16 : decode cX7_draw 16 = .ok (.getfield 38, 3) := by decide +kernel
theorem dX7_draw_19 : decode cX7_draw 19 = .ok (.bipush 8, 2) := by decide +kernel
theorem dX7_draw_21 : decode cX7_draw 21 = .ok (.iushr, 1) := by decide +kernel
theorem dX7_draw_22 : decode cX7_draw 22 = .ok (.ireturn, 1) := by decide +kernel
theorem dX7_allMarks_0 : decode cX7_allMarks 0 = .ok (.iconst 0, 1) := by decide +kernel
theorem dX7_allMarks_1 : decode cX7_allMarks 1 = .ok (.istore_n 1, 1) := by decide +kernel
theorem dX7_allMarks_2 : decode cX7_allMarks 2 = .ok (.iconst 0, 1) := by decide +kernel
theorem dX7_allMarks_3 : decode cX7_allMarks 3 = .ok (.istore_n 2, 1) := by decide +kernel
theorem dX7_allMarks_4 : decode cX7_allMarks 4 = .ok (.iload_n 2, 1) := by decide +kernel
theorem dX7_allMarks_5 : decode cX7_allMarks 5 = .ok (.aload_n 0, 1) := by decide +kernel
theorem dX7_allMarks_6 : decode cX7_allMarks 6 = .ok (.getfield 64, 3) := by decide +kernel
theorem dX7_allMarks_9 : decode cX7_allMarks 9 = .ok (.if_icmp .ge 18, 3) := by decide +kernel
theorem dX7_allMarks_12 : decode cX7_allMarks 12 = .ok (.iload_n 1, 1) := by decide +kernel
theorem dX7_allMarks_13 : decode cX7_allMarks 13 = .ok (.aload_n 0, 1) := by decide +kernel
theorem dX7_allMarks_14 : decode cX7_allMarks 14 = .ok (.getfield 28, 3) := by decide +kernel
theorem dX7_allMarks_17 : decode cX7_allMarks 17 = .ok (.iload_n 2, 1) := by decide +kernel
theorem dX7_allMarks_18 : decode cX7_allMarks 18 = .ok (.iaload, 1) := by decide +kernel
theorem dX7_allMarks_19 : decode cX7_allMarks 19 = .ok (.iadd, 1) := by decide +kernel
theorem dX7_allMarks_20 : decode cX7_allMarks 20 = .ok (.istore_n 1, 1) := by decide +kernel
theorem dX7_allMarks_21 : decode cX7_allMarks 21 = .ok (.iinc 2 1, 3) := by decide +kernel
theorem dX7_allMarks_24 : decode cX7_allMarks 24 = .ok (.goto (-20), 3) := by decide +kernel
theorem dX7_allMarks_27 : decode cX7_allMarks 27 = .ok (.iload_n 1, 1) := by decide +kernel
theorem dX7_allMarks_28 : decode cX7_allMarks 28 = .ok (.ireturn, 1) := by decide +kernel
set_option maxRecDepth 20000 in
theorem ggX7_turnOf_X2_signsOf : GoodIn wsX7_turnOf wsX2_signsOf := goodIn_r _ [7, 8, 9, 10, 11, 12, 13, 14] (by decide +kernel) (by decide +kernel)
set_option maxRecDepth 20000 in
theorem gX7_turnOf_X2_signsOf : GoodIn wsX7_turnOf (va_wsS RX7 93 yX2_signsOf wsX2_signsOf) := goodIn_app (goodIn_of _ (by decide +kernel)) ggX7_turnOf_X2_signsOf
set_option maxRecDepth 20000 in
theorem ggX7_turnOf_X1_gives : GoodIn wsX7_turnOf wsX1_gives := goodIn_r _ [19, 20, 21, 22, 23, 18, 24, 25, 26, 27, 28, 29, 30, 31, 32, 33, 34, 35, 36, 37, 38, 39, 40, 41, 42, 43, 44, 62, 63, 64, 65, 66, 67, 68] (by decide +kernel) (by decide +kernel)
set_option maxRecDepth 20000 in
theorem gX7_turnOf_X1_gives : GoodIn wsX7_turnOf (wsV RX7 100 RX1 yX1_gives wsX1_gives) := goodIn_app (goodIn_of _ (by decide +kernel)) ggX7_turnOf_X1_gives
theorem dX7_turnOf_0 : decode cX7_turnOf 0 = .ok (.aload_n 0, 1) := by decide +kernel
theorem dX7_turnOf_1 : decode cX7_turnOf 1 = .ok (.getfield 47, 3) := by decide +kernel
theorem dX7_turnOf_4 : decode cX7_turnOf 4 = .ok (.iload_n 2, 1) := by decide +kernel
theorem dX7_turnOf_5 : decode cX7_turnOf 5 = .ok (.aload_n 1, 1) := by decide +kernel
theorem dX7_turnOf_6 : decode cX7_turnOf 6 = .ok (.getfield 90, 3) := by decide +kernel
theorem dX7_turnOf_9 : decode cX7_turnOf 9 = .ok (.iload_n 3, 1) := by decide +kernel
theorem dX7_turnOf_10 : decode cX7_turnOf 10 = .ok (.invokestatic 93, 3) := by decide +kernel
theorem dX7_turnOf_13 : decode cX7_turnOf 13 = .ok (.iload_n 3, 1) := by decide +kernel
theorem dX7_turnOf_14 : decode cX7_turnOf 14 = .ok (.bipush 16, 2) := by decide +kernel
theorem dX7_turnOf_16 : decode cX7_turnOf 16 = .ok (.irem, 1) := by decide +kernel
theorem dX7_turnOf_17 : decode cX7_turnOf 17 = .ok (.aload_n 1, 1) := by decide +kernel
theorem dX7_turnOf_18 : decode cX7_turnOf 18 = .ok (.getfield 97, 3) := by decide +kernel
theorem dX7_turnOf_21 : decode cX7_turnOf 21 = .ok (.bipush 8, 2) := by decide +kernel
theorem dX7_turnOf_23 : decode cX7_turnOf 23 = .ok (.irem, 1) := by decide +kernel
theorem dX7_turnOf_24 : decode cX7_turnOf 24 = .ok (.invokevirtual 100, 3) := by decide +kernel
theorem dX7_turnOf_27 : decode cX7_turnOf 27 = .ok (.ireturn, 1) := by decide +kernel
set_option maxRecDepth 20000 in
theorem ggX7_stir_X7_turnOf : GoodIn wsX7_stir wsX7_turnOf := goodIn_r _ [7, 8, 9, 10, 11, 12, 13, 14, 15, 16, 17, 18, 19, 20, 21, 22, 23, 24, 25, 26, 27, 28, 29, 30, 31, 32, 33, 34, 35, 36, 37, 38, 39, 40, 41, 42, 43, 44, 45, 46, 47, 48, 49, 50, 51, 56, 57, 58, 59, 60, 61, 62, 63, 64, 65, 66, 67, 68, 52, 53, 54, 55, 69, 70, 71, 72, 73, 74, 75] (by decide +kernel) (by decide +kernel)
set_option maxRecDepth 20000 in
theorem gX7_stir_X7_turnOf : GoodIn wsX7_stir (wsV RX7 106 RX7 yX7_turnOf wsX7_turnOf) := goodIn_app (goodIn_of _ (by decide +kernel)) ggX7_stir_X7_turnOf
theorem dX7_stir_0 : decode cX7_stir 0 = .ok (.iconst 0, 1) := by decide +kernel
theorem dX7_stir_1 : decode cX7_stir 1 = .ok (.istore_n 3, 1) := by decide +kernel
theorem dX7_stir_2 : decode cX7_stir 2 = .ok (.iload_n 3, 1) := by decide +kernel
theorem dX7_stir_3 : decode cX7_stir 3 = .ok (.iconst 2, 1) := by decide +kernel
theorem dX7_stir_4 : decode cX7_stir 4 = .ok (.if_icmp .ge 45, 3) := by decide +kernel
theorem dX7_stir_7 : decode cX7_stir 7 = .ok (.aload_n 1, 1) := by decide +kernel
theorem dX7_stir_8 : decode cX7_stir 8 = .ok (.getfield 103, 3) := by decide +kernel
theorem dX7_stir_11 : decode cX7_stir 11 = .ok (.iload_n 3, 1) := by decide +kernel
theorem dX7_stir_12 : decode cX7_stir 12 = .ok (.aload_n 0, 1) := by decide +kernel
theorem dX7_stir_13 : decode cX7_stir 13 = .ok (.aload_n 1, 1) := by decide +kernel
theorem dX7_stir_14 : decode cX7_stir 14 = .ok (.iload_n 3, 1) := by decide +kernel
theorem dX7_stir_15 : decode cX7_stir 15 = .ok (.iload_n 2, 1) := by decide +kernel
theorem dX7_stir_16 : decode cX7_stir 16 = .ok (.invokevirtual 106, 3) := by decide +kernel
theorem dX7_stir_19 : decode cX7_stir 19 = .ok (.iastore, 1) := by decide +kernel
theorem dX7_stir_20 : decode cX7_stir 20 = .ok (.aload_n 1, 1) := by decide +kernel
theorem dX7_stir_21 : decode cX7_stir 21 = .ok (.getfield 110, 3) := by decide +kernel
theorem dX7_stir_24 : decode cX7_stir 24 = .ok (.iload_n 3, 1) := by decide +kernel
theorem dX7_stir_25 : decode cX7_stir 25 = .ok (.aload_n 1, 1) := by decide +kernel
theorem dX7_stir_26 : decode cX7_stir 26 = .ok (.getfield 110, 3) := by decide +kernel
theorem dX7_stir_29 : decode cX7_stir 29 = .ok (.iload_n 3, 1) := by decide +kernel
theorem dX7_stir_30 : decode cX7_stir 30 = .ok (.iaload, 1) := by decide +kernel
theorem dX7_stir_31 : decode cX7_stir 31 = .ok (.aload_n 1, 1) := by decide +kernel
theorem dX7_stir_32 : decode cX7_stir 32 = .ok (.getfield 103, 3) := by decide +kernel
theorem dX7_stir_35 : decode cX7_stir 35 = .ok (.iload_n 3, 1) := by decide +kernel
theorem dX7_stir_36 : decode cX7_stir 36 = .ok (.iaload, 1) := by decide +kernel
theorem dX7_stir_37 : decode cX7_stir 37 = .ok (.iadd, 1) := by decide +kernel
theorem dX7_stir_38 : decode cX7_stir 38 = .ok (.sipush 360, 3) := by decide +kernel
theorem dX7_stir_41 : decode cX7_stir 41 = .ok (.irem, 1) := by decide +kernel
theorem dX7_stir_42 : decode cX7_stir 42 = .ok (.iastore, 1) := by decide +kernel
theorem dX7_stir_43 : decode cX7_stir 43 = .ok (.iinc 3 1, 3) := by decide +kernel
theorem dX7_stir_46 : decode cX7_stir 46 = .ok (.goto (-44), 3) := by decide +kernel
theorem dX7_stir_49 : decode cX7_stir 49 = .ok (.return_, 1) := by decide +kernel
set_option maxRecDepth 20000 in
theorem ggX7_grown_X0_looksAt : GoodIn wsX7_grown wsX0_looksAt := goodIn_r _ [15, 16, 17, 61, 62, 63, 64] (by decide +kernel) (by decide +kernel)
set_option maxRecDepth 20000 in
theorem gX7_grown_X0_looksAt : GoodIn wsX7_grown (va_wsS RX7 113 yX0_looksAt wsX0_looksAt) := goodIn_app (goodIn_of _ (by decide +kernel)) ggX7_grown_X0_looksAt
set_option maxRecDepth 20000 in
theorem ggX7_grown_X0_readsOf : GoodIn wsX7_grown wsX0_readsOf := goodIn_r _ [20] (by decide +kernel) (by decide +kernel)
set_option maxRecDepth 20000 in
theorem gX7_grown_X0_readsOf : GoodIn wsX7_grown (va_wsS RX7 119 yX0_readsOf wsX0_readsOf) := goodIn_app (goodIn_of _ (by decide +kernel)) ggX7_grown_X0_readsOf
set_option maxRecDepth 20000 in
theorem ggX7_grown_X1_gives : GoodIn wsX7_grown wsX1_gives := goodIn_r _ [25, 26, 27, 28, 29, 24, 30, 31, 32, 33, 34, 35, 36, 37, 38, 39, 40, 41, 9, 10, 11, 42, 43, 44, 45, 46, 47, 65, 66, 67, 68, 69, 70, 71] (by decide +kernel) (by decide +kernel)
set_option maxRecDepth 20000 in
theorem gX7_grown_X1_gives : GoodIn wsX7_grown (wsV RX7 100 RX1 yX1_gives wsX1_gives) := goodIn_app (goodIn_of _ (by decide +kernel)) ggX7_grown_X1_gives
theorem dX7_grown_0 : decode cX7_grown 0 = .ok (.aload_n 0, 1) := by decide +kernel
theorem dX7_grown_1 : decode cX7_grown 1 = .ok (.getfield 22, 3) := by decide +kernel
theorem dX7_grown_4 : decode cX7_grown 4 = .ok (.iload_n 1, 1) := by decide +kernel
theorem dX7_grown_5 : decode cX7_grown 5 = .ok (.iaload, 1) := by decide +kernel
theorem dX7_grown_6 : decode cX7_grown 6 = .ok (.aload_n 0, 1) := by decide +kernel
theorem dX7_grown_7 : decode cX7_grown 7 = .ok (.getfield 25, 3) := by decide +kernel
theorem dX7_grown_10 : decode cX7_grown 10 = .ok (.iload_n 1, 1) := by decide +kernel
theorem dX7_grown_11 : decode cX7_grown 11 = .ok (.iaload, 1) := by decide +kernel
theorem dX7_grown_12 : decode cX7_grown 12 = .ok (.aload_n 3, 1) := by decide +kernel
theorem dX7_grown_13 : decode cX7_grown 13 = .ok (.invokestatic 113, 3) := by decide +kernel
theorem dX7_grown_16 : decode cX7_grown 16 = .ok (.istore 4, 2) := by decide +kernel
theorem dX7_grown_18 : decode cX7_grown 18 = .ok (.aload_n 3, 1) := by decide +kernel
theorem dX7_grown_19 : decode cX7_grown 19 = .ok (.getfield 110, 3) := by decide +kernel
theorem dX7_grown_22 : decode cX7_grown 22 = .ok (.iload 4, 2) := by decide +kernel
theorem dX7_grown_24 : decode cX7_grown 24 = .ok (.iaload, 1) := by decide +kernel
theorem dX7_grown_25 : decode cX7_grown 25 = .ok (.istore 5, 2) := by decide +kernel
theorem dX7_grown_27 : decode cX7_grown 27 = .ok (.aload_n 0, 1) := by decide +kernel
theorem dX7_grown_28 : decode cX7_grown 28 = .ok (.getfield 22, 3) := by decide +kernel
theorem dX7_grown_31 : decode cX7_grown 31 = .ok (.iload_n 1, 1) := by decide +kernel
theorem dX7_grown_32 : decode cX7_grown 32 = .ok (.iaload, 1) := by decide +kernel
theorem dX7_grown_33 : decode cX7_grown 33 = .ok (.aload_n 0, 1) := by decide +kernel
theorem dX7_grown_34 : decode cX7_grown 34 = .ok (.getfield 25, 3) := by decide +kernel
theorem dX7_grown_37 : decode cX7_grown 37 = .ok (.iload_n 1, 1) := by decide +kernel
theorem dX7_grown_38 : decode cX7_grown 38 = .ok (.iaload, 1) := by decide +kernel
theorem dX7_grown_39 : decode cX7_grown 39 = .ok (.aload_n 3, 1) := by decide +kernel
theorem dX7_grown_40 : decode cX7_grown 40 = .ok (.getfield 103, 3) := by decide +kernel
theorem dX7_grown_43 : decode cX7_grown 43 = .ok (.iload 4, 2) := by decide +kernel
theorem dX7_grown_45 : decode cX7_grown 45 = .ok (.iaload, 1) := by decide +kernel
theorem dX7_grown_46 : decode cX7_grown 46 = .ok (.iload 5, 2) := by decide +kernel
theorem dX7_grown_48 : decode cX7_grown 48 = .ok (.aload_n 0, 1) := by decide +kernel
theorem dX7_grown_49 : decode cX7_grown 49 = .ok (.getfield 64, 3) := by decide +kernel
theorem dX7_grown_52 : decode cX7_grown 52 = .ok (.invokestatic 119, 3) := by decide +kernel
theorem dX7_grown_55 : decode cX7_grown 55 = .ok (.istore 6, 2) := by decide +kernel
theorem dX7_grown_57 : decode cX7_grown 57 = .ok (.sipush 9999, 3) := by decide +kernel
theorem dX7_grown_60 : decode cX7_grown 60 = .ok (.iload_n 2, 1) := by decide +kernel
theorem dX7_grown_61 : decode cX7_grown 61 = .ok (.aload_n 0, 1) := by decide +kernel
theorem dX7_grown_62 : decode cX7_grown 62 = .ok (.getfield 51, 3) := by decide +kernel
theorem dX7_grown_65 : decode cX7_grown 65 = .ok (.iload 6, 2) := by decide +kernel
theorem dX7_grown_67 : decode cX7_grown 67 = .ok (.iload 5, 2) := by decide +kernel
theorem dX7_grown_69 : decode cX7_grown 69 = .ok (.bipush 10, 2) := by decide +kernel
theorem dX7_grown_71 : decode cX7_grown 71 = .ok (.irem, 1) := by decide +kernel
theorem dX7_grown_72 : decode cX7_grown 72 = .ok (.aload_n 3, 1) := by decide +kernel
theorem dX7_grown_73 : decode cX7_grown 73 = .ok (.getfield 97, 3) := by decide +kernel
theorem dX7_grown_76 : decode cX7_grown 76 = .ok (.bipush 8, 2) := by decide +kernel
theorem dX7_grown_78 : decode cX7_grown 78 = .ok (.irem, 1) := by decide +kernel
theorem dX7_grown_79 : decode cX7_grown 79 = .ok (.invokevirtual 100, 3) := by decide +kernel
theorem dX7_grown_82 : decode cX7_grown 82 = .ok (.iadd, 1) := by decide +kernel
theorem dX7_grown_83 : decode cX7_grown 83 = .ok (.invokestatic 123, 3) := by decide +kernel
theorem dX7_grown_86 : decode cX7_grown 86 = .ok (.ireturn, 1) := by decide +kernel
set_option maxRecDepth 20000 in
theorem ggX7_pass_X7_stir : GoodIn wsX7_pass wsX7_stir := goodIn_r _ [9, 10, 11, 12, 13, 14, 8, 15, 16, 17, 4, 18, 19, 20, 21, 22, 23, 24, 25, 26, 27, 28, 29, 30, 31, 32, 33, 34, 35, 36, 37, 38, 39, 40, 41, 42, 43, 44, 45, 46, 47, 48, 49, 50, 51, 52, 53, 54, 55, 56, 57, 58, 89, 90, 91, 92, 76, 77, 78, 79, 80, 81, 82, 83, 84, 85, 86, 87, 88, 93, 94, 95, 96, 97, 98, 99] (by decide +kernel) (by decide +kernel)
set_option maxRecDepth 20000 in
theorem gX7_pass_X7_stir : GoodIn wsX7_pass (wsV RX7 126 RX7 yX7_stir wsX7_stir) := goodIn_app (goodIn_of _ (by decide +kernel)) ggX7_pass_X7_stir
set_option maxRecDepth 20000 in
theorem ggX7_pass_X7_grown : GoodIn wsX7_pass wsX7_grown := goodIn_r _ [62, 63, 64, 11, 10, 2, 65, 4, 66, 50, 51, 52, 67, 68, 69, 70, 71, 72, 73, 74, 75, 29, 30, 31, 32, 33, 34, 35, 36, 37, 38, 39, 40, 41, 42, 43, 44, 45, 46, 47, 48, 49, 53, 54, 55, 56, 57, 58, 76, 77, 78, 79, 80, 81, 82, 83, 84, 85, 86, 87, 88, 89, 90, 91, 92, 93, 94, 95, 96, 97, 98, 99] (by decide +kernel) (by decide +kernel)
set_option maxRecDepth 20000 in
theorem gX7_pass_X7_grown : GoodIn wsX7_pass (wsV RX7 130 RX7 yX7_grown wsX7_grown) := goodIn_app (goodIn_of _ (by decide +kernel)) ggX7_pass_X7_grown
theorem dX7_pass_0 : decode cX7_pass 0 = .ok (.aload_n 0, 1) := by decide +kernel
theorem dX7_pass_1 : decode cX7_pass 1 = .ok (.aload_n 0, 1) := by decide +kernel
theorem dX7_pass_2 : decode cX7_pass 2 = .ok (.getfield 12, 3) := by decide +kernel
theorem dX7_pass_5 : decode cX7_pass 5 = .ok (.iload_n 1, 1) := by decide +kernel
theorem dX7_pass_6 : decode cX7_pass 6 = .ok (.invokevirtual 126, 3) := by decide +kernel
theorem dX7_pass_9 : decode cX7_pass 9 = .ok (.iconst 0, 1) := by decide +kernel
theorem dX7_pass_10 : decode cX7_pass 10 = .ok (.istore_n 2, 1) := by decide +kernel
theorem dX7_pass_11 : decode cX7_pass 11 = .ok (.iload_n 2, 1) := by decide +kernel
theorem dX7_pass_12 : decode cX7_pass 12 = .ok (.aload_n 0, 1) := by decide +kernel
theorem dX7_pass_13 : decode cX7_pass 13 = .ok (.getfield 64, 3) := by decide +kernel
theorem dX7_pass_16 : decode cX7_pass 16 = .ok (.if_icmp .ge 30, 3) := by decide +kernel
theorem dX7_pass_19 : decode cX7_pass 19 = .ok (.aload_n 0, 1) := by decide +kernel
theorem dX7_pass_20 : decode cX7_pass 20 = .ok (.getfield 28, 3) := by decide +kernel
theorem dX7_pass_23 : decode cX7_pass 23 = .ok (.iload_n 2, 1) := by decide +kernel
theorem dX7_pass_24 : decode cX7_pass 24 = .ok (.aload_n 0, 1) := by decide +kernel
theorem dX7_pass_25 : decode cX7_pass 25 = .ok (.iload_n 2, 1) := by decide +kernel
theorem dX7_pass_26 : decode cX7_pass 26 = .ok (.aload_n 0, 1) := by decide +kernel
theorem dX7_pass_27 : decode cX7_pass 27 = .ok (.getfield 28, 3) := by decide +kernel
theorem dX7_pass_30 : decode cX7_pass 30 = .ok (.iload_n 2, 1) := by decide +kernel
theorem dX7_pass_31 : decode cX7_pass 31 = .ok (.iaload, 1) := by decide +kernel
theorem dX7_pass_32 : decode cX7_pass 32 = .ok (.aload_n 0, 1) := by decide +kernel
theorem dX7_pass_33 : decode cX7_pass 33 = .ok (.getfield 12, 3) := by decide +kernel
theorem dX7_pass_36 : decode cX7_pass 36 = .ok (.invokevirtual 130, 3) := by decide +kernel
theorem dX7_pass_39 : decode cX7_pass 39 = .ok (.iastore, 1) := by decide +kernel
theorem dX7_pass_40 : decode cX7_pass 40 = .ok (.iinc 2 1, 3) := by decide +kernel
theorem dX7_pass_43 : decode cX7_pass 43 = .ok (.goto (-32), 3) := by decide +kernel
theorem dX7_pass_46 : decode cX7_pass 46 = .ok (.aload_n 0, 1) := by decide +kernel
theorem dX7_pass_47 : decode cX7_pass 47 = .ok (.getfield 12, 3) := by decide +kernel
theorem dX7_pass_50 : decode cX7_pass 50 = .ok (.dup, 1) := by decide +kernel
theorem dX7_pass_51 : decode cX7_pass 51 = .ok (.getfield 97, 3) := by decide +kernel
theorem dX7_pass_54 : decode cX7_pass 54 = .ok (.iconst 1, 1) := by decide +kernel
theorem dX7_pass_55 : decode cX7_pass 55 = .ok (.iadd, 1) := by decide +kernel
theorem dX7_pass_56 : decode cX7_pass 56 = .ok (.putfield 97, 3) := by decide +kernel
theorem dX7_pass_59 : decode cX7_pass 59 = .ok (.return_, 1) := by decide +kernel
set_option maxRecDepth 20000 in
theorem ggX8_init_X7_init : GoodIn wsX8_init wsX7_init := goodIn_r _ [29, 30, 2, 3, 31, 32, 33, 34, 23, 35, 36, 37, 38, 39, 40, 41, 42, 43, 44, 45, 46, 47, 48, 49, 50, 51, 52, 53, 54, 55, 56, 57, 58, 59, 60, 61, 62, 63, 64, 65, 66, 132, 133, 134, 135, 89, 90, 91, 92, 93, 94, 95, 96, 97, 98, 99, 100, 101, 136, 137, 138, 139, 140, 141, 142] (by decide +kernel) (by decide +kernel)
set_option maxRecDepth 20000 in
theorem gX8_init_X7_init : GoodIn wsX8_init (wsX7_init) := ggX8_init_X7_init
set_option maxRecDepth 20000 in
theorem ggX8_init_X5_init : GoodIn wsX8_init wsX5_init := goodIn_r _ [68, 69, 2, 3, 70, 32, 33, 71, 23, 72, 73, 74, 48, 49, 50, 51, 52, 132, 133, 134, 135, 110, 111, 112, 113, 114, 115, 116] (by decide +kernel) (by decide +kernel)
set_option maxRecDepth 20000 in
theorem gX8_init_X5_init_n23 : GoodIn wsX8_init (wsX5_init) := ggX8_init_X5_init
set_option maxRecDepth 20000 in
theorem ggX8_init_X4_init : GoodIn wsX8_init wsX4_init := goodIn_r _ [76, 77, 2, 3, 39, 78, 79, 23, 80, 117, 118, 119, 120, 121, 122] (by decide +kernel) (by decide +kernel)
set_option maxRecDepth 20000 in
theorem gX8_init_X4_init_n30 : GoodIn wsX8_init (wsX4_init) := ggX8_init_X4_init
set_option maxRecDepth 20000 in
theorem ggX8_init_X6_init : GoodIn wsX8_init wsX6_init := goodIn_r _ [82, 83, 2, 3, 23, 84, 123, 124, 125, 126, 127, 128] (by decide +kernel) (by decide +kernel)
set_option maxRecDepth 20000 in
theorem gX8_init_X6_init_n37 : GoodIn wsX8_init (wsX6_init) := ggX8_init_X6_init
set_option maxRecDepth 20000 in
theorem ggX8_init_X3_init : GoodIn wsX8_init wsX3_init := goodIn_r _ [86, 87, 2, 3, 23, 88, 129, 130, 131] (by decide +kernel) (by decide +kernel)
set_option maxRecDepth 20000 in
theorem gX8_init_X3_init_n52 : GoodIn wsX8_init (wsX3_init) := ggX8_init_X3_init
theorem dX8_init_0 : decode cX8_init 0 = .ok (.aload_n 0, 1) := by decide +kernel
theorem dX8_init_1 : decode cX8_init 1 = .ok (.invokespecial 1, 3) := by decide +kernel
theorem dX8_init_4 : decode cX8_init 4 = .ok (.aload_n 0, 1) := by decide +kernel
theorem dX8_init_5 : decode cX8_init 5 = .ok (.new 7, 3) := by decide +kernel
theorem dX8_init_8 : decode cX8_init 8 = .ok (.dup, 1) := by decide +kernel
theorem dX8_init_9 : decode cX8_init 9 = .ok (.iconst 1, 1) := by decide +kernel
theorem dX8_init_10 : decode cX8_init 10 = .ok (.invokespecial 9, 3) := by decide +kernel
theorem dX8_init_13 : decode cX8_init 13 = .ok (.putfield 12, 3) := by decide +kernel
theorem dX8_init_16 : decode cX8_init 16 = .ok (.aload_n 0, 1) := by decide +kernel
theorem dX8_init_17 : decode cX8_init 17 = .ok (.new 7, 3) := by decide +kernel
theorem dX8_init_20 : decode cX8_init 20 = .ok (.dup, 1) := by decide +kernel
theorem dX8_init_21 : decode cX8_init 21 = .ok (.iconst 0, 1) := by decide +kernel
theorem dX8_init_22 : decode cX8_init 22 = .ok (.invokespecial 9, 3) := by decide +kernel
theorem dX8_init_25 : decode cX8_init 25 = .ok (.putfield 18, 3) := by decide +kernel
theorem dX8_init_28 : decode cX8_init 28 = .ok (.aload_n 0, 1) := by decide +kernel
theorem dX8_init_29 : decode cX8_init 29 = .ok (.new 21, 3) := by decide +kernel
theorem dX8_init_32 : decode cX8_init 32 = .ok (.dup, 1) := by decide +kernel
theorem dX8_init_33 : decode cX8_init 33 = .ok (.invokespecial 23, 3) := by decide +kernel
theorem dX8_init_36 : decode cX8_init 36 = .ok (.putfield 24, 3) := by decide +kernel
theorem dX8_init_39 : decode cX8_init 39 = .ok (.aload_n 0, 1) := by decide +kernel
theorem dX8_init_40 : decode cX8_init 40 = .ok (.new 28, 3) := by decide +kernel
theorem dX8_init_43 : decode cX8_init 43 = .ok (.dup, 1) := by decide +kernel
theorem dX8_init_44 : decode cX8_init 44 = .ok (.invokespecial 30, 3) := by decide +kernel
theorem dX8_init_47 : decode cX8_init 47 = .ok (.putfield 31, 3) := by decide +kernel
theorem dX8_init_50 : decode cX8_init 50 = .ok (.aload_n 0, 1) := by decide +kernel
theorem dX8_init_51 : decode cX8_init 51 = .ok (.new 35, 3) := by decide +kernel
theorem dX8_init_54 : decode cX8_init 54 = .ok (.dup, 1) := by decide +kernel
theorem dX8_init_55 : decode cX8_init 55 = .ok (.invokespecial 37, 3) := by decide +kernel
theorem dX8_init_58 : decode cX8_init 58 = .ok (.putfield 38, 3) := by decide +kernel
theorem dX8_init_61 : decode cX8_init 61 = .ok (.aload_n 0, 1) := by decide +kernel
theorem dX8_init_62 : decode cX8_init 62 = .ok (.iconst 4, 1) := by decide +kernel
theorem dX8_init_63 : decode cX8_init 63 = .ok (.anewarray 42, 3) := by decide +kernel
theorem dX8_init_66 : decode cX8_init 66 = .ok (.putfield 44, 3) := by decide +kernel
theorem dX8_init_69 : decode cX8_init 69 = .ok (.aload_n 0, 1) := by decide +kernel
theorem dX8_init_70 : decode cX8_init 70 = .ok (.bipush 7, 2) := by decide +kernel
theorem dX8_init_72 : decode cX8_init 72 = .ok (.newarray .int, 2) := by decide +kernel
theorem dX8_init_74 : decode cX8_init 74 = .ok (.putfield 48, 3) := by decide +kernel
theorem dX8_init_77 : decode cX8_init 77 = .ok (.iconst 0, 1) := by decide +kernel
theorem dX8_init_78 : decode cX8_init 78 = .ok (.istore_n 1, 1) := by decide +kernel
theorem dX8_init_79 : decode cX8_init 79 = .ok (.iload_n 1, 1) := by decide +kernel
theorem dX8_init_80 : decode cX8_init 80 = .ok (.iconst 4, 1) := by decide +kernel
theorem dX8_init_81 : decode cX8_init 81 = .ok (.if_icmp .ge 22, 3) := by decide +kernel
theorem dX8_init_84 : decode cX8_init 84 = .ok (.aload_n 0, 1) := by decide +kernel
theorem dX8_init_85 : decode cX8_init 85 = .ok (.getfield 44, 3) := by decide +kernel
theorem dX8_init_88 : decode cX8_init 88 = .ok (.iload_n 1, 1) := by decide +kernel
theorem dX8_init_89 : decode cX8_init 89 = .ok (.new 42, 3) := by decide +kernel
theorem dX8_init_92 : decode cX8_init 92 = .ok (.dup, 1) := by decide +kernel
theorem dX8_init_93 : decode cX8_init 93 = .ok (.invokespecial 52, 3) := by decide +kernel
theorem dX8_init_96 : decode cX8_init 96 = .ok (.aastore, 1) := by decide +kernel
theorem dX8_init_97 : decode cX8_init 97 = .ok (.iinc 1 1, 3) := by decide +kernel
theorem dX8_init_100 : decode cX8_init 100 = .ok (.goto (-21), 3) := by decide +kernel
theorem dX8_init_103 : decode cX8_init 103 = .ok (.return_, 1) := by decide +kernel
set_option maxRecDepth 20000 in
theorem ggX8_reader_X8_within : GoodIn wsX8_reader wsX8_within := goodIn_r _ [9] (by decide +kernel) (by decide +kernel)
set_option maxRecDepth 20000 in
theorem gX8_reader_X8_within : GoodIn wsX8_reader (va_wsS RX8 53 yX8_within wsX8_within) := goodIn_app (goodIn_of _ (by decide +kernel)) ggX8_reader_X8_within
set_option maxRecDepth 20000 in
theorem ggX8_reader_X8_no : GoodIn wsX8_reader wsX8_no := goodIn_r _ [13, 14, 15, 16, 17, 18, 19, 20, 21, 22, 23] (by decide +kernel) (by decide +kernel)
set_option maxRecDepth 20000 in
theorem gX8_reader_X8_no : GoodIn wsX8_reader (wsV RX8 57 RX8 yX8_no wsX8_no) := goodIn_app (goodIn_of _ (by decide +kernel)) ggX8_reader_X8_no
theorem dX8_reader_0 : decode cX8_reader 0 = .ok (.iload_n 1, 1) := by decide +kernel
theorem dX8_reader_1 : decode cX8_reader 1 = .ok (.bipush 69, 2) := by decide +kernel
theorem dX8_reader_3 : decode cX8_reader 3 = .ok (.invokestatic 53, 3) := by decide +kernel
theorem dX8_reader_6 : decode cX8_reader 6 = .ok (.ifCond .ne 9, 3) := by decide +kernel
theorem dX8_reader_9 : decode cX8_reader 9 = .ok (.aload_n 0, 1) := by decide +kernel
theorem dX8_reader_10 : decode cX8_reader 10 = .ok (.iconst 1, 1) := by decide +kernel
theorem dX8_reader_11 : decode cX8_reader 11 = .ok (.invokevirtual 57, 3) := by decide +kernel
theorem dX8_reader_14 : decode cX8_reader 14 = .ok (.ireturn, 1) := by decide +kernel
theorem dX8_reader_15 : decode cX8_reader 15 = .ok (.aload_n 0, 1) := by decide +kernel
theorem dX8_reader_16 : decode cX8_reader 16 = .ok (.getfield 12, 3) := by decide +kernel
theorem dX8_reader_19 : decode cX8_reader 19 = .ok (.getfield 61, 3) := by decide +kernel
theorem dX8_reader_22 : decode cX8_reader 22 = .ok (.bipush 6, 2) := by decide +kernel
theorem dX8_reader_24 : decode cX8_reader 24 = .ok (.if_icmp .lt 9, 3) := by decide +kernel
theorem dX8_reader_27 : decode cX8_reader 27 = .ok (.aload_n 0, 1) := by decide +kernel
theorem dX8_reader_28 : decode cX8_reader 28 = .ok (.iconst 4, 1) := by decide +kernel
theorem dX8_reader_29 : decode cX8_reader 29 = .ok (.invokevirtual 57, 3) := by decide +kernel
theorem dX8_reader_32 : decode cX8_reader 32 = .ok (.ireturn, 1) := by decide +kernel
theorem dX8_reader_33 : decode cX8_reader 33 = .ok (.aload_n 0, 1) := by decide +kernel
theorem dX8_reader_34 : decode cX8_reader 34 = .ok (.getfield 12, 3) := by decide +kernel
theorem dX8_reader_37 : decode cX8_reader 37 = .ok (.getfield 61, 3) := by decide +kernel
theorem dX8_reader_40 : decode cX8_reader 40 = .ok (.istore_n 2, 1) := by decide +kernel
theorem dX8_reader_41 : decode cX8_reader 41 = .ok (.aload_n 0, 1) := by decide +kernel
theorem dX8_reader_42 : decode cX8_reader 42 = .ok (.getfield 12, 3) := by decide +kernel
theorem dX8_reader_45 : decode cX8_reader 45 = .ok (.iload_n 2, 1) := by decide +kernel
theorem dX8_reader_46 : decode cX8_reader 46 = .ok (.iconst 1, 1) := by decide +kernel
theorem dX8_reader_47 : decode cX8_reader 47 = .ok (.iadd, 1) := by decide +kernel
theorem dX8_reader_48 : decode cX8_reader 48 = .ok (.putfield 61, 3) := by decide +kernel
theorem dX8_reader_51 : decode cX8_reader 51 = .ok (.aload_n 0, 1) := by decide +kernel
theorem dX8_reader_52 : decode cX8_reader 52 = .ok (.getfield 12, 3) := by decide +kernel
theorem dX8_reader_55 : decode cX8_reader 55 = .ok (.getfield 65, 3) := by decide +kernel
theorem dX8_reader_58 : decode cX8_reader 58 = .ok (.iload_n 2, 1) := by decide +kernel
theorem dX8_reader_59 : decode cX8_reader 59 = .ok (.iload_n 1, 1) := by decide +kernel
theorem dX8_reader_60 : decode cX8_reader 60 = .ok (.bipush 10, 2) := by decide +kernel
theorem dX8_reader_62 : decode cX8_reader 62 = .ok (.idiv, 1) := by decide +kernel
theorem dX8_reader_63 : decode cX8_reader 63 = .ok (.iastore, 1) := by decide +kernel
theorem dX8_reader_64 : decode cX8_reader 64 = .ok (.aload_n 0, 1) := by decide +kernel
theorem dX8_reader_65 : decode cX8_reader 65 = .ok (.getfield 12, 3) := by decide +kernel
theorem dX8_reader_68 : decode cX8_reader 68 = .ok (.getfield 68, 3) := by decide +kernel
theorem dX8_reader_71 : decode cX8_reader 71 = .ok (.iload_n 2, 1) := by decide +kernel
theorem dX8_reader_72 : decode cX8_reader 72 = .ok (.iload_n 1, 1) := by decide +kernel
theorem dX8_reader_73 : decode cX8_reader 73 = .ok (.bipush 10, 2) := by decide +kernel
theorem dX8_reader_75 : decode cX8_reader 75 = .ok (.irem, 1) := by decide +kernel
theorem dX8_reader_76 : decode cX8_reader 76 = .ok (.iastore, 1) := by decide +kernel
theorem dX8_reader_77 : decode cX8_reader 77 = .ok (.aload_n 0, 1) := by decide +kernel
theorem dX8_reader_78 : decode cX8_reader 78 = .ok (.getfield 12, 3) := by decide +kernel
theorem dX8_reader_81 : decode cX8_reader 81 = .ok (.getfield 71, 3) := by decide +kernel
theorem dX8_reader_84 : decode cX8_reader 84 = .ok (.iload_n 2, 1) := by decide +kernel
theorem dX8_reader_85 : decode cX8_reader 85 = .ok (.iconst 0, 1) := by decide +kernel
theorem dX8_reader_86 : decode cX8_reader 86 = .ok (.iastore, 1) := by decide +kernel
theorem dX8_reader_87 : decode cX8_reader 87 = .ok (.iload_n 2, 1) := by decide +kernel
theorem dX8_reader_88 : decode cX8_reader 88 = .ok (.ireturn, 1) := by decide +kernel
set_option maxRecDepth 20000 in
theorem ggX8_readerIs_X8_isReader : GoodIn wsX8_readerIs wsX8_isReader := goodIn_r _ [10, 1, 11, 27, 28, 29, 30, 31, 32, 33, 34, 35, 36, 37, 38, 39, 40, 41, 42, 43, 44, 45, 46, 47] (by decide +kernel) (by decide +kernel)
set_option maxRecDepth 20000 in
theorem gX8_readerIs_X8_isReader : GoodIn wsX8_readerIs (wsV RX8 74 RX8 yX8_isReader wsX8_isReader) := goodIn_app (goodIn_of _ (by decide +kernel)) ggX8_readerIs_X8_isReader
set_option maxRecDepth 20000 in
theorem ggX8_readerIs_X8_within : GoodIn wsX8_readerIs wsX8_within := goodIn_r _ [14] (by decide +kernel) (by decide +kernel)
set_option maxRecDepth 20000 in
theorem gX8_readerIs_X8_within : GoodIn wsX8_readerIs (va_wsS RX8 53 yX8_within wsX8_within) := goodIn_app (goodIn_of _ (by decide +kernel)) ggX8_readerIs_X8_within
set_option maxRecDepth 20000 in
theorem ggX8_readerIs_X8_no : GoodIn wsX8_readerIs wsX8_no := goodIn_r _ [18, 19, 20, 27, 28, 29, 30, 31, 32, 33, 34] (by decide +kernel) (by decide +kernel)
set_option maxRecDepth 20000 in
theorem gX8_readerIs_X8_no : GoodIn wsX8_readerIs (wsV RX8 57 RX8 yX8_no wsX8_no) := goodIn_app (goodIn_of _ (by decide +kernel)) ggX8_readerIs_X8_no
set_option maxRecDepth 20000 in
theorem ggX8_readerIs_X0_looksAt : GoodIn wsX8_readerIs wsX0_looksAt := goodIn_r _ [24, 25, 26, 48, 49, 50, 51] (by decide +kernel) (by decide +kernel)
set_option maxRecDepth 20000 in
theorem gX8_readerIs_X0_looksAt : GoodIn wsX8_readerIs (va_wsS RX8 82 yX0_looksAt wsX0_looksAt) := goodIn_app (goodIn_of _ (by decide +kernel)) ggX8_readerIs_X0_looksAt
theorem dX8_readerIs_0 : decode cX8_readerIs 0 = .ok (.aload_n 0, 1) := by decide +kernel
theorem dX8_readerIs_1 : decode cX8_readerIs 1 = .ok (.iload_n 1, 1) := by decide +kernel
theorem dX8_readerIs_2 : decode cX8_readerIs 2 = .ok (.invokevirtual 74, 3) := by decide +kernel
theorem dX8_readerIs_5 : decode cX8_readerIs 5 = .ok (.ifCond .eq 11, 3) := by decide +kernel
theorem dX8_readerIs_8 : decode cX8_readerIs 8 = .ok (.iload_n 2, 1) := by decide +kernel
theorem dX8_readerIs_9 : decode cX8_readerIs 9 = .ok (.iconst 3, 1) := by decide +kernel
theorem dX8_readerIs_10 : decode cX8_readerIs 10 = .ok (.invokestatic 53, 3) := by decide +kernel
theorem dX8_readerIs_13 : decode cX8_readerIs 13 = .ok (.ifCond .ne 9, 3) := by decide +kernel
theorem dX8_readerIs_16 : decode cX8_readerIs 16 = .ok (.aload_n 0, 1) := by decide +kernel
theorem dX8_readerIs_17 : decode cX8_readerIs 17 = .ok (.iconst 1, 1) := by decide +kernel
theorem dX8_readerIs_18 : decode cX8_readerIs 18 = .ok (.invokevirtual 57, 3) := by decide +kernel
theorem dX8_readerIs_21 : decode cX8_readerIs 21 = .ok (.ireturn, 1) := by decide +kernel
theorem dX8_readerIs_22 : decode cX8_readerIs 22 = .ok (.iload_n 2, 1) := by decide +kernel
theorem dX8_readerIs_23 : decode cX8_readerIs 23 = .ok (.tableswitch 55 0 2 #[25, 35, 45], 25) := by decide +kernel
theorem dX8_readerIs_48 : decode cX8_readerIs 48 = .ok (.aload_n 0, 1) := by decide +kernel
theorem dX8_readerIs_49 : decode cX8_readerIs 49 = .ok (.getfield 12, 3) := by decide +kernel
theorem dX8_readerIs_52 : decode cX8_readerIs 52 = .ok (.getfield 65, 3) := by decide +kernel
theorem dX8_readerIs_55 : decode cX8_readerIs 55 = .ok (.iload_n 1, 1) := by decide +kernel
theorem dX8_readerIs_56 : decode cX8_readerIs 56 = .ok (.iaload, 1) := by decide +kernel
theorem dX8_readerIs_57 : decode cX8_readerIs 57 = .ok (.ireturn, 1) := by decide +kernel
theorem dX8_readerIs_58 : decode cX8_readerIs 58 = .ok (.aload_n 0, 1) := by decide +kernel
theorem dX8_readerIs_59 : decode cX8_readerIs 59 = .ok (.getfield 12, 3) := by decide +kernel
theorem dX8_readerIs_62 : decode cX8_readerIs 62 = .ok (.getfield 68, 3) := by decide +kernel
theorem dX8_readerIs_65 : decode cX8_readerIs 65 = .ok (.iload_n 1, 1) := by decide +kernel
theorem dX8_readerIs_66 : decode cX8_readerIs 66 = .ok (.iaload, 1) := by decide +kernel
theorem dX8_readerIs_67 : decode cX8_readerIs 67 = .ok (.ireturn, 1) := by decide +kernel
theorem dX8_readerIs_68 : decode cX8_readerIs 68 = .ok (.aload_n 0, 1) := by decide +kernel
theorem dX8_readerIs_69 : decode cX8_readerIs 69 = .ok (.getfield 12, 3) := by decide +kernel
theorem dX8_readerIs_72 : decode cX8_readerIs 72 = .ok (.getfield 71, 3) := by decide +kernel
theorem dX8_readerIs_75 : decode cX8_readerIs 75 = .ok (.iload_n 1, 1) := by decide +kernel
theorem dX8_readerIs_76 : decode cX8_readerIs 76 = .ok (.iaload, 1) := by decide +kernel
theorem dX8_readerIs_77 : decode cX8_readerIs 77 = .ok (.ireturn, 1) := by decide +kernel
theorem dX8_readerIs_78 : decode cX8_readerIs 78 = .ok (.aload_n 0, 1) := by decide +kernel
theorem dX8_readerIs_79 : decode cX8_readerIs 79 = .ok (.getfield 12, 3) := by decide +kernel
theorem dX8_readerIs_82 : decode cX8_readerIs 82 = .ok (.getfield 65, 3) := by decide +kernel
theorem dX8_readerIs_85 : decode cX8_readerIs 85 = .ok (.iload_n 1, 1) := by decide +kernel
theorem dX8_readerIs_86 : decode cX8_readerIs 86 = .ok (.iaload, 1) := by decide +kernel
theorem dX8_readerIs_87 : decode cX8_readerIs 87 = .ok (.aload_n 0, 1) := by decide +kernel
theorem dX8_readerIs_88 : decode cX8_readerIs 88 = .ok (.getfield 12, 3) := by decide +kernel
theorem dX8_readerIs_91 : decode cX8_readerIs 91 = .ok (.getfield 68, 3) := by decide +kernel
theorem dX8_readerIs_94 : decode cX8_readerIs 94 = .ok (.iload_n 1, 1) := by decide +kernel
theorem dX8_readerIs_95 : decode cX8_readerIs 95 = .ok (.iaload, 1) := by decide +kernel
theorem dX8_readerIs_96 : decode cX8_readerIs 96 = .ok (.aload_n 0, 1) := by decide +kernel
theorem dX8_readerIs_97 : decode cX8_readerIs 97 = .ok (.getfield 12, 3) := by decide +kernel
theorem dX8_readerIs_100 : decode cX8_readerIs 100 = .ok (.getfield 78, 3) := by decide +kernel
theorem dX8_readerIs_103 : decode cX8_readerIs 103 = .ok (.invokestatic 82, 3) := by decide +kernel
theorem dX8_readerIs_106 : decode cX8_readerIs 106 = .ok (.ireturn, 1) := by decide +kernel
set_option maxRecDepth 20000 in
theorem ggX8_become_X8_isReader : GoodIn wsX8_become wsX8_isReader := goodIn_r _ [8, 1, 9, 19, 20, 21, 22, 23, 24, 25, 26, 27, 28, 29, 30, 31, 32, 33, 34, 35, 36, 37, 38, 39] (by decide +kernel) (by decide +kernel)
set_option maxRecDepth 20000 in
theorem gX8_become_X8_isReader : GoodIn wsX8_become (wsV RX8 74 RX8 yX8_isReader wsX8_isReader) := goodIn_app (goodIn_of _ (by decide +kernel)) ggX8_become_X8_isReader
set_option maxRecDepth 20000 in
theorem ggX8_become_X8_within : GoodIn wsX8_become wsX8_within := goodIn_r _ [12] (by decide +kernel) (by decide +kernel)
set_option maxRecDepth 20000 in
theorem gX8_become_X8_within : GoodIn wsX8_become (va_wsS RX8 53 yX8_within wsX8_within) := goodIn_app (goodIn_of _ (by decide +kernel)) ggX8_become_X8_within
set_option maxRecDepth 20000 in
theorem ggX8_become_X8_no : GoodIn wsX8_become wsX8_no := goodIn_r _ [16, 17, 18, 19, 20, 21, 22, 23, 24, 25, 26] (by decide +kernel) (by decide +kernel)
set_option maxRecDepth 20000 in
theorem gX8_become_X8_no : GoodIn wsX8_become (wsV RX8 57 RX8 yX8_no wsX8_no) := goodIn_app (goodIn_of _ (by decide +kernel)) ggX8_become_X8_no
theorem dX8_become_0 : decode cX8_become 0 = .ok (.aload_n 0, 1) := by decide +kernel
theorem dX8_become_1 : decode cX8_become 1 = .ok (.iload_n 1, 1) := by decide +kernel
theorem dX8_become_2 : decode cX8_become 2 = .ok (.invokevirtual 74, 3) := by decide +kernel
theorem dX8_become_5 : decode cX8_become 5 = .ok (.ifCond .eq 12, 3) := by decide +kernel
theorem dX8_become_8 : decode cX8_become 8 = .ok (.iload_n 2, 1) := by decide +kernel
theorem dX8_become_9 : decode cX8_become 9 = .ok (.bipush 69, 2) := by decide +kernel
theorem dX8_become_11 : decode cX8_become 11 = .ok (.invokestatic 53, 3) := by decide +kernel
theorem dX8_become_14 : decode cX8_become 14 = .ok (.ifCond .ne 9, 3) := by decide +kernel
theorem dX8_become_17 : decode cX8_become 17 = .ok (.aload_n 0, 1) := by decide +kernel
theorem dX8_become_18 : decode cX8_become 18 = .ok (.iconst 1, 1) := by decide +kernel
theorem dX8_become_19 : decode cX8_become 19 = .ok (.invokevirtual 57, 3) := by decide +kernel
theorem dX8_become_22 : decode cX8_become 22 = .ok (.ireturn, 1) := by decide +kernel
theorem dX8_become_23 : decode cX8_become 23 = .ok (.aload_n 0, 1) := by decide +kernel
theorem dX8_become_24 : decode cX8_become 24 = .ok (.getfield 12, 3) := by decide +kernel
theorem dX8_become_27 : decode cX8_become 27 = .ok (.getfield 65, 3) := by decide +kernel
theorem dX8_become_30 : decode cX8_become 30 = .ok (.iload_n 1, 1) := by decide +kernel
theorem dX8_become_31 : decode cX8_become 31 = .ok (.iaload, 1) := by decide +kernel
theorem dX8_become_32 : decode cX8_become 32 = .ok (.istore_n 3, 1) := by decide +kernel
theorem dX8_become_33 : decode cX8_become 33 = .ok (.aload_n 0, 1) := by decide +kernel
theorem dX8_become_34 : decode cX8_become 34 = .ok (.getfield 12, 3) := by decide +kernel
theorem dX8_become_37 : decode cX8_become 37 = .ok (.getfield 65, 3) := by decide +kernel
theorem dX8_become_40 : decode cX8_become 40 = .ok (.iload_n 1, 1) := by decide +kernel
theorem dX8_become_41 : decode cX8_become 41 = .ok (.iload_n 2, 1) := by decide +kernel
theorem dX8_become_42 : decode cX8_become 42 = .ok (.bipush 10, 2) := by decide +kernel
theorem dX8_become_44 : decode cX8_become 44 = .ok (.idiv, 1) := by decide +kernel
theorem dX8_become_45 : decode cX8_become 45 = .ok (.iastore, 1) := by decide +kernel
theorem dX8_become_46 : decode cX8_become 46 = .ok (.aload_n 0, 1) := by decide +kernel
theorem dX8_become_47 : decode cX8_become 47 = .ok (.getfield 12, 3) := by decide +kernel
theorem dX8_become_50 : decode cX8_become 50 = .ok (.getfield 68, 3) := by decide +kernel
theorem dX8_become_53 : decode cX8_become 53 = .ok (.iload_n 1, 1) := by decide +kernel
theorem dX8_become_54 : decode cX8_become 54 = .ok (.iload_n 2, 1) := by decide +kernel
theorem dX8_become_55 : decode cX8_become 55 = .ok (.bipush 10, 2) := by decide +kernel
theorem dX8_become_57 : decode cX8_become 57 = .ok (.irem, 1) := by decide +kernel
theorem dX8_become_58 : decode cX8_become 58 = .ok (.iastore, 1) := by decide +kernel
theorem dX8_become_59 : decode cX8_become 59 = .ok (.iload_n 3, 1) := by decide +kernel
theorem dX8_become_60 : decode cX8_become 60 = .ok (.ireturn, 1) := by decide +kernel
set_option maxRecDepth 20000 in
theorem ggX8_as_X8_isReader : GoodIn wsX8_as wsX8_isReader := goodIn_r _ [8, 1, 9, 27, 28, 29, 30, 31, 32, 33, 34, 35, 36, 37, 38, 39, 40, 41, 42, 43, 44, 45, 46, 47] (by decide +kernel) (by decide +kernel)
set_option maxRecDepth 20000 in
theorem gX8_as_X8_isReader : GoodIn wsX8_as (wsV RX8 74 RX8 yX8_isReader wsX8_isReader) := goodIn_app (goodIn_of _ (by decide +kernel)) ggX8_as_X8_isReader
set_option maxRecDepth 20000 in
theorem ggX8_as_X8_within : GoodIn wsX8_as wsX8_within := goodIn_r _ [12] (by decide +kernel) (by decide +kernel)
set_option maxRecDepth 20000 in
theorem gX8_as_X8_within : GoodIn wsX8_as (va_wsS RX8 53 yX8_within wsX8_within) := goodIn_app (goodIn_of _ (by decide +kernel)) ggX8_as_X8_within
set_option maxRecDepth 20000 in
theorem ggX8_as_X8_no : GoodIn wsX8_as wsX8_no := goodIn_r _ [16, 17, 18, 27, 28, 29, 30, 31, 32, 33, 34] (by decide +kernel) (by decide +kernel)
set_option maxRecDepth 20000 in
theorem gX8_as_X8_no : GoodIn wsX8_as (wsV RX8 57 RX8 yX8_no wsX8_no) := goodIn_app (goodIn_of _ (by decide +kernel)) ggX8_as_X8_no
set_option maxRecDepth 20000 in
theorem ggX8_as_X0_isOf : GoodIn wsX8_as wsX0_isOf := goodIn_r _ [22, 23, 24, 21, 25, 26] (by decide +kernel) (by decide +kernel)
set_option maxRecDepth 20000 in
theorem gX8_as_X0_isOf : GoodIn wsX8_as (va_wsS RX8 88 yX0_isOf wsX0_isOf) := goodIn_app (goodIn_of _ (by decide +kernel)) ggX8_as_X0_isOf
theorem dX8_as_0 : decode cX8_as 0 = .ok (.aload_n 0, 1) := by decide +kernel
theorem dX8_as_1 : decode cX8_as 1 = .ok (.iload_n 1, 1) := by decide +kernel
theorem dX8_as_2 : decode cX8_as 2 = .ok (.invokevirtual 74, 3) := by decide +kernel
theorem dX8_as_5 : decode cX8_as 5 = .ok (.ifCond .eq 12, 3) := by decide +kernel
theorem dX8_as_8 : decode cX8_as 8 = .ok (.iload_n 2, 1) := by decide +kernel
theorem dX8_as_9 : decode cX8_as 9 = .ok (.bipush 6, 2) := by decide +kernel
theorem dX8_as_11 : decode cX8_as 11 = .ok (.invokestatic 53, 3) := by decide +kernel
theorem dX8_as_14 : decode cX8_as 14 = .ok (.ifCond .ne 9, 3) := by decide +kernel
theorem dX8_as_17 : decode cX8_as 17 = .ok (.aload_n 0, 1) := by decide +kernel
theorem dX8_as_18 : decode cX8_as 18 = .ok (.iconst 1, 1) := by decide +kernel
theorem dX8_as_19 : decode cX8_as 19 = .ok (.invokevirtual 57, 3) := by decide +kernel
theorem dX8_as_22 : decode cX8_as 22 = .ok (.ireturn, 1) := by decide +kernel
theorem dX8_as_23 : decode cX8_as 23 = .ok (.aload_n 0, 1) := by decide +kernel
theorem dX8_as_24 : decode cX8_as 24 = .ok (.getfield 12, 3) := by decide +kernel
theorem dX8_as_27 : decode cX8_as 27 = .ok (.getfield 65, 3) := by decide +kernel
theorem dX8_as_30 : decode cX8_as 30 = .ok (.iload_n 1, 1) := by decide +kernel
theorem dX8_as_31 : decode cX8_as 31 = .ok (.iaload, 1) := by decide +kernel
theorem dX8_as_32 : decode cX8_as 32 = .ok (.iload_n 2, 1) := by decide +kernel
theorem dX8_as_33 : decode cX8_as 33 = .ok (.invokestatic 88, 3) := by decide +kernel
theorem dX8_as_36 : decode cX8_as 36 = .ok (.ifCond .eq 15, 3) := by decide +kernel
theorem dX8_as_39 : decode cX8_as 39 = .ok (.aload_n 0, 1) := by decide +kernel
theorem dX8_as_40 : decode cX8_as 40 = .ok (.getfield 12, 3) := by decide +kernel
theorem dX8_as_43 : decode cX8_as 43 = .ok (.getfield 68, 3) := by decide +kernel
theorem dX8_as_46 : decode cX8_as 46 = .ok (.iload_n 1, 1) := by decide +kernel
theorem dX8_as_47 : decode cX8_as 47 = .ok (.iaload, 1) := by decide +kernel
theorem dX8_as_48 : decode cX8_as 48 = .ok (.goto 8, 3) := by decide +kernel
theorem dX8_as_51 : decode cX8_as 51 = .ok (.aload_n 0, 1) := by decide +kernel
theorem dX8_as_52 : decode cX8_as 52 = .ok (.iconst 5, 1) := by decide +kernel
theorem dX8_as_53 : decode cX8_as 53 = .ok (.invokevirtual 57, 3) := by decide +kernel
theorem dX8_as_56 : decode cX8_as 56 = .ok (.ireturn, 1) := by decide +kernel
set_option maxRecDepth 20000 in
theorem ggX8_marked_X8_isReader : GoodIn wsX8_marked wsX8_isReader := goodIn_r _ [7, 1, 8, 18, 19, 20, 21, 22, 23, 24, 25, 26, 27, 28, 29, 30, 31, 32, 33, 34, 35, 36, 37, 38] (by decide +kernel) (by decide +kernel)
set_option maxRecDepth 20000 in
theorem gX8_marked_X8_isReader : GoodIn wsX8_marked (wsV RX8 74 RX8 yX8_isReader wsX8_isReader) := goodIn_app (goodIn_of _ (by decide +kernel)) ggX8_marked_X8_isReader
set_option maxRecDepth 20000 in
theorem ggX8_marked_X8_within : GoodIn wsX8_marked wsX8_within := goodIn_r _ [11] (by decide +kernel) (by decide +kernel)
set_option maxRecDepth 20000 in
theorem gX8_marked_X8_within : GoodIn wsX8_marked (va_wsS RX8 53 yX8_within wsX8_within) := goodIn_app (goodIn_of _ (by decide +kernel)) ggX8_marked_X8_within
set_option maxRecDepth 20000 in
theorem ggX8_marked_X8_no : GoodIn wsX8_marked wsX8_no := goodIn_r _ [15, 16, 17, 18, 19, 20, 21, 22, 23, 24, 25] (by decide +kernel) (by decide +kernel)
set_option maxRecDepth 20000 in
theorem gX8_marked_X8_no : GoodIn wsX8_marked (wsV RX8 57 RX8 yX8_no wsX8_no) := goodIn_app (goodIn_of _ (by decide +kernel)) ggX8_marked_X8_no
theorem dX8_marked_0 : decode cX8_marked 0 = .ok (.aload_n 0, 1) := by decide +kernel
theorem dX8_marked_1 : decode cX8_marked 1 = .ok (.iload_n 1, 1) := by decide +kernel
theorem dX8_marked_2 : decode cX8_marked 2 = .ok (.invokevirtual 74, 3) := by decide +kernel
theorem dX8_marked_5 : decode cX8_marked 5 = .ok (.ifCond .eq 13, 3) := by decide +kernel
theorem dX8_marked_8 : decode cX8_marked 8 = .ok (.iload_n 2, 1) := by decide +kernel
theorem dX8_marked_9 : decode cX8_marked 9 = .ok (.sipush 9999, 3) := by decide +kernel
theorem dX8_marked_12 : decode cX8_marked 12 = .ok (.invokestatic 53, 3) := by decide +kernel
theorem dX8_marked_15 : decode cX8_marked 15 = .ok (.ifCond .ne 9, 3) := by decide +kernel
theorem dX8_marked_18 : decode cX8_marked 18 = .ok (.aload_n 0, 1) := by decide +kernel
theorem dX8_marked_19 : decode cX8_marked 19 = .ok (.iconst 1, 1) := by decide +kernel
theorem dX8_marked_20 : decode cX8_marked 20 = .ok (.invokevirtual 57, 3) := by decide +kernel
theorem dX8_marked_23 : decode cX8_marked 23 = .ok (.ireturn, 1) := by decide +kernel
theorem dX8_marked_24 : decode cX8_marked 24 = .ok (.aload_n 0, 1) := by decide +kernel
theorem dX8_marked_25 : decode cX8_marked 25 = .ok (.getfield 12, 3) := by decide +kernel
theorem dX8_marked_28 : decode cX8_marked 28 = .ok (.getfield 71, 3) := by decide +kernel
theorem dX8_marked_31 : decode cX8_marked 31 = .ok (.iload_n 1, 1) := by decide +kernel
theorem dX8_marked_32 : decode cX8_marked 32 = .ok (.iaload, 1) := by decide +kernel
theorem dX8_marked_33 : decode cX8_marked 33 = .ok (.istore_n 3, 1) := by decide +kernel
theorem dX8_marked_34 : decode cX8_marked 34 = .ok (.aload_n 0, 1) := by decide +kernel
theorem dX8_marked_35 : decode cX8_marked 35 = .ok (.getfield 12, 3) := by decide +kernel
theorem dX8_marked_38 : decode cX8_marked 38 = .ok (.getfield 71, 3) := by decide +kernel
theorem dX8_marked_41 : decode cX8_marked 41 = .ok (.iload_n 1, 1) := by decide +kernel
theorem dX8_marked_42 : decode cX8_marked 42 = .ok (.iload_n 2, 1) := by decide +kernel
theorem dX8_marked_43 : decode cX8_marked 43 = .ok (.iastore, 1) := by decide +kernel
theorem dX8_marked_44 : decode cX8_marked 44 = .ok (.iload_n 3, 1) := by decide +kernel
theorem dX8_marked_45 : decode cX8_marked 45 = .ok (.ireturn, 1) := by decide +kernel
set_option maxRecDepth 20000 in
theorem ggX8_knows_X8_within : GoodIn wsX8_knows wsX8_within := goodIn_r _ [7] (by decide +kernel) (by decide +kernel)
set_option maxRecDepth 20000 in
theorem gX8_knows_X8_within : GoodIn wsX8_knows (va_wsS RX8 53 yX8_within wsX8_within) := goodIn_app (goodIn_of _ (by decide +kernel)) ggX8_knows_X8_within
set_option maxRecDepth 20000 in
theorem ggX8_knows_X8_no : GoodIn wsX8_knows wsX8_no := goodIn_r _ [11, 12, 13, 14, 15, 16, 17, 18, 19, 20, 21] (by decide +kernel) (by decide +kernel)
set_option maxRecDepth 20000 in
theorem gX8_knows_X8_no : GoodIn wsX8_knows (wsV RX8 57 RX8 yX8_no wsX8_no) := goodIn_app (goodIn_of _ (by decide +kernel)) ggX8_knows_X8_no
theorem dX8_knows_0 : decode cX8_knows 0 = .ok (.iload_n 1, 1) := by decide +kernel
theorem dX8_knows_1 : decode cX8_knows 1 = .ok (.sipush 255, 3) := by decide +kernel
theorem dX8_knows_4 : decode cX8_knows 4 = .ok (.invokestatic 53, 3) := by decide +kernel
theorem dX8_knows_7 : decode cX8_knows 7 = .ok (.ifCond .ne 9, 3) := by decide +kernel
theorem dX8_knows_10 : decode cX8_knows 10 = .ok (.aload_n 0, 1) := by decide +kernel
theorem dX8_knows_11 : decode cX8_knows 11 = .ok (.iconst 1, 1) := by decide +kernel
theorem dX8_knows_12 : decode cX8_knows 12 = .ok (.invokevirtual 57, 3) := by decide +kernel
theorem dX8_knows_15 : decode cX8_knows 15 = .ok (.ireturn, 1) := by decide +kernel
theorem dX8_knows_16 : decode cX8_knows 16 = .ok (.aload_n 0, 1) := by decide +kernel
theorem dX8_knows_17 : decode cX8_knows 17 = .ok (.getfield 12, 3) := by decide +kernel
theorem dX8_knows_20 : decode cX8_knows 20 = .ok (.getfield 78, 3) := by decide +kernel
theorem dX8_knows_23 : decode cX8_knows 23 = .ok (.getfield 91, 3) := by decide +kernel
theorem dX8_knows_26 : decode cX8_knows 26 = .ok (.istore_n 2, 1) := by decide +kernel
theorem dX8_knows_27 : decode cX8_knows 27 = .ok (.aload_n 0, 1) := by decide +kernel
theorem dX8_knows_28 : decode cX8_knows 28 = .ok (.getfield 12, 3) := by decide +kernel
theorem dX8_knows_31 : decode cX8_knows 31 = .ok (.getfield 78, 3) := by decide +kernel
theorem dX8_knows_34 : decode cX8_knows 34 = .ok (.iload_n 1, 1) := by decide +kernel
theorem dX8_knows_35 : decode cX8_knows 35 = .ok (.putfield 91, 3) := by decide +kernel
theorem dX8_knows_38 : decode cX8_knows 38 = .ok (.iload_n 2, 1) := by decide +kernel
theorem dX8_knows_39 : decode cX8_knows 39 = .ok (.ireturn, 1) := by decide +kernel
set_option maxRecDepth 20000 in
theorem ggX8_jawed_X8_isLion : GoodIn wsX8_jawed wsX8_isLion := goodIn_r _ [7, 8, 9, 6, 10] (by decide +kernel) (by decide +kernel)
set_option maxRecDepth 20000 in
theorem gX8_jawed_X8_isLion : GoodIn wsX8_jawed (va_wsS RX8 96 yX8_isLion wsX8_isLion) := goodIn_app (goodIn_of _ (by decide +kernel)) ggX8_jawed_X8_isLion
set_option maxRecDepth 20000 in
theorem ggX8_jawed_X8_within : GoodIn wsX8_jawed wsX8_within := goodIn_r _ [10] (by decide +kernel) (by decide +kernel)
set_option maxRecDepth 20000 in
theorem gX8_jawed_X8_within : GoodIn wsX8_jawed (va_wsS RX8 53 yX8_within wsX8_within) := goodIn_app (goodIn_of _ (by decide +kernel)) ggX8_jawed_X8_within
set_option maxRecDepth 20000 in
theorem ggX8_jawed_X8_no : GoodIn wsX8_jawed wsX8_no := goodIn_r _ [14, 15, 16, 17, 18, 19, 20, 21, 22, 23, 24] (by decide +kernel) (by decide +kernel)
set_option maxRecDepth 20000 in
theorem gX8_jawed_X8_no : GoodIn wsX8_jawed (wsV RX8 57 RX8 yX8_no wsX8_no) := goodIn_app (goodIn_of _ (by decide +kernel)) ggX8_jawed_X8_no
theorem dX8_jawed_0 : decode cX8_jawed 0 = .ok (.iload_n 1, 1) := by decide +kernel
theorem dX8_jawed_1 : decode cX8_jawed 1 = .ok (.invokestatic 96, 3) := by decide +kernel
theorem dX8_jawed_4 : decode cX8_jawed 4 = .ok (.ifCond .eq 13, 3) := by decide +kernel
theorem dX8_jawed_7 : decode cX8_jawed 7 = .ok (.iload_n 2, 1) := by decide +kernel
theorem dX8_jawed_8 : decode cX8_jawed 8 = .ok (.sipush 359, 3) := by decide +kernel
theorem dX8_jawed_11 : decode cX8_jawed 11 = .ok (.invokestatic 53, 3) := by decide +kernel
theorem dX8_jawed_14 : decode cX8_jawed 14 = .ok (.ifCond .ne 9, 3) := by decide +kernel
theorem dX8_jawed_17 : decode cX8_jawed 17 = .ok (.aload_n 0, 1) := by decide +kernel
theorem dX8_jawed_18 : decode cX8_jawed 18 = .ok (.iconst 1, 1) := by decide +kernel
theorem dX8_jawed_19 : decode cX8_jawed 19 = .ok (.invokevirtual 57, 3) := by decide +kernel
theorem dX8_jawed_22 : decode cX8_jawed 22 = .ok (.ireturn, 1) := by decide +kernel
theorem dX8_jawed_23 : decode cX8_jawed 23 = .ok (.aload_n 0, 1) := by decide +kernel
theorem dX8_jawed_24 : decode cX8_jawed 24 = .ok (.getfield 12, 3) := by decide +kernel
theorem dX8_jawed_27 : decode cX8_jawed 27 = .ok (.getfield 78, 3) := by decide +kernel
theorem dX8_jawed_30 : decode cX8_jawed 30 = .ok (.getfield 99, 3) := by decide +kernel
theorem dX8_jawed_33 : decode cX8_jawed 33 = .ok (.iload_n 1, 1) := by decide +kernel
theorem dX8_jawed_34 : decode cX8_jawed 34 = .ok (.iaload, 1) := by decide +kernel
theorem dX8_jawed_35 : decode cX8_jawed 35 = .ok (.istore_n 3, 1) := by decide +kernel
theorem dX8_jawed_36 : decode cX8_jawed 36 = .ok (.aload_n 0, 1) := by decide +kernel
theorem dX8_jawed_37 : decode cX8_jawed 37 = .ok (.getfield 12, 3) := by decide +kernel
theorem dX8_jawed_40 : decode cX8_jawed 40 = .ok (.getfield 78, 3) := by decide +kernel
theorem dX8_jawed_43 : decode cX8_jawed 43 = .ok (.getfield 99, 3) := by decide +kernel
theorem dX8_jawed_46 : decode cX8_jawed 46 = .ok (.iload_n 1, 1) := by decide +kernel
theorem dX8_jawed_47 : decode cX8_jawed 47 = .ok (.iload_n 2, 1) := by decide +kernel
theorem dX8_jawed_48 : decode cX8_jawed 48 = .ok (.iastore, 1) := by decide +kernel
theorem dX8_jawed_49 : decode cX8_jawed 49 = .ok (.iload_n 3, 1) := by decide +kernel
theorem dX8_jawed_50 : decode cX8_jawed 50 = .ok (.ireturn, 1) := by decide +kernel
set_option maxRecDepth 20000 in
theorem ggX8_happens_X8_within : GoodIn wsX8_happens wsX8_within := goodIn_r _ [6] (by decide +kernel) (by decide +kernel)
set_option maxRecDepth 20000 in
theorem gX8_happens_X8_within : GoodIn wsX8_happens (va_wsS RX8 53 yX8_within wsX8_within) := goodIn_app (goodIn_of _ (by decide +kernel)) ggX8_happens_X8_within
set_option maxRecDepth 20000 in
theorem ggX8_happens_X8_no : GoodIn wsX8_happens wsX8_no := goodIn_r _ [10, 11, 12, 13, 14, 15, 16, 17, 18, 19, 20] (by decide +kernel) (by decide +kernel)
set_option maxRecDepth 20000 in
theorem gX8_happens_X8_no : GoodIn wsX8_happens (wsV RX8 57 RX8 yX8_no wsX8_no) := goodIn_app (goodIn_of _ (by decide +kernel)) ggX8_happens_X8_no
theorem dX8_happens_0 : decode cX8_happens 0 = .ok (.iload_n 1, 1) := by decide +kernel
theorem dX8_happens_1 : decode cX8_happens 1 = .ok (.iconst 5, 1) := by decide +kernel
theorem dX8_happens_2 : decode cX8_happens 2 = .ok (.invokestatic 53, 3) := by decide +kernel
theorem dX8_happens_5 : decode cX8_happens 5 = .ok (.ifCond .eq 13, 3) := by decide +kernel
theorem dX8_happens_8 : decode cX8_happens 8 = .ok (.iload_n 2, 1) := by decide +kernel
theorem dX8_happens_9 : decode cX8_happens 9 = .ok (.sipush 255, 3) := by decide +kernel
theorem dX8_happens_12 : decode cX8_happens 12 = .ok (.invokestatic 53, 3) := by decide +kernel
theorem dX8_happens_15 : decode cX8_happens 15 = .ok (.ifCond .ne 9, 3) := by decide +kernel
theorem dX8_happens_18 : decode cX8_happens 18 = .ok (.aload_n 0, 1) := by decide +kernel
theorem dX8_happens_19 : decode cX8_happens 19 = .ok (.iconst 1, 1) := by decide +kernel
theorem dX8_happens_20 : decode cX8_happens 20 = .ok (.invokevirtual 57, 3) := by decide +kernel
theorem dX8_happens_23 : decode cX8_happens 23 = .ok (.ireturn, 1) := by decide +kernel
theorem dX8_happens_24 : decode cX8_happens 24 = .ok (.aload_n 0, 1) := by decide +kernel
theorem dX8_happens_25 : decode cX8_happens 25 = .ok (.getfield 12, 3) := by decide +kernel
theorem dX8_happens_28 : decode cX8_happens 28 = .ok (.getfield 102, 3) := by decide +kernel
theorem dX8_happens_31 : decode cX8_happens 31 = .ok (.iload_n 1, 1) := by decide +kernel
theorem dX8_happens_32 : decode cX8_happens 32 = .ok (.iaload, 1) := by decide +kernel
theorem dX8_happens_33 : decode cX8_happens 33 = .ok (.istore_n 3, 1) := by decide +kernel
theorem dX8_happens_34 : decode cX8_happens 34 = .ok (.aload_n 0, 1) := by decide +kernel
theorem dX8_happens_35 : decode cX8_happens 35 = .ok (.getfield 12, 3) := by decide +kernel
theorem dX8_happens_38 : decode cX8_happens 38 = .ok (.getfield 102, 3) := by decide +kernel
theorem dX8_happens_41 : decode cX8_happens 41 = .ok (.iload_n 1, 1) := by decide +kernel
theorem dX8_happens_42 : decode cX8_happens 42 = .ok (.iload_n 2, 1) := by decide +kernel
theorem dX8_happens_43 : decode cX8_happens 43 = .ok (.iastore, 1) := by decide +kernel
theorem dX8_happens_44 : decode cX8_happens 44 = .ok (.iload_n 3, 1) := by decide +kernel
theorem dX8_happens_45 : decode cX8_happens 45 = .ok (.ireturn, 1) := by decide +kernel
set_option maxRecDepth 20000 in
theorem ggX8_sign_X8_isLion : GoodIn wsX8_sign wsX8_isLion := goodIn_r _ [6, 7, 8, 5, 9] (by decide +kernel) (by decide +kernel)
set_option maxRecDepth 20000 in
theorem gX8_sign_X8_isLion : GoodIn wsX8_sign (va_wsS RX8 96 yX8_isLion wsX8_isLion) := goodIn_app (goodIn_of _ (by decide +kernel)) ggX8_sign_X8_isLion
set_option maxRecDepth 20000 in
theorem ggX8_sign_X8_within : GoodIn wsX8_sign wsX8_within := goodIn_r _ [9] (by decide +kernel) (by decide +kernel)
set_option maxRecDepth 20000 in
theorem gX8_sign_X8_within : GoodIn wsX8_sign (va_wsS RX8 53 yX8_within wsX8_within) := goodIn_app (goodIn_of _ (by decide +kernel)) ggX8_sign_X8_within
set_option maxRecDepth 20000 in
theorem ggX8_sign_X8_no : GoodIn wsX8_sign wsX8_no := goodIn_r _ [13, 14, 15, 65, 66, 67, 68, 69, 70, 71, 72] (by decide +kernel) (by decide +kernel)
set_option maxRecDepth 20000 in
theorem gX8_sign_X8_no : GoodIn wsX8_sign (wsV RX8 57 RX8 yX8_no wsX8_no) := goodIn_app (goodIn_of _ (by decide +kernel)) ggX8_sign_X8_no
set_option maxRecDepth 20000 in
theorem ggX8_sign_X7_turnOf : GoodIn wsX8_sign wsX7_turnOf := goodIn_r _ [20, 21, 22, 23, 24, 25, 26, 27, 28, 29, 30, 31, 32, 33, 34, 35, 36, 37, 38, 39, 40, 41, 42, 43, 44, 45, 46, 47, 48, 49, 50, 51, 52, 53, 54, 55, 56, 57, 58, 59, 60, 61, 62, 63, 64, 73, 74, 75, 76, 77, 78, 79, 80, 81, 82, 83, 84, 85, 86, 87, 88, 89, 90, 91, 92, 93, 94, 95, 96] (by decide +kernel) (by decide +kernel)
set_option maxRecDepth 20000 in
theorem gX8_sign_X7_turnOf : GoodIn wsX8_sign (wsV RX8 105 RX7 yX7_turnOf wsX7_turnOf) := goodIn_app (goodIn_of _ (by decide +kernel)) ggX8_sign_X7_turnOf
theorem dX8_sign_0 : decode cX8_sign 0 = .ok (.iload_n 1, 1) := by decide +kernel
theorem dX8_sign_1 : decode cX8_sign 1 = .ok (.invokestatic 96, 3) := by decide +kernel
theorem dX8_sign_4 : decode cX8_sign 4 = .ok (.ifCond .eq 13, 3) := by decide +kernel
theorem dX8_sign_7 : decode cX8_sign 7 = .ok (.iload_n 2, 1) := by decide +kernel
theorem dX8_sign_8 : decode cX8_sign 8 = .ok (.sipush 255, 3) := by decide +kernel
theorem dX8_sign_11 : decode cX8_sign 11 = .ok (.invokestatic 53, 3) := by decide +kernel
theorem dX8_sign_14 : decode cX8_sign 14 = .ok (.ifCond .ne 9, 3) := by decide +kernel
theorem dX8_sign_17 : decode cX8_sign 17 = .ok (.aload_n 0, 1) := by decide +kernel
theorem dX8_sign_18 : decode cX8_sign 18 = .ok (.iconst 1, 1) := by decide +kernel
theorem dX8_sign_19 : decode cX8_sign 19 = .ok (.invokevirtual 57, 3) := by decide +kernel
theorem dX8_sign_22 : decode cX8_sign 22 = .ok (.ireturn, 1) := by decide +kernel
theorem dX8_sign_23 : decode cX8_sign 23 = .ok (.aload_n 0, 1) := by decide +kernel
theorem dX8_sign_24 : decode cX8_sign 24 = .ok (.getfield 12, 3) := by decide +kernel
theorem dX8_sign_27 : decode cX8_sign 27 = .ok (.aload_n 0, 1) := by decide +kernel
theorem dX8_sign_28 : decode cX8_sign 28 = .ok (.getfield 12, 3) := by decide +kernel
theorem dX8_sign_31 : decode cX8_sign 31 = .ok (.getfield 78, 3) := by decide +kernel
theorem dX8_sign_34 : decode cX8_sign 34 = .ok (.iload_n 1, 1) := by decide +kernel
theorem dX8_sign_35 : decode cX8_sign 35 = .ok (.iload_n 2, 1) := by decide +kernel
theorem dX8_sign_36 : decode cX8_sign 36 = .ok (.invokevirtual 105, 3) := by decide +kernel
theorem dX8_sign_39 : decode cX8_sign 39 = .ok (.ireturn, 1) := by decide +kernel
set_option maxRecDepth 20000 in
theorem ggX8_feed_X8_no : GoodIn wsX8_feed wsX8_no := goodIn_r _ [8, 9, 10, 11, 12, 13, 14, 15, 16, 17, 18] (by decide +kernel) (by decide +kernel)
set_option maxRecDepth 20000 in
theorem gX8_feed_X8_no : GoodIn wsX8_feed (wsV RX8 57 RX8 yX8_no wsX8_no) := goodIn_app (goodIn_of _ (by decide +kernel)) ggX8_feed_X8_no
theorem dX8_feed_0 : decode cX8_feed 0 = .ok (.iload_n 3, 1) := by decide +kernel
theorem dX8_feed_1 : decode cX8_feed 1 = .ok (.iconst 1, 1) := by decide +kernel
theorem dX8_feed_2 : decode cX8_feed 2 = .ok (.if_icmp .lt 9, 3) := by decide +kernel
theorem dX8_feed_5 : decode cX8_feed 5 = .ok (.iload_n 3, 1) := by decide +kernel
theorem dX8_feed_6 : decode cX8_feed 6 = .ok (.bipush 8, 2) := by decide +kernel
theorem dX8_feed_8 : decode cX8_feed 8 = .ok (.if_icmp .le 9, 3) := by decide +kernel
theorem dX8_feed_11 : decode cX8_feed 11 = .ok (.aload_n 0, 1) := by decide +kernel
theorem dX8_feed_12 : decode cX8_feed 12 = .ok (.iconst 1, 1) := by decide +kernel
theorem dX8_feed_13 : decode cX8_feed 13 = .ok (.invokevirtual 57, 3) := by decide +kernel
theorem dX8_feed_16 : decode cX8_feed 16 = .ok (.ireturn, 1) := by decide +kernel
theorem dX8_feed_17 : decode cX8_feed 17 = .ok (.aload_n 0, 1) := by decide +kernel
theorem dX8_feed_18 : decode cX8_feed 18 = .ok (.getfield 12, 3) := by decide +kernel
theorem dX8_feed_21 : decode cX8_feed 21 = .ok (.getfield 109, 3) := by decide +kernel
theorem dX8_feed_24 : decode cX8_feed 24 = .ok (.bipush 60, 2) := by decide +kernel
theorem dX8_feed_26 : decode cX8_feed 26 = .ok (.iload_n 3, 1) := by decide +kernel
theorem dX8_feed_27 : decode cX8_feed 27 = .ok (.isub, 1) := by decide +kernel
theorem dX8_feed_28 : decode cX8_feed 28 = .ok (.if_icmp .le 9, 3) := by decide +kernel
theorem dX8_feed_31 : decode cX8_feed 31 = .ok (.aload_n 0, 1) := by decide +kernel
theorem dX8_feed_32 : decode cX8_feed 32 = .ok (.iconst 4, 1) := by decide +kernel
theorem dX8_feed_33 : decode cX8_feed 33 = .ok (.invokevirtual 57, 3) := by decide +kernel
theorem dX8_feed_36 : decode cX8_feed 36 = .ok (.ireturn, 1) := by decide +kernel
theorem dX8_feed_37 : decode cX8_feed 37 = .ok (.iconst 0, 1) := by decide +kernel
theorem dX8_feed_38 : decode cX8_feed 38 = .ok (.istore 4, 2) := by decide +kernel
theorem dX8_feed_40 : decode cX8_feed 40 = .ok (.iload 4, 2) := by decide +kernel
theorem dX8_feed_42 : decode cX8_feed 42 = .ok (.iload_n 3, 1) := by decide +kernel
theorem dX8_feed_43 : decode cX8_feed 43 = .ok (.if_icmp .ge 36, 3) := by decide +kernel
theorem dX8_feed_46 : decode cX8_feed 46 = .ok (.aload_n 0, 1) := by decide +kernel
theorem dX8_feed_47 : decode cX8_feed 47 = .ok (.getfield 12, 3) := by decide +kernel
theorem dX8_feed_50 : decode cX8_feed 50 = .ok (.getfield 112, 3) := by decide +kernel
theorem dX8_feed_53 : decode cX8_feed 53 = .ok (.aload_n 0, 1) := by decide +kernel
theorem dX8_feed_54 : decode cX8_feed 54 = .ok (.getfield 12, 3) := by decide +kernel
theorem dX8_feed_57 : decode cX8_feed 57 = .ok (.getfield 109, 3) := by decide +kernel
theorem dX8_feed_60 : decode cX8_feed 60 = .ok (.iload 4, 2) := by decide +kernel
theorem dX8_feed_62 : decode cX8_feed 62 = .ok (.iadd, 1) := by decide +kernel
theorem dX8_feed_63 : decode cX8_feed 63 = .ok (.lload_n 1, 1) := by decide +kernel
theorem dX8_feed_64 : decode cX8_feed 64 = .ok (.bipush 8, 2) := by decide +kernel
theorem dX8_feed_66 : decode cX8_feed 66 = .ok (.iload 4, 2) := by decide +kernel
theorem dX8_feed_68 : decode cX8_feed 68 = .ok (.imul, 1) := by decide +kernel
theorem dX8_feed_69 : decode cX8_feed 69 = .ok (.lushr, 1) := by decide +kernel
theorem dX8_feed_70 : decode cX8_feed 70 = .ok (.l2i, 1) := by decide +kernel
theorem dX8_feed_71 : decode cX8_feed 71 = .ok (.i2b, 1) := by decide +kernel
theorem dX8_feed_72 : decode cX8_feed 72 = .ok (.bastore, 1) := by decide +kernel
theorem dX8_feed_73 : decode cX8_feed 73 = .ok (.iinc 4 1, 3) := by decide +kernel
theorem dX8_feed_76 : decode cX8_feed 76 = .ok (.goto (-36), 3) := by decide +kernel
theorem dX8_feed_79 : decode cX8_feed 79 = .ok (.aload_n 0, 1) := by decide +kernel
theorem dX8_feed_80 : decode cX8_feed 80 = .ok (.getfield 12, 3) := by decide +kernel
theorem dX8_feed_83 : decode cX8_feed 83 = .ok (.dup, 1) := by decide +kernel
theorem dX8_feed_84 : decode cX8_feed 84 = .ok (.getfield 109, 3) := by decide +kernel
theorem dX8_feed_87 : decode cX8_feed 87 = .ok (.iload_n 3, 1) := by decide +kernel
theorem dX8_feed_88 : decode cX8_feed 88 = .ok (.iadd, 1) := by decide +kernel
theorem dX8_feed_89 : decode cX8_feed 89 = .ok (.putfield 109, 3) := by decide +kernel
theorem dX8_feed_92 : decode cX8_feed 92 = .ok (.aload_n 0, 1) := by decide +kernel
theorem dX8_feed_93 : decode cX8_feed 93 = .ok (.getfield 12, 3) := by decide +kernel
theorem dX8_feed_96 : decode cX8_feed 96 = .ok (.getfield 109, 3) := by decide +kernel
theorem dX8_feed_99 : decode cX8_feed 99 = .ok (.ireturn, 1) := by decide +kernel
set_option maxRecDepth 20000 in
theorem ggX8_text_X8_isUse : GoodIn wsX8_text wsX8_isUse := goodIn_r _ [10, 11, 12, 9, 13] (by decide +kernel) (by decide +kernel)
set_option maxRecDepth 20000 in
theorem gX8_text_X8_isUse : GoodIn wsX8_text (va_wsS RX8 116 yX8_isUse wsX8_isUse) := goodIn_app (goodIn_of _ (by decide +kernel)) ggX8_text_X8_isUse
set_option maxRecDepth 20000 in
theorem ggX8_text_X8_no : GoodIn wsX8_text wsX8_no := goodIn_r _ [17, 18, 19, 182, 183, 184, 185, 186, 187, 188, 189] (by decide +kernel) (by decide +kernel)
set_option maxRecDepth 20000 in
theorem gX8_text_X8_no : GoodIn wsX8_text (wsV RX8 57 RX8 yX8_no wsX8_no) := goodIn_app (goodIn_of _ (by decide +kernel)) ggX8_text_X8_no
set_option maxRecDepth 20000 in
theorem ggX8_text_X4_faultIn : GoodIn wsX8_text wsX4_faultIn := goodIn_r _ [24, 25, 26, 27, 28, 29, 30, 31, 32, 33, 34, 35, 36, 37, 38, 39, 40, 41, 42, 43, 23, 44, 45, 46, 47, 48, 49, 50, 51, 52, 53, 54, 55, 56, 57, 58, 59, 60, 61, 62, 63, 64, 65, 66, 67, 68, 69, 70, 71, 72, 73, 74, 75, 76, 77, 78, 79, 80, 81, 82, 83, 84, 85, 86, 87, 88, 89, 90, 91, 92, 93, 94, 95, 96, 97, 98, 99, 100, 101, 102, 103, 104, 105, 106, 107, 108, 109, 110, 111, 112, 113, 114, 115, 116, 117, 118, 119, 120, 121, 122, 123, 124, 125, 126, 127, 128, 129, 130, 131, 132, 133, 134, 135, 136, 137, 138, 139, 140, 141, 142, 143, 144, 145, 146, 147, 148, 149, 150, 151, 152, 153, 154, 155, 156, 157, 158, 159, 203, 204, 205, 206, 207, 208] (by decide +kernel) (by decide +kernel)
set_option maxRecDepth 20000 in
theorem gX8_text_X4_faultIn : GoodIn wsX8_text (wsV RX8 123 RX4 yX4_faultIn wsX4_faultIn) := goodIn_app (goodIn_of _ (by decide +kernel)) ggX8_text_X4_faultIn
set_option maxRecDepth 20000 in
theorem ggX8_text_X7_lawOf : GoodIn wsX8_text wsX7_lawOf := goodIn_r _ [164, 165, 166, 190, 191, 192, 193, 194, 195, 196, 197, 198, 199, 200, 201, 202] (by decide +kernel) (by decide +kernel)
set_option maxRecDepth 20000 in
theorem gX8_text_X7_lawOf : GoodIn wsX8_text (wsV RX8 127 RX7 yX7_lawOf wsX7_lawOf) := goodIn_app (goodIn_of _ (by decide +kernel)) ggX8_text_X7_lawOf
set_option maxRecDepth 20000 in
theorem ggX8_text_X1_take : GoodIn wsX8_text wsX1_take := goodIn_r _ [171, 172, 173, 27, 28, 29, 174, 31, 32, 175, 176, 35, 36, 37, 177, 178, 179, 180, 181, 209, 210, 211, 212, 213, 214, 215] (by decide +kernel) (by decide +kernel)
set_option maxRecDepth 20000 in
theorem gX8_text_X1_take : GoodIn wsX8_text (wsV RX8 137 RX1 yX1_take wsX1_take) := goodIn_app (goodIn_of _ (by decide +kernel)) ggX8_text_X1_take
theorem dX8_text_0 : decode cX8_text 0 = .ok (.iload_n 1, 1) := by decide +kernel
theorem dX8_text_1 : decode cX8_text 1 = .ok (.invokestatic 116, 3) := by decide +kernel
theorem dX8_text_4 : decode cX8_text 4 = .ok (.ifCond .ne 9, 3) := by decide +kernel
theorem dX8_text_7 : decode cX8_text 7 = .ok (.aload_n 0, 1) := by decide +kernel
theorem dX8_text_8 : decode cX8_text 8 = .ok (.iconst 1, 1) := by decide +kernel
theorem dX8_text_9 : decode cX8_text 9 = .ok (.invokevirtual 57, 3) := by decide +kernel
theorem dX8_text_12 : decode cX8_text 12 = .ok (.ireturn, 1) := by decide +kernel
theorem dX8_text_13 : decode cX8_text 13 = .ok (.aload_n 0, 1) := by decide +kernel
theorem dX8_text_14 : decode cX8_text 14 = .ok (.getfield 31, 3) := by decide +kernel
theorem dX8_text_17 : decode cX8_text 17 = .ok (.aload_n 0, 1) := by decide +kernel
theorem dX8_text_18 : decode cX8_text 18 = .ok (.getfield 12, 3) := by decide +kernel
theorem dX8_text_21 : decode cX8_text 21 = .ok (.getfield 112, 3) := by decide +kernel
theorem dX8_text_24 : decode cX8_text 24 = .ok (.aload_n 0, 1) := by decide +kernel
theorem dX8_text_25 : decode cX8_text 25 = .ok (.getfield 12, 3) := by decide +kernel
theorem dX8_text_28 : decode cX8_text 28 = .ok (.getfield 109, 3) := by decide +kernel
theorem dX8_text_31 : decode cX8_text 31 = .ok (.iload_n 1, 1) := by decide +kernel
theorem dX8_text_32 : decode cX8_text 32 = .ok (.ifCond .ne 8, 3) := by decide +kernel
theorem dX8_text_35 : decode cX8_text 35 = .ok (.ldc 119, 2) := by decide +kernel
theorem dX8_text_37 : decode cX8_text 37 = .ok (.goto 5, 3) := by decide +kernel
theorem dX8_text_40 : decode cX8_text 40 = .ok (.ldc 121, 2) := by decide +kernel
theorem dX8_text_42 : decode cX8_text 42 = .ok (.invokevirtual 123, 3) := by decide +kernel
theorem dX8_text_45 : decode cX8_text 45 = .ok (.istore_n 2, 1) := by decide +kernel
theorem dX8_text_46 : decode cX8_text 46 = .ok (.aload_n 0, 1) := by decide +kernel
theorem dX8_text_47 : decode cX8_text 47 = .ok (.getfield 12, 3) := by decide +kernel
theorem dX8_text_50 : decode cX8_text 50 = .ok (.iconst 0, 1) := by decide +kernel
theorem dX8_text_51 : decode cX8_text 51 = .ok (.putfield 109, 3) := by decide +kernel
theorem dX8_text_54 : decode cX8_text 54 = .ok (.iload_n 2, 1) := by decide +kernel
theorem dX8_text_55 : decode cX8_text 55 = .ok (.ifCond .lt 8, 3) := by decide +kernel
theorem dX8_text_58 : decode cX8_text 58 = .ok (.bipush (-10), 2) := by decide +kernel
theorem dX8_text_60 : decode cX8_text 60 = .ok (.iload_n 2, 1) := by decide +kernel
theorem dX8_text_61 : decode cX8_text 61 = .ok (.isub, 1) := by decide +kernel
theorem dX8_text_62 : decode cX8_text 62 = .ok (.ireturn, 1) := by decide +kernel
theorem dX8_text_63 : decode cX8_text 63 = .ok (.aload_n 0, 1) := by decide +kernel
theorem dX8_text_64 : decode cX8_text 64 = .ok (.getfield 12, 3) := by decide +kernel
theorem dX8_text_67 : decode cX8_text 67 = .ok (.iload_n 1, 1) := by decide +kernel
theorem dX8_text_68 : decode cX8_text 68 = .ok (.invokevirtual 127, 3) := by decide +kernel
theorem dX8_text_71 : decode cX8_text 71 = .ok (.aload_n 0, 1) := by decide +kernel
theorem dX8_text_72 : decode cX8_text 72 = .ok (.getfield 31, 3) := by decide +kernel
theorem dX8_text_75 : decode cX8_text 75 = .ok (.getfield 131, 3) := by decide +kernel
theorem dX8_text_78 : decode cX8_text 78 = .ok (.aload_n 0, 1) := by decide +kernel
theorem dX8_text_79 : decode cX8_text 79 = .ok (.getfield 31, 3) := by decide +kernel
theorem dX8_text_82 : decode cX8_text 82 = .ok (.getfield 134, 3) := by decide +kernel
theorem dX8_text_85 : decode cX8_text 85 = .ok (.invokevirtual 137, 3) := by decide +kernel
theorem dX8_text_88 : decode cX8_text 88 = .ok (.iconst 1, 1) := by decide +kernel
theorem dX8_text_89 : decode cX8_text 89 = .ok (.ireturn, 1) := by decide +kernel
set_option maxRecDepth 20000 in
theorem ggX8_untell_X8_isUse : GoodIn wsX8_untell wsX8_isUse := goodIn_r _ [6, 7, 8, 5, 9] (by decide +kernel) (by decide +kernel)
set_option maxRecDepth 20000 in
theorem gX8_untell_X8_isUse : GoodIn wsX8_untell (va_wsS RX8 116 yX8_isUse wsX8_isUse) := goodIn_app (goodIn_of _ (by decide +kernel)) ggX8_untell_X8_isUse
set_option maxRecDepth 20000 in
theorem ggX8_untell_X8_no : GoodIn wsX8_untell wsX8_no := goodIn_r _ [13, 14, 15, 34, 35, 36, 37, 38, 39, 40, 41] (by decide +kernel) (by decide +kernel)
set_option maxRecDepth 20000 in
theorem gX8_untell_X8_no : GoodIn wsX8_untell (wsV RX8 57 RX8 yX8_no wsX8_no) := goodIn_app (goodIn_of _ (by decide +kernel)) ggX8_untell_X8_no
set_option maxRecDepth 20000 in
theorem ggX8_untell_X7_lawOf : GoodIn wsX8_untell wsX7_lawOf := goodIn_r _ [20, 21, 22, 49, 50, 51, 52, 53, 54, 55, 56, 57, 58, 59, 60, 61] (by decide +kernel) (by decide +kernel)
set_option maxRecDepth 20000 in
theorem gX8_untell_X7_lawOf : GoodIn wsX8_untell (wsV RX8 127 RX7 yX7_lawOf wsX7_lawOf) := goodIn_app (goodIn_of _ (by decide +kernel)) ggX8_untell_X7_lawOf
set_option maxRecDepth 20000 in
theorem ggX8_untell_X1_drop : GoodIn wsX8_untell wsX1_drop := goodIn_r _ [27, 28, 29, 30, 31, 32, 33, 42, 43, 44, 45, 46, 47, 48] (by decide +kernel) (by decide +kernel)
set_option maxRecDepth 20000 in
theorem gX8_untell_X1_drop : GoodIn wsX8_untell (wsV RX8 144 RX1 yX1_drop wsX1_drop) := goodIn_app (goodIn_of _ (by decide +kernel)) ggX8_untell_X1_drop
theorem dX8_untell_0 : decode cX8_untell 0 = .ok (.iload_n 1, 1) := by decide +kernel
theorem dX8_untell_1 : decode cX8_untell 1 = .ok (.invokestatic 116, 3) := by decide +kernel
theorem dX8_untell_4 : decode cX8_untell 4 = .ok (.ifCond .ne 9, 3) := by decide +kernel
theorem dX8_untell_7 : decode cX8_untell 7 = .ok (.aload_n 0, 1) := by decide +kernel
theorem dX8_untell_8 : decode cX8_untell 8 = .ok (.iconst 1, 1) := by decide +kernel
theorem dX8_untell_9 : decode cX8_untell 9 = .ok (.invokevirtual 57, 3) := by decide +kernel
theorem dX8_untell_12 : decode cX8_untell 12 = .ok (.ireturn, 1) := by decide +kernel
theorem dX8_untell_13 : decode cX8_untell 13 = .ok (.aload_n 0, 1) := by decide +kernel
theorem dX8_untell_14 : decode cX8_untell 14 = .ok (.getfield 12, 3) := by decide +kernel
theorem dX8_untell_17 : decode cX8_untell 17 = .ok (.iload_n 1, 1) := by decide +kernel
theorem dX8_untell_18 : decode cX8_untell 18 = .ok (.invokevirtual 127, 3) := by decide +kernel
theorem dX8_untell_21 : decode cX8_untell 21 = .ok (.astore_n 2, 1) := by decide +kernel
theorem dX8_untell_22 : decode cX8_untell 22 = .ok (.aload_n 2, 1) := by decide +kernel
theorem dX8_untell_23 : decode cX8_untell 23 = .ok (.getfield 143, 3) := by decide +kernel
theorem dX8_untell_26 : decode cX8_untell 26 = .ok (.ifCond .le 7, 3) := by decide +kernel
theorem dX8_untell_29 : decode cX8_untell 29 = .ok (.iconst 1, 1) := by decide +kernel
theorem dX8_untell_30 : decode cX8_untell 30 = .ok (.goto 4, 3) := by decide +kernel
theorem dX8_untell_33 : decode cX8_untell 33 = .ok (.iconst 0, 1) := by decide +kernel
theorem dX8_untell_34 : decode cX8_untell 34 = .ok (.istore_n 3, 1) := by decide +kernel
theorem dX8_untell_35 : decode cX8_untell 35 = .ok (.aload_n 2, 1) := by decide +kernel
theorem dX8_untell_36 : decode cX8_untell 36 = .ok (.invokevirtual 144, 3) := by decide +kernel
theorem dX8_untell_39 : decode cX8_untell 39 = .ok (.iload_n 3, 1) := by decide +kernel
theorem dX8_untell_40 : decode cX8_untell 40 = .ok (.ireturn, 1) := by decide +kernel
set_option maxRecDepth 20000 in
theorem ggX8_law_X8_isUse : GoodIn wsX8_law wsX8_isUse := goodIn_r _ [5, 6, 7, 4, 8] (by decide +kernel) (by decide +kernel)
set_option maxRecDepth 20000 in
theorem gX8_law_X8_isUse : GoodIn wsX8_law (va_wsS RX8 116 yX8_isUse wsX8_isUse) := goodIn_app (goodIn_of _ (by decide +kernel)) ggX8_law_X8_isUse
set_option maxRecDepth 20000 in
theorem ggX8_law_X7_lawOf : GoodIn wsX8_law wsX7_lawOf := goodIn_r _ [13, 14, 15, 60, 61, 62, 63, 64, 65, 66, 67, 68, 69, 70, 71, 72] (by decide +kernel) (by decide +kernel)
set_option maxRecDepth 20000 in
theorem gX8_law_X7_lawOf : GoodIn wsX8_law (wsV RX8 127 RX7 yX7_lawOf wsX7_lawOf) := goodIn_app (goodIn_of _ (by decide +kernel)) ggX8_law_X7_lawOf
set_option maxRecDepth 20000 in
theorem ggX8_law_X1_gives : GoodIn wsX8_law wsX1_gives := goodIn_r _ [20, 21, 22, 23, 24, 19, 25, 26, 27, 28, 29, 30, 31, 32, 33, 34, 35, 36, 37, 38, 39, 40, 41, 42, 43, 44, 45, 73, 74, 75, 76, 77, 78, 79] (by decide +kernel) (by decide +kernel)
set_option maxRecDepth 20000 in
theorem gX8_law_X1_gives : GoodIn wsX8_law (wsV RX8 147 RX1 yX1_gives wsX1_gives) := goodIn_app (goodIn_of _ (by decide +kernel)) ggX8_law_X1_gives
set_option maxRecDepth 20000 in
theorem ggX8_law_X8_no : GoodIn wsX8_law wsX8_no := goodIn_r _ [49, 50, 51, 52, 53, 54, 55, 56, 57, 58, 59] (by decide +kernel) (by decide +kernel)
set_option maxRecDepth 20000 in
theorem gX8_law_X8_no : GoodIn wsX8_law (wsV RX8 57 RX8 yX8_no wsX8_no) := goodIn_app (goodIn_of _ (by decide +kernel)) ggX8_law_X8_no
theorem dX8_law_0 : decode cX8_law 0 = .ok (.iload_n 1, 1) := by decide +kernel
theorem dX8_law_1 : decode cX8_law 1 = .ok (.invokestatic 116, 3) := by decide +kernel
theorem dX8_law_4 : decode cX8_law 4 = .ok (.ifCond .eq 21, 3) := by decide +kernel
theorem dX8_law_7 : decode cX8_law 7 = .ok (.aload_n 0, 1) := by decide +kernel
theorem dX8_law_8 : decode cX8_law 8 = .ok (.getfield 12, 3) := by decide +kernel
theorem dX8_law_11 : decode cX8_law 11 = .ok (.iload_n 1, 1) := by decide +kernel
theorem dX8_law_12 : decode cX8_law 12 = .ok (.invokevirtual 127, 3) := by decide +kernel
theorem dX8_law_15 : decode cX8_law 15 = .ok (.iload_n 2, 1) := by decide +kernel
theorem dX8_law_16 : decode cX8_law 16 = .ok (.iload_n 3, 1) := by decide +kernel
theorem dX8_law_17 : decode cX8_law 17 = .ok (.iload 4, 2) := by decide +kernel
theorem dX8_law_19 : decode cX8_law 19 = .ok (.invokevirtual 147, 3) := by decide +kernel
theorem dX8_law_22 : decode cX8_law 22 = .ok (.goto 8, 3) := by decide +kernel
theorem dX8_law_25 : decode cX8_law 25 = .ok (.aload_n 0, 1) := by decide +kernel
theorem dX8_law_26 : decode cX8_law 26 = .ok (.iconst 1, 1) := by decide +kernel
theorem dX8_law_27 : decode cX8_law 27 = .ok (.invokevirtual 57, 3) := by decide +kernel
theorem dX8_law_30 : decode cX8_law 30 = .ok (.ireturn, 1) := by decide +kernel
set_option maxRecDepth 20000 in
theorem ggX8_years_X8_no : GoodIn wsX8_years wsX8_no := goodIn_r _ [8, 9, 10, 103, 104, 105, 106, 107, 108, 109, 110] (by decide +kernel) (by decide +kernel)
set_option maxRecDepth 20000 in
theorem gX8_years_X8_no : GoodIn wsX8_years (wsV RX8 57 RX8 yX8_no wsX8_no) := goodIn_app (goodIn_of _ (by decide +kernel)) ggX8_years_X8_no
set_option maxRecDepth 20000 in
theorem ggX8_years_X7_eventIn : GoodIn wsX8_years wsX7_eventIn := goodIn_r _ [15, 16, 17, 18, 19, 20, 111, 112, 113, 114, 115, 116, 117, 118, 119, 120, 121, 122, 123] (by decide +kernel) (by decide +kernel)
set_option maxRecDepth 20000 in
theorem gX8_years_X7_eventIn : GoodIn wsX8_years (wsV RX8 154 RX7 yX7_eventIn wsX7_eventIn) := goodIn_app (goodIn_of _ (by decide +kernel)) ggX8_years_X7_eventIn
set_option maxRecDepth 20000 in
theorem ggX8_years_X7_pass : GoodIn wsX8_years wsX7_pass := goodIn_r _ [24, 25, 26, 27, 28, 29, 30, 31, 14, 32, 33, 34, 35, 36, 37, 38, 39, 40, 41, 42, 43, 44, 45, 46, 47, 48, 49, 50, 51, 52, 53, 54, 55, 56, 57, 58, 59, 60, 61, 62, 63, 64, 65, 66, 67, 68, 69, 70, 71, 72, 73, 74, 75, 76, 77, 78, 79, 80, 81, 82, 83, 84, 85, 86, 87, 88, 89, 90, 91, 92, 93, 94, 95, 96, 97, 98, 111, 112, 113, 114, 115, 116, 117, 118, 119, 120, 121, 122, 123, 124, 125, 126, 127, 128, 129, 130, 131, 132, 133, 134] (by decide +kernel) (by decide +kernel)
set_option maxRecDepth 20000 in
theorem gX8_years_X7_pass : GoodIn wsX8_years (wsV RX8 157 RX7 yX7_pass wsX7_pass) := goodIn_app (goodIn_of _ (by decide +kernel)) ggX8_years_X7_pass
set_option maxRecDepth 20000 in
theorem ggX8_years_X7_allMarks : GoodIn wsX8_years wsX7_allMarks := goodIn_r _ [102, 26, 27, 111, 112, 113, 114, 115, 116, 117, 118, 119, 120, 121, 122, 123] (by decide +kernel) (by decide +kernel)
set_option maxRecDepth 20000 in
theorem gX8_years_X7_allMarks : GoodIn wsX8_years (wsV RX8 161 RX7 yX7_allMarks wsX7_allMarks) := goodIn_app (goodIn_of _ (by decide +kernel)) ggX8_years_X7_allMarks
theorem dX8_years_0 : decode cX8_years 0 = .ok (.iload_n 1, 1) := by decide +kernel
theorem dX8_years_1 : decode cX8_years 1 = .ok (.iconst 1, 1) := by decide +kernel
theorem dX8_years_2 : decode cX8_years 2 = .ok (.if_icmp .lt 9, 3) := by decide +kernel
theorem dX8_years_5 : decode cX8_years 5 = .ok (.iload_n 1, 1) := by decide +kernel
theorem dX8_years_6 : decode cX8_years 6 = .ok (.bipush 60, 2) := by decide +kernel
theorem dX8_years_8 : decode cX8_years 8 = .ok (.if_icmp .le 9, 3) := by decide +kernel
theorem dX8_years_11 : decode cX8_years 11 = .ok (.aload_n 0, 1) := by decide +kernel
theorem dX8_years_12 : decode cX8_years 12 = .ok (.iconst 1, 1) := by decide +kernel
theorem dX8_years_13 : decode cX8_years 13 = .ok (.invokevirtual 57, 3) := by decide +kernel
theorem dX8_years_16 : decode cX8_years 16 = .ok (.ireturn, 1) := by decide +kernel
theorem dX8_years_17 : decode cX8_years 17 = .ok (.aload_n 0, 1) := by decide +kernel
theorem dX8_years_18 : decode cX8_years 18 = .ok (.getfield 12, 3) := by decide +kernel
theorem dX8_years_21 : decode cX8_years 21 = .ok (.getfield 78, 3) := by decide +kernel
theorem dX8_years_24 : decode cX8_years 24 = .ok (.getfield 151, 3) := by decide +kernel
theorem dX8_years_27 : decode cX8_years 27 = .ok (.sipush 9999, 3) := by decide +kernel
theorem dX8_years_30 : decode cX8_years 30 = .ok (.iload_n 1, 1) := by decide +kernel
theorem dX8_years_31 : decode cX8_years 31 = .ok (.isub, 1) := by decide +kernel
theorem dX8_years_32 : decode cX8_years 32 = .ok (.if_icmp .le 9, 3) := by decide +kernel
theorem dX8_years_35 : decode cX8_years 35 = .ok (.aload_n 0, 1) := by decide +kernel
theorem dX8_years_36 : decode cX8_years 36 = .ok (.iconst 3, 1) := by decide +kernel
theorem dX8_years_37 : decode cX8_years 37 = .ok (.invokevirtual 57, 3) := by decide +kernel
theorem dX8_years_40 : decode cX8_years 40 = .ok (.ireturn, 1) := by decide +kernel
theorem dX8_years_41 : decode cX8_years 41 = .ok (.iconst 0, 1) := by decide +kernel
theorem dX8_years_42 : decode cX8_years 42 = .ok (.istore_n 2, 1) := by decide +kernel
theorem dX8_years_43 : decode cX8_years 43 = .ok (.iload_n 2, 1) := by decide +kernel
theorem dX8_years_44 : decode cX8_years 44 = .ok (.iload_n 1, 1) := by decide +kernel
theorem dX8_years_45 : decode cX8_years 45 = .ok (.if_icmp .ge 33, 3) := by decide +kernel
theorem dX8_years_48 : decode cX8_years 48 = .ok (.aload_n 0, 1) := by decide +kernel
theorem dX8_years_49 : decode cX8_years 49 = .ok (.getfield 12, 3) := by decide +kernel
theorem dX8_years_52 : decode cX8_years 52 = .ok (.aload_n 0, 1) := by decide +kernel
theorem dX8_years_53 : decode cX8_years 53 = .ok (.getfield 12, 3) := by decide +kernel
theorem dX8_years_56 : decode cX8_years 56 = .ok (.aload_n 0, 1) := by decide +kernel
theorem dX8_years_57 : decode cX8_years 57 = .ok (.getfield 12, 3) := by decide +kernel
theorem dX8_years_60 : decode cX8_years 60 = .ok (.getfield 78, 3) := by decide +kernel
theorem dX8_years_63 : decode cX8_years 63 = .ok (.getfield 151, 3) := by decide +kernel
theorem dX8_years_66 : decode cX8_years 66 = .ok (.invokevirtual 154, 3) := by decide +kernel
theorem dX8_years_69 : decode cX8_years 69 = .ok (.invokevirtual 157, 3) := by decide +kernel
theorem dX8_years_72 : decode cX8_years 72 = .ok (.iinc 2 1, 3) := by decide +kernel
theorem dX8_years_75 : decode cX8_years 75 = .ok (.goto (-32), 3) := by decide +kernel
theorem dX8_years_78 : decode cX8_years 78 = .ok (.aload_n 0, 1) := by decide +kernel
theorem dX8_years_79 : decode cX8_years 79 = .ok (.getfield 12, 3) := by decide +kernel
theorem dX8_years_82 : decode cX8_years 82 = .ok (.invokevirtual 161, 3) := by decide +kernel
theorem dX8_years_85 : decode cX8_years 85 = .ok (.ireturn, 1) := by decide +kernel
set_option maxRecDepth 20000 in
theorem ggX8_loose_X8_no : GoodIn wsX8_loose wsX8_no := goodIn_r _ [8, 9, 10, 100, 101, 102, 103, 104, 105, 106, 107] (by decide +kernel) (by decide +kernel)
set_option maxRecDepth 20000 in
theorem gX8_loose_X8_no : GoodIn wsX8_loose (wsV RX8 57 RX8 yX8_no wsX8_no) := goodIn_app (goodIn_of _ (by decide +kernel)) ggX8_loose_X8_no
set_option maxRecDepth 20000 in
theorem ggX8_loose_X7_draw : GoodIn wsX8_loose wsX7_draw := goodIn_r _ [15, 16, 17, 108, 109, 110, 111, 112, 113, 114, 115, 116, 117, 118, 119, 120] (by decide +kernel) (by decide +kernel)
set_option maxRecDepth 20000 in
theorem gX8_loose_X7_draw : GoodIn wsX8_loose (wsV RX8 165 RX7 yX7_draw wsX7_draw) := goodIn_app (goodIn_of _ (by decide +kernel)) ggX8_loose_X7_draw
set_option maxRecDepth 20000 in
theorem ggX8_loose_X7_pass : GoodIn wsX8_loose wsX7_pass := goodIn_r _ [21, 22, 23, 24, 25, 26, 27, 28, 14, 29, 30, 31, 32, 33, 34, 35, 36, 37, 38, 39, 40, 41, 42, 43, 44, 45, 46, 47, 48, 49, 50, 51, 52, 53, 54, 55, 56, 57, 58, 59, 60, 61, 62, 63, 64, 65, 66, 67, 68, 69, 70, 71, 72, 73, 74, 75, 76, 77, 78, 79, 80, 81, 82, 83, 84, 85, 86, 87, 88, 89, 90, 91, 92, 93, 94, 95, 108, 109, 110, 111, 112, 113, 114, 115, 116, 117, 118, 119, 120, 121, 122, 123, 124, 125, 126, 127, 128, 129, 130, 131] (by decide +kernel) (by decide +kernel)
set_option maxRecDepth 20000 in
theorem gX8_loose_X7_pass : GoodIn wsX8_loose (wsV RX8 157 RX7 yX7_pass wsX7_pass) := goodIn_app (goodIn_of _ (by decide +kernel)) ggX8_loose_X7_pass
set_option maxRecDepth 20000 in
theorem ggX8_loose_X7_allMarks : GoodIn wsX8_loose wsX7_allMarks := goodIn_r _ [99, 23, 24, 108, 109, 110, 111, 112, 113, 114, 115, 116, 117, 118, 119, 120] (by decide +kernel) (by decide +kernel)
set_option maxRecDepth 20000 in
theorem gX8_loose_X7_allMarks : GoodIn wsX8_loose (wsV RX8 161 RX7 yX7_allMarks wsX7_allMarks) := goodIn_app (goodIn_of _ (by decide +kernel)) ggX8_loose_X7_allMarks
theorem dX8_loose_0 : decode cX8_loose 0 = .ok (.iload_n 1, 1) := by decide +kernel
theorem dX8_loose_1 : decode cX8_loose 1 = .ok (.iconst 1, 1) := by decide +kernel
theorem dX8_loose_2 : decode cX8_loose 2 = .ok (.if_icmp .lt 9, 3) := by decide +kernel
theorem dX8_loose_5 : decode cX8_loose 5 = .ok (.iload_n 1, 1) := by decide +kernel
theorem dX8_loose_6 : decode cX8_loose 6 = .ok (.bipush 30, 2) := by decide +kernel
theorem dX8_loose_8 : decode cX8_loose 8 = .ok (.if_icmp .le 9, 3) := by decide +kernel
theorem dX8_loose_11 : decode cX8_loose 11 = .ok (.aload_n 0, 1) := by decide +kernel
theorem dX8_loose_12 : decode cX8_loose 12 = .ok (.iconst 1, 1) := by decide +kernel
theorem dX8_loose_13 : decode cX8_loose 13 = .ok (.invokevirtual 57, 3) := by decide +kernel
theorem dX8_loose_16 : decode cX8_loose 16 = .ok (.ireturn, 1) := by decide +kernel
theorem dX8_loose_17 : decode cX8_loose 17 = .ok (.aload_n 0, 1) := by decide +kernel
theorem dX8_loose_18 : decode cX8_loose 18 = .ok (.getfield 12, 3) := by decide +kernel
theorem dX8_loose_21 : decode cX8_loose 21 = .ok (.getfield 78, 3) := by decide +kernel
theorem dX8_loose_24 : decode cX8_loose 24 = .ok (.getfield 151, 3) := by decide +kernel
theorem dX8_loose_27 : decode cX8_loose 27 = .ok (.sipush 9999, 3) := by decide +kernel
theorem dX8_loose_30 : decode cX8_loose 30 = .ok (.iload_n 1, 1) := by decide +kernel
theorem dX8_loose_31 : decode cX8_loose 31 = .ok (.isub, 1) := by decide +kernel
theorem dX8_loose_32 : decode cX8_loose 32 = .ok (.if_icmp .le 9, 3) := by decide +kernel
theorem dX8_loose_35 : decode cX8_loose 35 = .ok (.aload_n 0, 1) := by decide +kernel
theorem dX8_loose_36 : decode cX8_loose 36 = .ok (.iconst 3, 1) := by decide +kernel
theorem dX8_loose_37 : decode cX8_loose 37 = .ok (.invokevirtual 57, 3) := by decide +kernel
theorem dX8_loose_40 : decode cX8_loose 40 = .ok (.ireturn, 1) := by decide +kernel
theorem dX8_loose_41 : decode cX8_loose 41 = .ok (.iconst 0, 1) := by decide +kernel
theorem dX8_loose_42 : decode cX8_loose 42 = .ok (.istore_n 2, 1) := by decide +kernel
theorem dX8_loose_43 : decode cX8_loose 43 = .ok (.iload_n 2, 1) := by decide +kernel
theorem dX8_loose_44 : decode cX8_loose 44 = .ok (.iload_n 1, 1) := by decide +kernel
theorem dX8_loose_45 : decode cX8_loose 45 = .ok (.if_icmp .ge 27, 3) := by decide +kernel
theorem dX8_loose_48 : decode cX8_loose 48 = .ok (.aload_n 0, 1) := by decide +kernel
theorem dX8_loose_49 : decode cX8_loose 49 = .ok (.getfield 12, 3) := by decide +kernel
theorem dX8_loose_52 : decode cX8_loose 52 = .ok (.aload_n 0, 1) := by decide +kernel
theorem dX8_loose_53 : decode cX8_loose 53 = .ok (.getfield 12, 3) := by decide +kernel
theorem dX8_loose_56 : decode cX8_loose 56 = .ok (.invokevirtual 165, 3) := by decide +kernel
theorem dX8_loose_59 : decode cX8_loose 59 = .ok (.sipush 256, 3) := by decide +kernel
theorem dX8_loose_62 : decode cX8_loose 62 = .ok (.irem, 1) := by decide +kernel
theorem dX8_loose_63 : decode cX8_loose 63 = .ok (.invokevirtual 157, 3) := by decide +kernel
theorem dX8_loose_66 : decode cX8_loose 66 = .ok (.iinc 2 1, 3) := by decide +kernel
theorem dX8_loose_69 : decode cX8_loose 69 = .ok (.goto (-26), 3) := by decide +kernel
theorem dX8_loose_72 : decode cX8_loose 72 = .ok (.aload_n 0, 1) := by decide +kernel
theorem dX8_loose_73 : decode cX8_loose 73 = .ok (.getfield 12, 3) := by decide +kernel
theorem dX8_loose_76 : decode cX8_loose 76 = .ok (.invokevirtual 161, 3) := by decide +kernel
theorem dX8_loose_79 : decode cX8_loose 79 = .ok (.ireturn, 1) := by decide +kernel
set_option maxRecDepth 20000 in
theorem ggX8_year_X8_within : GoodIn wsX8_year wsX8_within := goodIn_r _ [7] (by decide +kernel) (by decide +kernel)
set_option maxRecDepth 20000 in
theorem gX8_year_X8_within : GoodIn wsX8_year (va_wsS RX8 53 yX8_within wsX8_within) := goodIn_app (goodIn_of _ (by decide +kernel)) ggX8_year_X8_within
set_option maxRecDepth 20000 in
theorem ggX8_year_X8_no : GoodIn wsX8_year wsX8_no := goodIn_r _ [11, 12, 13, 14, 15, 16, 17, 18, 19, 20, 21] (by decide +kernel) (by decide +kernel)
set_option maxRecDepth 20000 in
theorem gX8_year_X8_no : GoodIn wsX8_year (wsV RX8 57 RX8 yX8_no wsX8_no) := goodIn_app (goodIn_of _ (by decide +kernel)) ggX8_year_X8_no
theorem dX8_year_0 : decode cX8_year 0 = .ok (.iload_n 1, 1) := by decide +kernel
theorem dX8_year_1 : decode cX8_year 1 = .ok (.sipush 9999, 3) := by decide +kernel
theorem dX8_year_4 : decode cX8_year 4 = .ok (.invokestatic 53, 3) := by decide +kernel
theorem dX8_year_7 : decode cX8_year 7 = .ok (.ifCond .ne 9, 3) := by decide +kernel
theorem dX8_year_10 : decode cX8_year 10 = .ok (.aload_n 0, 1) := by decide +kernel
theorem dX8_year_11 : decode cX8_year 11 = .ok (.iconst 1, 1) := by decide +kernel
theorem dX8_year_12 : decode cX8_year 12 = .ok (.invokevirtual 57, 3) := by decide +kernel
theorem dX8_year_15 : decode cX8_year 15 = .ok (.ireturn, 1) := by decide +kernel
theorem dX8_year_16 : decode cX8_year 16 = .ok (.aload_n 0, 1) := by decide +kernel
theorem dX8_year_17 : decode cX8_year 17 = .ok (.getfield 12, 3) := by decide +kernel
theorem dX8_year_20 : decode cX8_year 20 = .ok (.getfield 78, 3) := by decide +kernel
theorem dX8_year_23 : decode cX8_year 23 = .ok (.getfield 151, 3) := by decide +kernel
theorem dX8_year_26 : decode cX8_year 26 = .ok (.istore_n 2, 1) := by decide +kernel
theorem dX8_year_27 : decode cX8_year 27 = .ok (.aload_n 0, 1) := by decide +kernel
theorem dX8_year_28 : decode cX8_year 28 = .ok (.getfield 12, 3) := by decide +kernel
theorem dX8_year_31 : decode cX8_year 31 = .ok (.getfield 78, 3) := by decide +kernel
theorem dX8_year_34 : decode cX8_year 34 = .ok (.iload_n 1, 1) := by decide +kernel
theorem dX8_year_35 : decode cX8_year 35 = .ok (.putfield 151, 3) := by decide +kernel
theorem dX8_year_38 : decode cX8_year 38 = .ok (.iload_n 2, 1) := by decide +kernel
theorem dX8_year_39 : decode cX8_year 39 = .ok (.ireturn, 1) := by decide +kernel
theorem dX8_seed_0 : decode cX8_seed 0 = .ok (.aload_n 0, 1) := by decide +kernel
theorem dX8_seed_1 : decode cX8_seed 1 = .ok (.getfield 12, 3) := by decide +kernel
theorem dX8_seed_4 : decode cX8_seed 4 = .ok (.getfield 168, 3) := by decide +kernel
theorem dX8_seed_7 : decode cX8_seed 7 = .ok (.istore_n 2, 1) := by decide +kernel
theorem dX8_seed_8 : decode cX8_seed 8 = .ok (.aload_n 0, 1) := by decide +kernel
theorem dX8_seed_9 : decode cX8_seed 9 = .ok (.getfield 12, 3) := by decide +kernel
theorem dX8_seed_12 : decode cX8_seed 12 = .ok (.iload_n 1, 1) := by decide +kernel
theorem dX8_seed_13 : decode cX8_seed 13 = .ok (.putfield 168, 3) := by decide +kernel
theorem dX8_seed_16 : decode cX8_seed 16 = .ok (.iload_n 2, 1) := by decide +kernel
theorem dX8_seed_17 : decode cX8_seed 17 = .ok (.ireturn, 1) := by decide +kernel
set_option maxRecDepth 20000 in
theorem ggX8_then_X8_isLion : GoodIn wsX8_then wsX8_isLion := goodIn_r _ [6, 7, 8, 5, 9] (by decide +kernel) (by decide +kernel)
set_option maxRecDepth 20000 in
theorem gX8_then_X8_isLion : GoodIn wsX8_then (va_wsS RX8 96 yX8_isLion wsX8_isLion) := goodIn_app (goodIn_of _ (by decide +kernel)) ggX8_then_X8_isLion
set_option maxRecDepth 20000 in
theorem ggX8_then_X8_within : GoodIn wsX8_then wsX8_within := goodIn_r _ [9] (by decide +kernel) (by decide +kernel)
set_option maxRecDepth 20000 in
theorem gX8_then_X8_within : GoodIn wsX8_then (va_wsS RX8 53 yX8_within wsX8_within) := goodIn_app (goodIn_of _ (by decide +kernel)) ggX8_then_X8_within
set_option maxRecDepth 20000 in
theorem ggX8_then_X8_no : GoodIn wsX8_then wsX8_no := goodIn_r _ [13, 14, 15, 104, 105, 106, 107, 108, 109, 110, 111] (by decide +kernel) (by decide +kernel)
set_option maxRecDepth 20000 in
theorem gX8_then_X8_no : GoodIn wsX8_then (wsV RX8 57 RX8 yX8_no wsX8_no) := goodIn_app (goodIn_of _ (by decide +kernel)) ggX8_then_X8_no
set_option maxRecDepth 20000 in
theorem ggX8_then_X5_jawAfter : GoodIn wsX8_then wsX5_jawAfter := goodIn_r _ [20, 21, 22, 23, 24, 25, 26, 27, 28, 29, 30, 31, 32, 33, 34, 35, 36, 37, 38, 19, 39, 40, 41, 42, 43, 44, 45, 46, 47, 48, 49, 50, 51, 52, 53, 54, 55, 56, 57, 58, 59, 60, 61, 62, 63, 64, 65, 66, 67, 68, 69, 70, 71, 72, 73, 74, 75, 76, 77, 78, 79, 80, 81, 82, 83, 84, 85, 86, 87, 88, 89, 90, 91, 92, 93, 94, 95, 96, 97, 98, 99, 100, 101, 102, 103, 112, 113, 114, 115, 116, 117, 118, 119, 120, 121, 122, 123, 124, 125, 126, 127, 128, 129, 130, 131, 132, 133, 134, 135, 136, 137, 138, 139, 140, 141, 142] (by decide +kernel) (by decide +kernel)
set_option maxRecDepth 20000 in
theorem gX8_then_X5_jawAfter : GoodIn wsX8_then (wsV RX8 171 RX5 yX5_jawAfter wsX5_jawAfter) := goodIn_app (goodIn_of _ (by decide +kernel)) ggX8_then_X5_jawAfter
theorem dX8_then_0 : decode cX8_then 0 = .ok (.iload_n 1, 1) := by decide +kernel
theorem dX8_then_1 : decode cX8_then 1 = .ok (.invokestatic 96, 3) := by decide +kernel
theorem dX8_then_4 : decode cX8_then 4 = .ok (.ifCond .eq 12, 3) := by decide +kernel
theorem dX8_then_7 : decode cX8_then 7 = .ok (.iload_n 2, 1) := by decide +kernel
theorem dX8_then_8 : decode cX8_then 8 = .ok (.bipush 60, 2) := by decide +kernel
theorem dX8_then_10 : decode cX8_then 10 = .ok (.invokestatic 53, 3) := by decide +kernel
theorem dX8_then_13 : decode cX8_then 13 = .ok (.ifCond .ne 9, 3) := by decide +kernel
theorem dX8_then_16 : decode cX8_then 16 = .ok (.aload_n 0, 1) := by decide +kernel
theorem dX8_then_17 : decode cX8_then 17 = .ok (.iconst 1, 1) := by decide +kernel
theorem dX8_then_18 : decode cX8_then 18 = .ok (.invokevirtual 57, 3) := by decide +kernel
theorem dX8_then_21 : decode cX8_then 21 = .ok (.ireturn, 1) := by decide +kernel
theorem dX8_then_22 : decode cX8_then 22 = .ok (.aload_n 0, 1) := by decide +kernel
theorem dX8_then_23 : decode cX8_then 23 = .ok (.getfield 24, 3) := by decide +kernel
theorem dX8_then_26 : decode cX8_then 26 = .ok (.aload_n 0, 1) := by decide +kernel
theorem dX8_then_27 : decode cX8_then 27 = .ok (.getfield 12, 3) := by decide +kernel
theorem dX8_then_30 : decode cX8_then 30 = .ok (.iload_n 1, 1) := by decide +kernel
theorem dX8_then_31 : decode cX8_then 31 = .ok (.iload_n 2, 1) := by decide +kernel
theorem dX8_then_32 : decode cX8_then 32 = .ok (.invokevirtual 171, 3) := by decide +kernel
theorem dX8_then_35 : decode cX8_then 35 = .ok (.ireturn, 1) := by decide +kernel
set_option maxRecDepth 20000 in
theorem ggX8_marksThen_X8_isReader : GoodIn wsX8_marksThen wsX8_isReader := goodIn_r _ [9, 2, 10, 123, 124, 125, 126, 127, 128, 129, 130, 131, 132, 133, 134, 135, 136, 137, 138, 139, 140, 141, 142, 143] (by decide +kernel) (by decide +kernel)
set_option maxRecDepth 20000 in
theorem gX8_marksThen_X8_isReader : GoodIn wsX8_marksThen (wsV RX8 74 RX8 yX8_isReader wsX8_isReader) := goodIn_app (goodIn_of _ (by decide +kernel)) ggX8_marksThen_X8_isReader
set_option maxRecDepth 20000 in
theorem ggX8_marksThen_X8_within : GoodIn wsX8_marksThen wsX8_within := goodIn_r _ [13] (by decide +kernel) (by decide +kernel)
set_option maxRecDepth 20000 in
theorem gX8_marksThen_X8_within : GoodIn wsX8_marksThen (va_wsS RX8 53 yX8_within wsX8_within) := goodIn_app (goodIn_of _ (by decide +kernel)) ggX8_marksThen_X8_within
set_option maxRecDepth 20000 in
theorem ggX8_marksThen_X8_no : GoodIn wsX8_marksThen wsX8_no := goodIn_r _ [17, 18, 19, 123, 124, 125, 126, 127, 128, 129, 130] (by decide +kernel) (by decide +kernel)
set_option maxRecDepth 20000 in
theorem gX8_marksThen_X8_no : GoodIn wsX8_marksThen (wsV RX8 57 RX8 yX8_no wsX8_no) := goodIn_app (goodIn_of _ (by decide +kernel)) ggX8_marksThen_X8_no
set_option maxRecDepth 20000 in
theorem ggX8_marksThen_X5_marksAfter : GoodIn wsX8_marksThen wsX5_marksAfter := goodIn_r _ [24, 25, 26, 27, 28, 29, 30, 31, 32, 33, 34, 35, 36, 37, 38, 39, 40, 41, 42, 43, 44, 45, 46, 47, 48, 49, 50, 51, 52, 53, 54, 55, 56, 57, 58, 59, 60, 61, 62, 63, 64, 65, 66, 67, 68, 69, 70, 71, 72, 73, 74, 75, 76, 77, 78, 79, 80, 81, 82, 83, 84, 85, 86, 87, 88, 89, 90, 91, 92, 93, 94, 95, 96, 97, 98, 99, 100, 101, 102, 103, 104, 105, 106, 107, 108, 109, 110, 111, 112, 113, 114, 115, 116, 117, 118, 119, 120, 121, 122, 148, 149, 150, 151, 152, 153, 154, 131, 132, 133, 134, 135, 136, 137, 138, 139, 140, 141, 142, 143, 144, 145, 146, 147, 155, 156, 157, 158, 159, 160, 161] (by decide +kernel) (by decide +kernel)
set_option maxRecDepth 20000 in
theorem gX8_marksThen_X5_marksAfter : GoodIn wsX8_marksThen (wsV RX8 175 RX5 yX5_marksAfter wsX5_marksAfter) := goodIn_app (goodIn_of _ (by decide +kernel)) ggX8_marksThen_X5_marksAfter
theorem dX8_marksThen_0 : decode cX8_marksThen 0 = .ok (.aload_n 0, 1) := by decide +kernel
theorem dX8_marksThen_1 : decode cX8_marksThen 1 = .ok (.iload_n 1, 1) := by decide +kernel
theorem dX8_marksThen_2 : decode cX8_marksThen 2 = .ok (.invokevirtual 74, 3) := by decide +kernel
theorem dX8_marksThen_5 : decode cX8_marksThen 5 = .ok (.ifCond .eq 12, 3) := by decide +kernel
theorem dX8_marksThen_8 : decode cX8_marksThen 8 = .ok (.iload_n 2, 1) := by decide +kernel
theorem dX8_marksThen_9 : decode cX8_marksThen 9 = .ok (.bipush 60, 2) := by decide +kernel
theorem dX8_marksThen_11 : decode cX8_marksThen 11 = .ok (.invokestatic 53, 3) := by decide +kernel
theorem dX8_marksThen_14 : decode cX8_marksThen 14 = .ok (.ifCond .ne 9, 3) := by decide +kernel
theorem dX8_marksThen_17 : decode cX8_marksThen 17 = .ok (.aload_n 0, 1) := by decide +kernel
theorem dX8_marksThen_18 : decode cX8_marksThen 18 = .ok (.iconst 1, 1) := by decide +kernel
theorem dX8_marksThen_19 : decode cX8_marksThen 19 = .ok (.invokevirtual 57, 3) := by decide +kernel
theorem dX8_marksThen_22 : decode cX8_marksThen 22 = .ok (.ireturn, 1) := by decide +kernel
theorem dX8_marksThen_23 : decode cX8_marksThen 23 = .ok (.aload_n 0, 1) := by decide +kernel
theorem dX8_marksThen_24 : decode cX8_marksThen 24 = .ok (.getfield 24, 3) := by decide +kernel
theorem dX8_marksThen_27 : decode cX8_marksThen 27 = .ok (.aload_n 0, 1) := by decide +kernel
theorem dX8_marksThen_28 : decode cX8_marksThen 28 = .ok (.getfield 12, 3) := by decide +kernel
theorem dX8_marksThen_31 : decode cX8_marksThen 31 = .ok (.iload_n 1, 1) := by decide +kernel
theorem dX8_marksThen_32 : decode cX8_marksThen 32 = .ok (.iload_n 2, 1) := by decide +kernel
theorem dX8_marksThen_33 : decode cX8_marksThen 33 = .ok (.aload_n 0, 1) := by decide +kernel
theorem dX8_marksThen_34 : decode cX8_marksThen 34 = .ok (.getfield 12, 3) := by decide +kernel
theorem dX8_marksThen_37 : decode cX8_marksThen 37 = .ok (.getfield 78, 3) := by decide +kernel
theorem dX8_marksThen_40 : decode cX8_marksThen 40 = .ok (.getfield 91, 3) := by decide +kernel
theorem dX8_marksThen_43 : decode cX8_marksThen 43 = .ok (.invokevirtual 175, 3) := by decide +kernel
theorem dX8_marksThen_46 : decode cX8_marksThen 46 = .ok (.ireturn, 1) := by decide +kernel
set_option maxRecDepth 20000 in
theorem ggX8_laughs_X8_isLion : GoodIn wsX8_laughs wsX8_isLion := goodIn_r _ [6, 7, 8, 5, 9] (by decide +kernel) (by decide +kernel)
set_option maxRecDepth 20000 in
theorem gX8_laughs_X8_isLion : GoodIn wsX8_laughs (va_wsS RX8 96 yX8_isLion wsX8_isLion) := goodIn_app (goodIn_of _ (by decide +kernel)) ggX8_laughs_X8_isLion
set_option maxRecDepth 20000 in
theorem ggX8_laughs_X8_within : GoodIn wsX8_laughs wsX8_within := goodIn_r _ [9] (by decide +kernel) (by decide +kernel)
set_option maxRecDepth 20000 in
theorem gX8_laughs_X8_within : GoodIn wsX8_laughs (va_wsS RX8 53 yX8_within wsX8_within) := goodIn_app (goodIn_of _ (by decide +kernel)) ggX8_laughs_X8_within
set_option maxRecDepth 20000 in
theorem ggX8_laughs_X8_no : GoodIn wsX8_laughs wsX8_no := goodIn_r _ [13, 14, 15, 104, 105, 106, 107, 108, 109, 110, 111] (by decide +kernel) (by decide +kernel)
set_option maxRecDepth 20000 in
theorem gX8_laughs_X8_no : GoodIn wsX8_laughs (wsV RX8 57 RX8 yX8_no wsX8_no) := goodIn_app (goodIn_of _ (by decide +kernel)) ggX8_laughs_X8_no
set_option maxRecDepth 20000 in
theorem ggX8_laughs_X5_yearsToLaugh : GoodIn wsX8_laughs wsX5_yearsToLaugh := goodIn_r _ [20, 21, 22, 23, 24, 25, 26, 27, 28, 29, 30, 31, 32, 33, 34, 35, 36, 37, 38, 19, 39, 40, 41, 42, 43, 44, 45, 46, 47, 48, 49, 50, 51, 52, 53, 54, 55, 56, 57, 58, 59, 60, 61, 62, 63, 64, 65, 66, 67, 68, 69, 70, 71, 72, 73, 74, 75, 76, 77, 78, 79, 80, 81, 82, 83, 84, 85, 86, 87, 88, 89, 90, 91, 92, 93, 94, 95, 96, 97, 98, 99, 100, 101, 102, 103, 112, 113, 114, 115, 116, 117, 118, 119, 120, 121, 122, 123, 124, 125, 126, 127, 128, 129, 130, 131, 132, 133, 134, 135, 136, 137, 138, 139, 140, 141, 142] (by decide +kernel) (by decide +kernel)
set_option maxRecDepth 20000 in
theorem gX8_laughs_X5_yearsToLaugh : GoodIn wsX8_laughs (wsV RX8 179 RX5 yX5_yearsToLaugh wsX5_yearsToLaugh) := goodIn_app (goodIn_of _ (by decide +kernel)) ggX8_laughs_X5_yearsToLaugh
theorem dX8_laughs_0 : decode cX8_laughs 0 = .ok (.iload_n 1, 1) := by decide +kernel
theorem dX8_laughs_1 : decode cX8_laughs 1 = .ok (.invokestatic 96, 3) := by decide +kernel
theorem dX8_laughs_4 : decode cX8_laughs 4 = .ok (.ifCond .eq 13, 3) := by decide +kernel
theorem dX8_laughs_7 : decode cX8_laughs 7 = .ok (.iload_n 2, 1) := by decide +kernel
theorem dX8_laughs_8 : decode cX8_laughs 8 = .ok (.sipush 359, 3) := by decide +kernel
theorem dX8_laughs_11 : decode cX8_laughs 11 = .ok (.invokestatic 53, 3) := by decide +kernel
theorem dX8_laughs_14 : decode cX8_laughs 14 = .ok (.ifCond .ne 9, 3) := by decide +kernel
theorem dX8_laughs_17 : decode cX8_laughs 17 = .ok (.aload_n 0, 1) := by decide +kernel
theorem dX8_laughs_18 : decode cX8_laughs 18 = .ok (.iconst 1, 1) := by decide +kernel
theorem dX8_laughs_19 : decode cX8_laughs 19 = .ok (.invokevirtual 57, 3) := by decide +kernel
theorem dX8_laughs_22 : decode cX8_laughs 22 = .ok (.ireturn, 1) := by decide +kernel
theorem dX8_laughs_23 : decode cX8_laughs 23 = .ok (.aload_n 0, 1) := by decide +kernel
theorem dX8_laughs_24 : decode cX8_laughs 24 = .ok (.getfield 24, 3) := by decide +kernel
theorem dX8_laughs_27 : decode cX8_laughs 27 = .ok (.aload_n 0, 1) := by decide +kernel
theorem dX8_laughs_28 : decode cX8_laughs 28 = .ok (.getfield 12, 3) := by decide +kernel
theorem dX8_laughs_31 : decode cX8_laughs 31 = .ok (.iload_n 1, 1) := by decide +kernel
theorem dX8_laughs_32 : decode cX8_laughs 32 = .ok (.iload_n 2, 1) := by decide +kernel
theorem dX8_laughs_33 : decode cX8_laughs 33 = .ok (.invokevirtual 179, 3) := by decide +kernel
theorem dX8_laughs_36 : decode cX8_laughs 36 = .ok (.istore_n 3, 1) := by decide +kernel
theorem dX8_laughs_37 : decode cX8_laughs 37 = .ok (.iload_n 3, 1) := by decide +kernel
theorem dX8_laughs_38 : decode cX8_laughs 38 = .ok (.ifCond .ge 11, 3) := by decide +kernel
theorem dX8_laughs_41 : decode cX8_laughs 41 = .ok (.aload_n 0, 1) := by decide +kernel
theorem dX8_laughs_42 : decode cX8_laughs 42 = .ok (.iconst 2, 1) := by decide +kernel
theorem dX8_laughs_43 : decode cX8_laughs 43 = .ok (.invokevirtual 57, 3) := by decide +kernel
theorem dX8_laughs_46 : decode cX8_laughs 46 = .ok (.goto 4, 3) := by decide +kernel
theorem dX8_laughs_49 : decode cX8_laughs 49 = .ok (.iload_n 3, 1) := by decide +kernel
theorem dX8_laughs_50 : decode cX8_laughs 50 = .ok (.ireturn, 1) := by decide +kernel
set_option maxRecDepth 20000 in
theorem ggX8_alike_X5_yearsToMatch : GoodIn wsX8_alike wsX5_yearsToMatch := goodIn_r _ [7, 8, 9, 10, 11, 12, 13, 14, 15, 16, 17, 18, 19, 20, 21, 22, 23, 24, 25, 6, 26, 27, 28, 29, 30, 31, 32, 33, 34, 35, 36, 37, 38, 39, 40, 41, 42, 43, 44, 45, 46, 47, 48, 49, 50, 51, 52, 53, 54, 55, 56, 57, 58, 59, 60, 61, 62, 63, 64, 65, 66, 67, 68, 69, 70, 71, 72, 73, 74, 75, 76, 77, 78, 79, 80, 81, 82, 83, 84, 85, 86, 87, 88, 89, 90, 106, 107, 108, 109, 110, 111, 112, 113, 114, 115, 116, 117, 118, 119, 120, 121, 122, 123, 124, 125, 126, 127, 128, 129, 130, 131, 132, 133, 134, 135, 136] (by decide +kernel) (by decide +kernel)
set_option maxRecDepth 20000 in
theorem gX8_alike_X5_yearsToMatch : GoodIn wsX8_alike (wsV RX8 182 RX5 yX5_yearsToMatch wsX5_yearsToMatch) := goodIn_app (goodIn_of _ (by decide +kernel)) ggX8_alike_X5_yearsToMatch
set_option maxRecDepth 20000 in
theorem ggX8_alike_X8_no : GoodIn wsX8_alike wsX8_no := goodIn_r _ [95, 96, 97, 98, 99, 100, 101, 102, 103, 104, 105] (by decide +kernel) (by decide +kernel)
set_option maxRecDepth 20000 in
theorem gX8_alike_X8_no : GoodIn wsX8_alike (wsV RX8 57 RX8 yX8_no wsX8_no) := goodIn_app (goodIn_of _ (by decide +kernel)) ggX8_alike_X8_no
theorem dX8_alike_0 : decode cX8_alike 0 = .ok (.aload_n 0, 1) := by decide +kernel
theorem dX8_alike_1 : decode cX8_alike 1 = .ok (.getfield 24, 3) := by decide +kernel
theorem dX8_alike_4 : decode cX8_alike 4 = .ok (.aload_n 0, 1) := by decide +kernel
theorem dX8_alike_5 : decode cX8_alike 5 = .ok (.getfield 12, 3) := by decide +kernel
theorem dX8_alike_8 : decode cX8_alike 8 = .ok (.invokevirtual 182, 3) := by decide +kernel
theorem dX8_alike_11 : decode cX8_alike 11 = .ok (.istore_n 1, 1) := by decide +kernel
theorem dX8_alike_12 : decode cX8_alike 12 = .ok (.iload_n 1, 1) := by decide +kernel
theorem dX8_alike_13 : decode cX8_alike 13 = .ok (.ifCond .ge 11, 3) := by decide +kernel
theorem dX8_alike_16 : decode cX8_alike 16 = .ok (.aload_n 0, 1) := by decide +kernel
theorem dX8_alike_17 : decode cX8_alike 17 = .ok (.iconst 2, 1) := by decide +kernel
theorem dX8_alike_18 : decode cX8_alike 18 = .ok (.invokevirtual 57, 3) := by decide +kernel
theorem dX8_alike_21 : decode cX8_alike 21 = .ok (.goto 4, 3) := by decide +kernel
theorem dX8_alike_24 : decode cX8_alike 24 = .ok (.iload_n 1, 1) := by decide +kernel
theorem dX8_alike_25 : decode cX8_alike 25 = .ok (.ireturn, 1) := by decide +kernel
set_option maxRecDepth 20000 in
theorem ggX8_fits_X8_isSheet : GoodIn wsX8_fits wsX8_isSheet := goodIn_r _ [9, 10, 11, 8, 12] (by decide +kernel) (by decide +kernel)
set_option maxRecDepth 20000 in
theorem gX8_fits_X8_isSheet : GoodIn wsX8_fits (va_wsS RX8 186 yX8_isSheet wsX8_isSheet) := goodIn_app (goodIn_of _ (by decide +kernel)) ggX8_fits_X8_isSheet
set_option maxRecDepth 20000 in
theorem ggX8_fits_X8_isLion : GoodIn wsX8_fits wsX8_isLion := goodIn_r _ [15, 10, 11, 8, 12] (by decide +kernel) (by decide +kernel)
set_option maxRecDepth 20000 in
theorem gX8_fits_X8_isLion : GoodIn wsX8_fits (va_wsS RX8 96 yX8_isLion wsX8_isLion) := goodIn_app (goodIn_of _ (by decide +kernel)) ggX8_fits_X8_isLion
set_option maxRecDepth 20000 in
theorem ggX8_fits_X8_within : GoodIn wsX8_fits wsX8_within := goodIn_r _ [12] (by decide +kernel) (by decide +kernel)
set_option maxRecDepth 20000 in
theorem gX8_fits_X8_within : GoodIn wsX8_fits (va_wsS RX8 53 yX8_within wsX8_within) := goodIn_app (goodIn_of _ (by decide +kernel)) ggX8_fits_X8_within
set_option maxRecDepth 20000 in
theorem ggX8_fits_X8_no : GoodIn wsX8_fits wsX8_no := goodIn_r _ [19, 20, 21, 121, 122, 123, 124, 125, 126, 127, 128] (by decide +kernel) (by decide +kernel)
set_option maxRecDepth 20000 in
theorem gX8_fits_X8_no : GoodIn wsX8_fits (wsV RX8 57 RX8 yX8_no wsX8_no) := goodIn_app (goodIn_of _ (by decide +kernel)) ggX8_fits_X8_no
set_option maxRecDepth 20000 in
theorem ggX8_fits_X3_isMissing : GoodIn wsX8_fits wsX3_isMissing := goodIn_r _ [26, 27, 136, 137, 138] (by decide +kernel) (by decide +kernel)
set_option maxRecDepth 20000 in
theorem gX8_fits_X3_isMissing : GoodIn wsX8_fits (wsV RX8 189 RX3 yX3_isMissing wsX3_isMissing) := goodIn_app (goodIn_of _ (by decide +kernel)) ggX8_fits_X3_isMissing
set_option maxRecDepth 20000 in
theorem ggX8_fits_X5_gather : GoodIn wsX8_fits wsX5_gather := goodIn_r _ [32, 33, 34, 35, 36, 37, 38, 39, 40, 41, 42, 43, 44, 45, 46, 47, 48, 49, 50, 51, 52, 31, 53, 54, 55, 56, 57, 58, 59, 60, 61, 62, 63, 64, 65, 66, 67, 68, 69, 70, 71, 72, 73, 74, 75, 76, 77, 78, 79, 80, 81, 82, 83, 84, 85, 86, 87, 88, 89, 90, 91, 92, 93, 94, 95, 96, 97, 98, 99, 100, 101, 102, 103, 104, 105, 106, 107, 108, 109, 110, 111, 112, 113, 114, 115, 116, 117, 118, 119, 120, 129, 130, 131, 132, 133, 134, 135, 139, 140, 141, 142, 143, 144, 145, 146, 147, 148, 149, 150, 151, 152, 153, 154, 155, 136, 137, 138, 156, 157, 158, 159, 160, 161, 162] (by decide +kernel) (by decide +kernel)
set_option maxRecDepth 20000 in
theorem gX8_fits_X5_gather : GoodIn wsX8_fits (wsV RX8 193 RX5 yX5_gather wsX5_gather) := goodIn_app (goodIn_of _ (by decide +kernel)) ggX8_fits_X5_gather
