theorem dX9_backwards_10 : decode cX9_backwards 10 = .ok (.aload_n 0, 1) := by decide +kernel
theorem dX9_backwards_11 : decode cX9_backwards 11 = .ok (.aload_n 0, 1) := by decide +kernel
theorem dX9_backwards_12 : decode cX9_backwards 12 = .ok (.iload_n 1, 1) := by decide +kernel
theorem dX9_backwards_13 : decode cX9_backwards 13 = .ok (.iconst 1, 1) := by decide +kernel
theorem dX9_backwards_14 : decode cX9_backwards 14 = .ok (.invokevirtual 49, 3) := by decide +kernel
theorem dX9_backwards_17 : decode cX9_backwards 17 = .ok (.invokevirtual 63, 3) := by decide +kernel
theorem dX9_backwards_20 : decode cX9_backwards 20 = .ok (.aload_n 0, 1) := by decide +kernel
theorem dX9_backwards_21 : decode cX9_backwards 21 = .ok (.aload_n 0, 1) := by decide +kernel
theorem dX9_backwards_22 : decode cX9_backwards 22 = .ok (.iload_n 1, 1) := by decide +kernel
theorem dX9_backwards_23 : decode cX9_backwards 23 = .ok (.iconst 0, 1) := by decide +kernel
theorem dX9_backwards_24 : decode cX9_backwards 24 = .ok (.invokevirtual 49, 3) := by decide +kernel
theorem dX9_backwards_27 : decode cX9_backwards 27 = .ok (.invokevirtual 63, 3) := by decide +kernel
theorem dX9_backwards_30 : decode cX9_backwards 30 = .ok (.return_, 1) := by decide +kernel
theorem dX9_signed_0 : decode cX9_signed 0 = .ok (.iload_n 0, 1) := by decide +kernel
theorem dX9_signed_1 : decode cX9_signed 1 = .ok (.sipush 255, 3) := by decide +kernel
theorem dX9_signed_4 : decode cX9_signed 4 = .ok (.iand, 1) := by decide +kernel
theorem dX9_signed_5 : decode cX9_signed 5 = .ok (.istore_n 1, 1) := by decide +kernel
theorem dX9_signed_6 : decode cX9_signed 6 = .ok (.iload_n 1, 1) := by decide +kernel
theorem dX9_signed_7 : decode cX9_signed 7 = .ok (.bipush 127, 2) := by decide +kernel
theorem dX9_signed_9 : decode cX9_signed 9 = .ok (.if_icmp .le 11, 3) := by decide +kernel
theorem dX9_signed_12 : decode cX9_signed 12 = .ok (.iload_n 1, 1) := by decide +kernel
theorem dX9_signed_13 : decode cX9_signed 13 = .ok (.sipush 256, 3) := by decide +kernel
theorem dX9_signed_16 : decode cX9_signed 16 = .ok (.isub, 1) := by decide +kernel
theorem dX9_signed_17 : decode cX9_signed 17 = .ok (.goto 4, 3) := by decide +kernel
theorem dX9_signed_20 : decode cX9_signed 20 = .ok (.iload_n 1, 1) := by decide +kernel
theorem dX9_signed_21 : decode cX9_signed 21 = .ok (.ireturn, 1) := by decide +kernel
theorem dX9_placeOf_0 : decode cX9_placeOf 0 = .ok (.iconst 3, 1) := by decide +kernel
theorem dX9_placeOf_1 : decode cX9_placeOf 1 = .ok (.iload_n 0, 1) := by decide +kernel
theorem dX9_placeOf_2 : decode cX9_placeOf 2 = .ok (.imul, 1) := by decide +kernel
theorem dX9_placeOf_3 : decode cX9_placeOf 3 = .ok (.iconst 5, 1) := by decide +kernel
theorem dX9_placeOf_4 : decode cX9_placeOf 4 = .ok (.iload_n 1, 1) := by decide +kernel
theorem dX9_placeOf_5 : decode cX9_placeOf 5 = .ok (.imul, 1) := by decide +kernel
theorem dX9_placeOf_6 : decode cX9_placeOf 6 = .ok (.iadd, 1) := by decide +kernel
theorem dX9_placeOf_7 : decode cX9_placeOf 7 = .ok (.bipush 7, 2) := by decide +kernel
theorem dX9_placeOf_9 : decode cX9_placeOf 9 = .ok (.iload_n 2, 1) := by decide +kernel
theorem dX9_placeOf_10 : decode cX9_placeOf 10 = .ok (.imul, 1) := by decide +kernel
theorem dX9_placeOf_11 : decode cX9_placeOf 11 = .ok (.iadd, 1) := by decide +kernel
theorem dX9_placeOf_12 : decode cX9_placeOf 12 = .ok (.bipush 11, 2) := by decide +kernel
theorem dX9_placeOf_14 : decode cX9_placeOf 14 = .ok (.iload_n 3, 1) := by decide +kernel
theorem dX9_placeOf_15 : decode cX9_placeOf 15 = .ok (.imul, 1) := by decide +kernel
theorem dX9_placeOf_16 : decode cX9_placeOf 16 = .ok (.iadd, 1) := by decide +kernel
theorem dX9_placeOf_17 : decode cX9_placeOf 17 = .ok (.bipush 64, 2) := by decide +kernel
theorem dX9_placeOf_19 : decode cX9_placeOf 19 = .ok (.irem, 1) := by decide +kernel
theorem dX9_placeOf_20 : decode cX9_placeOf 20 = .ok (.ireturn, 1) := by decide +kernel
set_option maxRecDepth 20000 in
theorem ggX9_differs_X9_channel : GoodIn wsX9_differs wsX9_channel := goodIn_r _ [6, 7, 8, 18, 19, 20, 21, 22, 23, 24, 25, 26, 27, 28, 29, 30, 31, 32] (by decide +kernel) (by decide +kernel)
set_option maxRecDepth 20000 in
theorem gX9_differs_X9_channel : GoodIn wsX9_differs (wsV RX9 49 RX9 yX9_channel wsX9_channel) := goodIn_app (goodIn_of _ (by decide +kernel)) ggX9_differs_X9_channel
set_option maxRecDepth 20000 in
theorem ggX9_differs_X9_signed : GoodIn wsX9_differs wsX9_signed := goodIn_r _ [11] (by decide +kernel) (by decide +kernel)
set_option maxRecDepth 20000 in
theorem gX9_differs_X9_signed : GoodIn wsX9_differs (va_wsS RX9 67 yX9_signed wsX9_signed) := goodIn_app (goodIn_of _ (by decide +kernel)) ggX9_differs_X9_signed
set_option maxRecDepth 20000 in
theorem ggX9_differs_X9_add : GoodIn wsX9_differs wsX9_add := goodIn_r _ [15, 16, 17, 18, 19, 20, 21, 22, 23, 24, 25, 26, 27, 28, 29, 30, 31, 32] (by decide +kernel) (by decide +kernel)
set_option maxRecDepth 20000 in
theorem gX9_differs_X9_add : GoodIn wsX9_differs (wsV RX9 63 RX9 yX9_add wsX9_add) := goodIn_app (goodIn_of _ (by decide +kernel)) ggX9_differs_X9_add
theorem dX9_differs_0 : decode cX9_differs 0 = .ok (.aload_n 0, 1) := by decide +kernel
theorem dX9_differs_1 : decode cX9_differs 1 = .ok (.iload_n 1, 1) := by decide +kernel
theorem dX9_differs_2 : decode cX9_differs 2 = .ok (.iconst 0, 1) := by decide +kernel
theorem dX9_differs_3 : decode cX9_differs 3 = .ok (.invokevirtual 49, 3) := by decide +kernel
theorem dX9_differs_6 : decode cX9_differs 6 = .ok (.aload_n 0, 1) := by decide +kernel
theorem dX9_differs_7 : decode cX9_differs 7 = .ok (.getfield 32, 3) := by decide +kernel
theorem dX9_differs_10 : decode cX9_differs 10 = .ok (.iconst 0, 1) := by decide +kernel
theorem dX9_differs_11 : decode cX9_differs 11 = .ok (.iaload, 1) := by decide +kernel
theorem dX9_differs_12 : decode cX9_differs 12 = .ok (.isub, 1) := by decide +kernel
theorem dX9_differs_13 : decode cX9_differs 13 = .ok (.invokestatic 67, 3) := by decide +kernel
theorem dX9_differs_16 : decode cX9_differs 16 = .ok (.istore_n 2, 1) := by decide +kernel
theorem dX9_differs_17 : decode cX9_differs 17 = .ok (.aload_n 0, 1) := by decide +kernel
theorem dX9_differs_18 : decode cX9_differs 18 = .ok (.iload_n 1, 1) := by decide +kernel
theorem dX9_differs_19 : decode cX9_differs 19 = .ok (.iconst 1, 1) := by decide +kernel
theorem dX9_differs_20 : decode cX9_differs 20 = .ok (.invokevirtual 49, 3) := by decide +kernel
theorem dX9_differs_23 : decode cX9_differs 23 = .ok (.aload_n 0, 1) := by decide +kernel
theorem dX9_differs_24 : decode cX9_differs 24 = .ok (.getfield 32, 3) := by decide +kernel
theorem dX9_differs_27 : decode cX9_differs 27 = .ok (.iconst 1, 1) := by decide +kernel
theorem dX9_differs_28 : decode cX9_differs 28 = .ok (.iaload, 1) := by decide +kernel
theorem dX9_differs_29 : decode cX9_differs 29 = .ok (.isub, 1) := by decide +kernel
theorem dX9_differs_30 : decode cX9_differs 30 = .ok (.invokestatic 67, 3) := by decide +kernel
theorem dX9_differs_33 : decode cX9_differs 33 = .ok (.istore_n 3, 1) := by decide +kernel
theorem dX9_differs_34 : decode cX9_differs 34 = .ok (.aload_n 0, 1) := by decide +kernel
theorem dX9_differs_35 : decode cX9_differs 35 = .ok (.iload_n 1, 1) := by decide +kernel
theorem dX9_differs_36 : decode cX9_differs 36 = .ok (.iconst 2, 1) := by decide +kernel
theorem dX9_differs_37 : decode cX9_differs 37 = .ok (.invokevirtual 49, 3) := by decide +kernel
theorem dX9_differs_40 : decode cX9_differs 40 = .ok (.aload_n 0, 1) := by decide +kernel
theorem dX9_differs_41 : decode cX9_differs 41 = .ok (.getfield 32, 3) := by decide +kernel
theorem dX9_differs_44 : decode cX9_differs 44 = .ok (.iconst 2, 1) := by decide +kernel
theorem dX9_differs_45 : decode cX9_differs 45 = .ok (.iaload, 1) := by decide +kernel
theorem dX9_differs_46 : decode cX9_differs 46 = .ok (.isub, 1) := by decide +kernel
theorem dX9_differs_47 : decode cX9_differs 47 = .ok (.invokestatic 67, 3) := by decide +kernel
theorem dX9_differs_50 : decode cX9_differs 50 = .ok (.istore 4, 2) := by decide +kernel
theorem dX9_differs_52 : decode cX9_differs 52 = .ok (.iload_n 2, 1) := by decide +kernel
theorem dX9_differs_53 : decode cX9_differs 53 = .ok (.iload_n 3, 1) := by decide +kernel
theorem dX9_differs_54 : decode cX9_differs 54 = .ok (.isub, 1) := by decide +kernel
theorem dX9_differs_55 : decode cX9_differs 55 = .ok (.invokestatic 67, 3) := by decide +kernel
theorem dX9_differs_58 : decode cX9_differs 58 = .ok (.istore 5, 2) := by decide +kernel
theorem dX9_differs_60 : decode cX9_differs 60 = .ok (.iload 4, 2) := by decide +kernel
theorem dX9_differs_62 : decode cX9_differs 62 = .ok (.iload_n 3, 1) := by decide +kernel
theorem dX9_differs_63 : decode cX9_differs 63 = .ok (.isub, 1) := by decide +kernel
theorem dX9_differs_64 : decode cX9_differs 64 = .ok (.invokestatic 67, 3) := by decide +kernel
theorem dX9_differs_67 : decode cX9_differs 67 = .ok (.istore 6, 2) := by decide +kernel
theorem dX9_differs_69 : decode cX9_differs 69 = .ok (.aload_n 0, 1) := by decide +kernel
theorem dX9_differs_70 : decode cX9_differs 70 = .ok (.iload_n 1, 1) := by decide +kernel
theorem dX9_differs_71 : decode cX9_differs 71 = .ok (.iconst 3, 1) := by decide +kernel
theorem dX9_differs_72 : decode cX9_differs 72 = .ok (.invokevirtual 49, 3) := by decide +kernel
theorem dX9_differs_75 : decode cX9_differs 75 = .ok (.aload_n 0, 1) := by decide +kernel
theorem dX9_differs_76 : decode cX9_differs 76 = .ok (.getfield 32, 3) := by decide +kernel
theorem dX9_differs_79 : decode cX9_differs 79 = .ok (.iconst 3, 1) := by decide +kernel
theorem dX9_differs_80 : decode cX9_differs 80 = .ok (.iaload, 1) := by decide +kernel
theorem dX9_differs_81 : decode cX9_differs 81 = .ok (.if_icmp .ne 7, 3) := by decide +kernel
theorem dX9_differs_84 : decode cX9_differs 84 = .ok (.iconst 1, 1) := by decide +kernel
theorem dX9_differs_85 : decode cX9_differs 85 = .ok (.goto 4, 3) := by decide +kernel
theorem dX9_differs_88 : decode cX9_differs 88 = .ok (.iconst 0, 1) := by decide +kernel
theorem dX9_differs_89 : decode cX9_differs 89 = .ok (.istore 7, 2) := by decide +kernel
theorem dX9_differs_91 : decode cX9_differs 91 = .ok (.iload_n 2, 1) := by decide +kernel
theorem dX9_differs_92 : decode cX9_differs 92 = .ok (.bipush (-2), 2) := by decide +kernel
theorem dX9_differs_94 : decode cX9_differs 94 = .ok (.if_icmp .lt 36, 3) := by decide +kernel
theorem dX9_differs_97 : decode cX9_differs 97 = .ok (.iload_n 2, 1) := by decide +kernel
theorem dX9_differs_98 : decode cX9_differs 98 = .ok (.iconst 1, 1) := by decide +kernel
theorem dX9_differs_99 : decode cX9_differs 99 = .ok (.if_icmp .gt 31, 3) := by decide +kernel
theorem dX9_differs_102 : decode cX9_differs 102 = .ok (.iload_n 3, 1) := by decide +kernel
theorem dX9_differs_103 : decode cX9_differs 103 = .ok (.bipush (-2), 2) := by decide +kernel
theorem dX9_differs_105 : decode cX9_differs 105 = .ok (.if_icmp .lt 25, 3) := by decide +kernel
theorem dX9_differs_108 : decode cX9_differs 108 = .ok (.iload_n 3, 1) := by decide +kernel
theorem dX9_differs_109 : decode cX9_differs 109 = .ok (.iconst 1, 1) := by decide +kernel
theorem dX9_differs_110 : decode cX9_differs 110 = .ok (.if_icmp .gt 20, 3) := by decide +kernel
theorem dX9_differs_113 : decode cX9_differs 113 = .ok (.iload 4, 2) := by decide +kernel
theorem dX9_differs_115 : decode cX9_differs 115 = .ok (.bipush (-2), 2) := by decide +kernel
theorem dX9_differs_117 : decode cX9_differs 117 = .ok (.if_icmp .lt 13, 3) := by decide +kernel
theorem dX9_differs_120 : decode cX9_differs 120 = .ok (.iload 4, 2) := by decide +kernel
theorem dX9_differs_122 : decode cX9_differs 122 = .ok (.iconst 1, 1) := by decide +kernel
theorem dX9_differs_123 : decode cX9_differs 123 = .ok (.if_icmp .gt 7, 3) := by decide +kernel
theorem dX9_differs_126 : decode cX9_differs 126 = .ok (.iconst 1, 1) := by decide +kernel
theorem dX9_differs_127 : decode cX9_differs 127 = .ok (.goto 4, 3) := by decide +kernel
theorem dX9_differs_130 : decode cX9_differs 130 = .ok (.iconst 0, 1) := by decide +kernel
theorem dX9_differs_131 : decode cX9_differs 131 = .ok (.istore 8, 2) := by decide +kernel
theorem dX9_differs_133 : decode cX9_differs 133 = .ok (.iload_n 3, 1) := by decide +kernel
theorem dX9_differs_134 : decode cX9_differs 134 = .ok (.bipush (-32), 2) := by decide +kernel
theorem dX9_differs_136 : decode cX9_differs 136 = .ok (.if_icmp .lt 41, 3) := by decide +kernel
theorem dX9_differs_139 : decode cX9_differs 139 = .ok (.iload_n 3, 1) := by decide +kernel
theorem dX9_differs_140 : decode cX9_differs 140 = .ok (.bipush 31, 2) := by decide +kernel
theorem dX9_differs_142 : decode cX9_differs 142 = .ok (.if_icmp .gt 35, 3) := by decide +kernel
theorem dX9_differs_145 : decode cX9_differs 145 = .ok (.iload 5, 2) := by decide +kernel
theorem dX9_differs_147 : decode cX9_differs 147 = .ok (.bipush (-8), 2) := by decide +kernel
theorem dX9_differs_149 : decode cX9_differs 149 = .ok (.if_icmp .lt 28, 3) := by decide +kernel
theorem dX9_differs_152 : decode cX9_differs 152 = .ok (.iload 5, 2) := by decide +kernel
theorem dX9_differs_154 : decode cX9_differs 154 = .ok (.bipush 7, 2) := by decide +kernel
theorem dX9_differs_156 : decode cX9_differs 156 = .ok (.if_icmp .gt 21, 3) := by decide +kernel
theorem dX9_differs_159 : decode cX9_differs 159 = .ok (.iload 6, 2) := by decide +kernel
theorem dX9_differs_161 : decode cX9_differs 161 = .ok (.bipush (-8), 2) := by decide +kernel
theorem dX9_differs_163 : decode cX9_differs 163 = .ok (.if_icmp .lt 14, 3) := by decide +kernel
theorem dX9_differs_166 : decode cX9_differs 166 = .ok (.iload 6, 2) := by decide +kernel
theorem dX9_differs_168 : decode cX9_differs 168 = .ok (.bipush 7, 2) := by decide +kernel
theorem dX9_differs_170 : decode cX9_differs 170 = .ok (.if_icmp .gt 7, 3) := by decide +kernel
theorem dX9_differs_173 : decode cX9_differs 173 = .ok (.iconst 1, 1) := by decide +kernel
theorem dX9_differs_174 : decode cX9_differs 174 = .ok (.goto 4, 3) := by decide +kernel
theorem dX9_differs_177 : decode cX9_differs 177 = .ok (.iconst 0, 1) := by decide +kernel
theorem dX9_differs_178 : decode cX9_differs 178 = .ok (.istore 9, 2) := by decide +kernel
theorem dX9_differs_180 : decode cX9_differs 180 = .ok (.iload 7, 2) := by decide +kernel
theorem dX9_differs_182 : decode cX9_differs 182 = .ok (.ifCond .eq 35, 3) := by decide +kernel
theorem dX9_differs_185 : decode cX9_differs 185 = .ok (.iload 8, 2) := by decide +kernel
theorem dX9_differs_187 : decode cX9_differs 187 = .ok (.ifCond .eq 30, 3) := by decide +kernel
theorem dX9_differs_190 : decode cX9_differs 190 = .ok (.aload_n 0, 1) := by decide +kernel
theorem dX9_differs_191 : decode cX9_differs 191 = .ok (.bipush 64, 2) := by decide +kernel
theorem dX9_differs_193 : decode cX9_differs 193 = .ok (.bipush 16, 2) := by decide +kernel
theorem dX9_differs_195 : decode cX9_differs 195 = .ok (.iload_n 2, 1) := by decide +kernel
theorem dX9_differs_196 : decode cX9_differs 196 = .ok (.iconst 2, 1) := by decide +kernel
theorem dX9_differs_197 : decode cX9_differs 197 = .ok (.iadd, 1) := by decide +kernel
theorem dX9_differs_198 : decode cX9_differs 198 = .ok (.imul, 1) := by decide +kernel
theorem dX9_differs_199 : decode cX9_differs 199 = .ok (.iadd, 1) := by decide +kernel
theorem dX9_differs_200 : decode cX9_differs 200 = .ok (.iconst 4, 1) := by decide +kernel
theorem dX9_differs_201 : decode cX9_differs 201 = .ok (.iload_n 3, 1) := by decide +kernel
theorem dX9_differs_202 : decode cX9_differs 202 = .ok (.iconst 2, 1) := by decide +kernel
theorem dX9_differs_203 : decode cX9_differs 203 = .ok (.iadd, 1) := by decide +kernel
theorem dX9_differs_204 : decode cX9_differs 204 = .ok (.imul, 1) := by decide +kernel
theorem dX9_differs_205 : decode cX9_differs 205 = .ok (.iadd, 1) := by decide +kernel
theorem dX9_differs_206 : decode cX9_differs 206 = .ok (.iload 4, 2) := by decide +kernel
theorem dX9_differs_208 : decode cX9_differs 208 = .ok (.iadd, 1) := by decide +kernel
theorem dX9_differs_209 : decode cX9_differs 209 = .ok (.iconst 2, 1) := by decide +kernel
theorem dX9_differs_210 : decode cX9_differs 210 = .ok (.iadd, 1) := by decide +kernel
theorem dX9_differs_211 : decode cX9_differs 211 = .ok (.invokevirtual 63, 3) := by decide +kernel
theorem dX9_differs_214 : decode cX9_differs 214 = .ok (.goto 96, 3) := by decide +kernel
theorem dX9_differs_217 : decode cX9_differs 217 = .ok (.iload 7, 2) := by decide +kernel
theorem dX9_differs_219 : decode cX9_differs 219 = .ok (.ifCond .eq 38, 3) := by decide +kernel
theorem dX9_differs_222 : decode cX9_differs 222 = .ok (.iload 9, 2) := by decide +kernel
theorem dX9_differs_224 : decode cX9_differs 224 = .ok (.ifCond .eq 33, 3) := by decide +kernel
theorem dX9_differs_227 : decode cX9_differs 227 = .ok (.aload_n 0, 1) := by decide +kernel
theorem dX9_differs_228 : decode cX9_differs 228 = .ok (.sipush 160, 3) := by decide +kernel
theorem dX9_differs_231 : decode cX9_differs 231 = .ok (.iload_n 3, 1) := by decide +kernel
theorem dX9_differs_232 : decode cX9_differs 232 = .ok (.iadd, 1) := by decide +kernel
theorem dX9_differs_233 : decode cX9_differs 233 = .ok (.invokevirtual 63, 3) := by decide +kernel
theorem dX9_differs_236 : decode cX9_differs 236 = .ok (.aload_n 0, 1) := by decide +kernel
theorem dX9_differs_237 : decode cX9_differs 237 = .ok (.bipush 16, 2) := by decide +kernel
theorem dX9_differs_239 : decode cX9_differs 239 = .ok (.iload 5, 2) := by decide +kernel
theorem dX9_differs_241 : decode cX9_differs 241 = .ok (.bipush 8, 2) := by decide +kernel
theorem dX9_differs_243 : decode cX9_differs 243 = .ok (.iadd, 1) := by decide +kernel
theorem dX9_differs_244 : decode cX9_differs 244 = .ok (.imul, 1) := by decide +kernel
theorem dX9_differs_245 : decode cX9_differs 245 = .ok (.iload 6, 2) := by decide +kernel
theorem dX9_differs_247 : decode cX9_differs 247 = .ok (.iadd, 1) := by decide +kernel
theorem dX9_differs_248 : decode cX9_differs 248 = .ok (.bipush 8, 2) := by decide +kernel
theorem dX9_differs_250 : decode cX9_differs 250 = .ok (.iadd, 1) := by decide +kernel
theorem dX9_differs_251 : decode cX9_differs 251 = .ok (.invokevirtual 63, 3) := by decide +kernel
theorem dX9_differs_254 : decode cX9_differs 254 = .ok (.goto 56, 3) := by decide +kernel
theorem dX9_differs_257 : decode cX9_differs 257 = .ok (.aload_n 0, 1) := by decide +kernel
theorem dX9_differs_258 : decode cX9_differs 258 = .ok (.iload 7, 2) := by decide +kernel
theorem dX9_differs_260 : decode cX9_differs 260 = .ok (.ifCond .eq 9, 3) := by decide +kernel
theorem dX9_differs_263 : decode cX9_differs 263 = .ok (.sipush 254, 3) := by decide +kernel
theorem dX9_differs_266 : decode cX9_differs 266 = .ok (.goto 6, 3) := by decide +kernel
theorem dX9_differs_269 : decode cX9_differs 269 = .ok (.sipush 255, 3) := by decide +kernel
theorem dX9_differs_272 : decode cX9_differs 272 = .ok (.invokevirtual 63, 3) := by decide +kernel
theorem dX9_differs_275 : decode cX9_differs 275 = .ok (.iconst 0, 1) := by decide +kernel
theorem dX9_differs_276 : decode cX9_differs 276 = .ok (.istore 10, 2) := by decide +kernel
theorem dX9_differs_278 : decode cX9_differs 278 = .ok (.iload 10, 2) := by decide +kernel
theorem dX9_differs_280 : decode cX9_differs 280 = .ok (.iload 7, 2) := by decide +kernel
theorem dX9_differs_282 : decode cX9_differs 282 = .ok (.ifCond .eq 7, 3) := by decide +kernel
theorem dX9_differs_285 : decode cX9_differs 285 = .ok (.iconst 3, 1) := by decide +kernel
theorem dX9_differs_286 : decode cX9_differs 286 = .ok (.goto 4, 3) := by decide +kernel
theorem dX9_differs_289 : decode cX9_differs 289 = .ok (.iconst 4, 1) := by decide +kernel
theorem dX9_differs_290 : decode cX9_differs 290 = .ok (.if_icmp .ge 20, 3) := by decide +kernel
theorem dX9_differs_293 : decode cX9_differs 293 = .ok (.aload_n 0, 1) := by decide +kernel
theorem dX9_differs_294 : decode cX9_differs 294 = .ok (.aload_n 0, 1) := by decide +kernel
theorem dX9_differs_295 : decode cX9_differs 295 = .ok (.iload_n 1, 1) := by decide +kernel
theorem dX9_differs_296 : decode cX9_differs 296 = .ok (.iload 10, 2) := by decide +kernel
theorem dX9_differs_298 : decode cX9_differs 298 = .ok (.invokevirtual 49, 3) := by decide +kernel
theorem dX9_differs_301 : decode cX9_differs 301 = .ok (.invokevirtual 63, 3) := by decide +kernel
theorem dX9_differs_304 : decode cX9_differs 304 = .ok (.iinc 10 1, 3) := by decide +kernel
theorem dX9_differs_307 : decode cX9_differs 307 = .ok (.goto (-29), 3) := by decide +kernel
theorem dX9_differs_310 : decode cX9_differs 310 = .ok (.return_, 1) := by decide +kernel
set_option maxRecDepth 20000 in
theorem ggX9_writeFirst_X9_addTwo : GoodIn wsX9_writeFirst wsX9_addTwo := goodIn_r _ [9, 10, 11, 12, 8, 13, 14, 15, 43, 44, 45, 46, 47, 48, 49, 50, 51, 52, 53, 54, 55, 56, 57] (by decide +kernel) (by decide +kernel)
set_option maxRecDepth 20000 in
theorem gX9_writeFirst_X9_addTwo : GoodIn wsX9_writeFirst (wsV RX9 71 RX9 yX9_addTwo wsX9_addTwo) := goodIn_app (goodIn_of _ (by decide +kernel)) ggX9_writeFirst_X9_addTwo
set_option maxRecDepth 20000 in
theorem ggX9_writeFirst_X9_big : GoodIn wsX9_writeFirst wsX9_big := goodIn_r _ [19, 10, 11, 12, 8, 13, 14, 15, 43, 44, 45, 46, 47, 48, 49, 50, 51, 52, 53, 54, 55, 56, 57] (by decide +kernel) (by decide +kernel)
set_option maxRecDepth 20000 in
theorem gX9_writeFirst_X9_big : GoodIn wsX9_writeFirst (wsV RX9 75 RX9 yX9_big wsX9_big) := goodIn_app (goodIn_of _ (by decide +kernel)) ggX9_writeFirst_X9_big
set_option maxRecDepth 20000 in
theorem ggX9_writeFirst_X9_opaque : GoodIn wsX9_writeFirst wsX9_opaque := goodIn_r _ [23, 1, 2, 24, 25, 26, 8, 27, 28, 43, 44, 45, 46, 47, 48, 49, 50, 51, 52, 53, 54, 55, 56, 57] (by decide +kernel) (by decide +kernel)
set_option maxRecDepth 20000 in
theorem gX9_writeFirst_X9_opaque : GoodIn wsX9_writeFirst (wsV RX9 53 RX9 yX9_opaque wsX9_opaque) := goodIn_app (goodIn_of _ (by decide +kernel)) ggX9_writeFirst_X9_opaque
set_option maxRecDepth 20000 in
theorem ggX9_writeFirst_X9_clearTable : GoodIn wsX9_writeFirst wsX9_clearTable := goodIn_r _ [32, 4, 3, 43, 44, 45, 46, 47, 48, 49, 50, 51, 52, 53, 54, 55, 56, 57] (by decide +kernel) (by decide +kernel)
set_option maxRecDepth 20000 in
theorem gX9_writeFirst_X9_clearTable : GoodIn wsX9_writeFirst (wsV RX9 78 RX9 yX9_clearTable wsX9_clearTable) := goodIn_app (goodIn_of _ (by decide +kernel)) ggX9_writeFirst_X9_clearTable
set_option maxRecDepth 20000 in
theorem ggX9_writeFirst_X9_channel : GoodIn wsX9_writeFirst wsX9_channel := goodIn_r _ [27, 28, 1, 43, 44, 45, 46, 47, 48, 49, 50, 51, 52, 53, 54, 55, 56, 57] (by decide +kernel) (by decide +kernel)
set_option maxRecDepth 20000 in
theorem gX9_writeFirst_X9_channel : GoodIn wsX9_writeFirst (wsV RX9 49 RX9 yX9_channel wsX9_channel) := goodIn_app (goodIn_of _ (by decide +kernel)) ggX9_writeFirst_X9_channel
set_option maxRecDepth 20000 in
theorem ggX9_writeFirst_X9_placeOf : GoodIn wsX9_writeFirst wsX9_placeOf := goodIn_r _ [35] (by decide +kernel) (by decide +kernel)
set_option maxRecDepth 20000 in
theorem gX9_writeFirst_X9_placeOf : GoodIn wsX9_writeFirst (va_wsS RX9 81 yX9_placeOf wsX9_placeOf) := goodIn_app (goodIn_of _ (by decide +kernel)) ggX9_writeFirst_X9_placeOf
set_option maxRecDepth 20000 in
theorem ggX9_writeFirst_X9_add : GoodIn wsX9_writeFirst wsX9_add := goodIn_r _ [13, 14, 15, 43, 44, 45, 46, 47, 48, 49, 50, 51, 52, 53, 54, 55, 56, 57] (by decide +kernel) (by decide +kernel)
set_option maxRecDepth 20000 in
theorem gX9_writeFirst_X9_add : GoodIn wsX9_writeFirst (wsV RX9 63 RX9 yX9_add wsX9_add) := goodIn_app (goodIn_of _ (by decide +kernel)) ggX9_writeFirst_X9_add
set_option maxRecDepth 20000 in
theorem ggX9_writeFirst_X9_differs : GoodIn wsX9_writeFirst wsX9_differs := goodIn_r _ [39, 3, 24, 25, 26, 8, 27, 28, 1, 40, 41, 42, 10, 11, 12, 13, 14, 15, 43, 44, 45, 46, 47, 48, 49, 50, 51, 52, 53, 54, 55, 56, 57] (by decide +kernel) (by decide +kernel)
set_option maxRecDepth 20000 in
theorem gX9_writeFirst_X9_differs : GoodIn wsX9_writeFirst (wsV RX9 85 RX9 yX9_differs wsX9_differs) := goodIn_app (goodIn_of _ (by decide +kernel)) ggX9_writeFirst_X9_differs
theorem dX9_writeFirst_0 : decode cX9_writeFirst 0 = .ok (.aload_n 0, 1) := by decide +kernel
theorem dX9_writeFirst_1 : decode cX9_writeFirst 1 = .ok (.bipush 113, 2) := by decide +kernel
theorem dX9_writeFirst_3 : decode cX9_writeFirst 3 = .ok (.bipush 111, 2) := by decide +kernel
theorem dX9_writeFirst_5 : decode cX9_writeFirst 5 = .ok (.invokevirtual 71, 3) := by decide +kernel
theorem dX9_writeFirst_8 : decode cX9_writeFirst 8 = .ok (.aload_n 0, 1) := by decide +kernel
theorem dX9_writeFirst_9 : decode cX9_writeFirst 9 = .ok (.bipush 105, 2) := by decide +kernel
theorem dX9_writeFirst_11 : decode cX9_writeFirst 11 = .ok (.bipush 102, 2) := by decide +kernel
theorem dX9_writeFirst_13 : decode cX9_writeFirst 13 = .ok (.invokevirtual 71, 3) := by decide +kernel
theorem dX9_writeFirst_16 : decode cX9_writeFirst 16 = .ok (.aload_n 0, 1) := by decide +kernel
theorem dX9_writeFirst_17 : decode cX9_writeFirst 17 = .ok (.aload_n 0, 1) := by decide +kernel
theorem dX9_writeFirst_18 : decode cX9_writeFirst 18 = .ok (.getfield 7, 3) := by decide +kernel
theorem dX9_writeFirst_21 : decode cX9_writeFirst 21 = .ok (.invokevirtual 75, 3) := by decide +kernel
theorem dX9_writeFirst_24 : decode cX9_writeFirst 24 = .ok (.aload_n 0, 1) := by decide +kernel
theorem dX9_writeFirst_25 : decode cX9_writeFirst 25 = .ok (.aload_n 0, 1) := by decide +kernel
theorem dX9_writeFirst_26 : decode cX9_writeFirst 26 = .ok (.getfield 13, 3) := by decide +kernel
theorem dX9_writeFirst_29 : decode cX9_writeFirst 29 = .ok (.invokevirtual 75, 3) := by decide +kernel
theorem dX9_writeFirst_32 : decode cX9_writeFirst 32 = .ok (.aload_n 0, 1) := by decide +kernel
theorem dX9_writeFirst_33 : decode cX9_writeFirst 33 = .ok (.aload_n 0, 1) := by decide +kernel
theorem dX9_writeFirst_34 : decode cX9_writeFirst 34 = .ok (.invokevirtual 53, 3) := by decide +kernel
theorem dX9_writeFirst_37 : decode cX9_writeFirst 37 = .ok (.ifCond .eq 7, 3) := by decide +kernel
theorem dX9_writeFirst_40 : decode cX9_writeFirst 40 = .ok (.iconst 3, 1) := by decide +kernel
theorem dX9_writeFirst_41 : decode cX9_writeFirst 41 = .ok (.goto 4, 3) := by decide +kernel
theorem dX9_writeFirst_44 : decode cX9_writeFirst 44 = .ok (.iconst 4, 1) := by decide +kernel
theorem dX9_writeFirst_45 : decode cX9_writeFirst 45 = .ok (.iconst 0, 1) := by decide +kernel
theorem dX9_writeFirst_46 : decode cX9_writeFirst 46 = .ok (.invokevirtual 71, 3) := by decide +kernel
theorem dX9_writeFirst_49 : decode cX9_writeFirst 49 = .ok (.aload_n 0, 1) := by decide +kernel
theorem dX9_writeFirst_50 : decode cX9_writeFirst 50 = .ok (.invokevirtual 78, 3) := by decide +kernel
theorem dX9_writeFirst_53 : decode cX9_writeFirst 53 = .ok (.iconst 0, 1) := by decide +kernel
theorem dX9_writeFirst_54 : decode cX9_writeFirst 54 = .ok (.istore_n 1, 1) := by decide +kernel
theorem dX9_writeFirst_55 : decode cX9_writeFirst 55 = .ok (.aload_n 0, 1) := by decide +kernel
theorem dX9_writeFirst_56 : decode cX9_writeFirst 56 = .ok (.getfield 7, 3) := by decide +kernel
theorem dX9_writeFirst_59 : decode cX9_writeFirst 59 = .ok (.aload_n 0, 1) := by decide +kernel
theorem dX9_writeFirst_60 : decode cX9_writeFirst 60 = .ok (.getfield 13, 3) := by decide +kernel
theorem dX9_writeFirst_63 : decode cX9_writeFirst 63 = .ok (.imul, 1) := by decide +kernel
theorem dX9_writeFirst_64 : decode cX9_writeFirst 64 = .ok (.istore_n 2, 1) := by decide +kernel
theorem dX9_writeFirst_65 : decode cX9_writeFirst 65 = .ok (.iconst 0, 1) := by decide +kernel
theorem dX9_writeFirst_66 : decode cX9_writeFirst 66 = .ok (.istore_n 3, 1) := by decide +kernel
theorem dX9_writeFirst_67 : decode cX9_writeFirst 67 = .ok (.iload_n 3, 1) := by decide +kernel
theorem dX9_writeFirst_68 : decode cX9_writeFirst 68 = .ok (.iload_n 2, 1) := by decide +kernel
theorem dX9_writeFirst_69 : decode cX9_writeFirst 69 = .ok (.if_icmp .ge 244, 3) := by decide +kernel
theorem dX9_writeFirst_72 : decode cX9_writeFirst 72 = .ok (.iconst 1, 1) := by decide +kernel
theorem dX9_writeFirst_73 : decode cX9_writeFirst 73 = .ok (.istore 4, 2) := by decide +kernel
theorem dX9_writeFirst_75 : decode cX9_writeFirst 75 = .ok (.iconst 4, 1) := by decide +kernel
theorem dX9_writeFirst_76 : decode cX9_writeFirst 76 = .ok (.aload_n 0, 1) := by decide +kernel
theorem dX9_writeFirst_77 : decode cX9_writeFirst 77 = .ok (.iload_n 3, 1) := by decide +kernel
theorem dX9_writeFirst_78 : decode cX9_writeFirst 78 = .ok (.iconst 0, 1) := by decide +kernel
theorem dX9_writeFirst_79 : decode cX9_writeFirst 79 = .ok (.invokevirtual 49, 3) := by decide +kernel
theorem dX9_writeFirst_82 : decode cX9_writeFirst 82 = .ok (.aload_n 0, 1) := by decide +kernel
theorem dX9_writeFirst_83 : decode cX9_writeFirst 83 = .ok (.iload_n 3, 1) := by decide +kernel
theorem dX9_writeFirst_84 : decode cX9_writeFirst 84 = .ok (.iconst 1, 1) := by decide +kernel
theorem dX9_writeFirst_85 : decode cX9_writeFirst 85 = .ok (.invokevirtual 49, 3) := by decide +kernel
theorem dX9_writeFirst_88 : decode cX9_writeFirst 88 = .ok (.aload_n 0, 1) := by decide +kernel
theorem dX9_writeFirst_89 : decode cX9_writeFirst 89 = .ok (.iload_n 3, 1) := by decide +kernel
theorem dX9_writeFirst_90 : decode cX9_writeFirst 90 = .ok (.iconst 2, 1) := by decide +kernel
theorem dX9_writeFirst_91 : decode cX9_writeFirst 91 = .ok (.invokevirtual 49, 3) := by decide +kernel
theorem dX9_writeFirst_94 : decode cX9_writeFirst 94 = .ok (.aload_n 0, 1) := by decide +kernel
theorem dX9_writeFirst_95 : decode cX9_writeFirst 95 = .ok (.iload_n 3, 1) := by decide +kernel
theorem dX9_writeFirst_96 : decode cX9_writeFirst 96 = .ok (.iconst 3, 1) := by decide +kernel
theorem dX9_writeFirst_97 : decode cX9_writeFirst 97 = .ok (.invokevirtual 49, 3) := by decide +kernel
theorem dX9_writeFirst_100 : decode cX9_writeFirst 100 = .ok (.invokestatic 81, 3) := by decide +kernel
theorem dX9_writeFirst_103 : decode cX9_writeFirst 103 = .ok (.imul, 1) := by decide +kernel
theorem dX9_writeFirst_104 : decode cX9_writeFirst 104 = .ok (.istore 5, 2) := by decide +kernel
theorem dX9_writeFirst_106 : decode cX9_writeFirst 106 = .ok (.iconst 1, 1) := by decide +kernel
theorem dX9_writeFirst_107 : decode cX9_writeFirst 107 = .ok (.istore 6, 2) := by decide +kernel
theorem dX9_writeFirst_109 : decode cX9_writeFirst 109 = .ok (.iconst 0, 1) := by decide +kernel
theorem dX9_writeFirst_110 : decode cX9_writeFirst 110 = .ok (.istore 7, 2) := by decide +kernel
theorem dX9_writeFirst_112 : decode cX9_writeFirst 112 = .ok (.iload 7, 2) := by decide +kernel
theorem dX9_writeFirst_114 : decode cX9_writeFirst 114 = .ok (.iconst 4, 1) := by decide +kernel
theorem dX9_writeFirst_115 : decode cX9_writeFirst 115 = .ok (.if_icmp .ge 70, 3) := by decide +kernel
theorem dX9_writeFirst_118 : decode cX9_writeFirst 118 = .ok (.iload 4, 2) := by decide +kernel
theorem dX9_writeFirst_120 : decode cX9_writeFirst 120 = .ok (.ifCond .eq 24, 3) := by decide +kernel
theorem dX9_writeFirst_123 : decode cX9_writeFirst 123 = .ok (.aload_n 0, 1) := by decide +kernel
theorem dX9_writeFirst_124 : decode cX9_writeFirst 124 = .ok (.iload_n 3, 1) := by decide +kernel
theorem dX9_writeFirst_125 : decode cX9_writeFirst 125 = .ok (.iload 7, 2) := by decide +kernel
theorem dX9_writeFirst_127 : decode cX9_writeFirst 127 = .ok (.invokevirtual 49, 3) := by decide +kernel
theorem dX9_writeFirst_130 : decode cX9_writeFirst 130 = .ok (.aload_n 0, 1) := by decide +kernel
theorem dX9_writeFirst_131 : decode cX9_writeFirst 131 = .ok (.getfield 32, 3) := by decide +kernel
theorem dX9_writeFirst_134 : decode cX9_writeFirst 134 = .ok (.iload 7, 2) := by decide +kernel
theorem dX9_writeFirst_136 : decode cX9_writeFirst 136 = .ok (.iaload, 1) := by decide +kernel
theorem dX9_writeFirst_137 : decode cX9_writeFirst 137 = .ok (.if_icmp .ne 7, 3) := by decide +kernel
theorem dX9_writeFirst_140 : decode cX9_writeFirst 140 = .ok (.iconst 1, 1) := by decide +kernel
theorem dX9_writeFirst_141 : decode cX9_writeFirst 141 = .ok (.goto 4, 3) := by decide +kernel
theorem dX9_writeFirst_144 : decode cX9_writeFirst 144 = .ok (.iconst 0, 1) := by decide +kernel
theorem dX9_writeFirst_145 : decode cX9_writeFirst 145 = .ok (.istore 4, 2) := by decide +kernel
theorem dX9_writeFirst_147 : decode cX9_writeFirst 147 = .ok (.iload 6, 2) := by decide +kernel
theorem dX9_writeFirst_149 : decode cX9_writeFirst 149 = .ok (.ifCond .eq 27, 3) := by decide +kernel
theorem dX9_writeFirst_152 : decode cX9_writeFirst 152 = .ok (.aload_n 0, 1) := by decide +kernel
theorem dX9_writeFirst_153 : decode cX9_writeFirst 153 = .ok (.iload_n 3, 1) := by decide +kernel
theorem dX9_writeFirst_154 : decode cX9_writeFirst 154 = .ok (.iload 7, 2) := by decide +kernel
theorem dX9_writeFirst_156 : decode cX9_writeFirst 156 = .ok (.invokevirtual 49, 3) := by decide +kernel
theorem dX9_writeFirst_159 : decode cX9_writeFirst 159 = .ok (.aload_n 0, 1) := by decide +kernel
theorem dX9_writeFirst_160 : decode cX9_writeFirst 160 = .ok (.getfield 29, 3) := by decide +kernel
theorem dX9_writeFirst_163 : decode cX9_writeFirst 163 = .ok (.iload 5, 2) := by decide +kernel
theorem dX9_writeFirst_165 : decode cX9_writeFirst 165 = .ok (.iload 7, 2) := by decide +kernel
theorem dX9_writeFirst_167 : decode cX9_writeFirst 167 = .ok (.iadd, 1) := by decide +kernel
theorem dX9_writeFirst_168 : decode cX9_writeFirst 168 = .ok (.iaload, 1) := by decide +kernel
theorem dX9_writeFirst_169 : decode cX9_writeFirst 169 = .ok (.if_icmp .ne 7, 3) := by decide +kernel
theorem dX9_writeFirst_172 : decode cX9_writeFirst 172 = .ok (.iconst 1, 1) := by decide +kernel
theorem dX9_writeFirst_173 : decode cX9_writeFirst 173 = .ok (.goto 4, 3) := by decide +kernel
theorem dX9_writeFirst_176 : decode cX9_writeFirst 176 = .ok (.iconst 0, 1) := by decide +kernel
theorem dX9_writeFirst_177 : decode cX9_writeFirst 177 = .ok (.istore 6, 2) := by decide +kernel
theorem dX9_writeFirst_179 : decode cX9_writeFirst 179 = .ok (.iinc 7 1, 3) := by decide +kernel
theorem dX9_writeFirst_182 : decode cX9_writeFirst 182 = .ok (.goto (-70), 3) := by decide +kernel
theorem dX9_writeFirst_185 : decode cX9_writeFirst 185 = .ok (.iload_n 1, 1) := by decide +kernel
theorem dX9_writeFirst_186 : decode cX9_writeFirst 186 = .ok (.ifCond .le 25, 3) := by decide +kernel
theorem dX9_writeFirst_189 : decode cX9_writeFirst 189 = .ok (.iload 4, 2) := by decide +kernel
theorem dX9_writeFirst_191 : decode cX9_writeFirst 191 = .ok (.ifCond .eq 9, 3) := by decide +kernel
theorem dX9_writeFirst_194 : decode cX9_writeFirst 194 = .ok (.iload_n 1, 1) := by decide +kernel
theorem dX9_writeFirst_195 : decode cX9_writeFirst 195 = .ok (.bipush 62, 2) := by decide +kernel
theorem dX9_writeFirst_197 : decode cX9_writeFirst 197 = .ok (.if_icmp .ne 14, 3) := by decide +kernel
theorem dX9_writeFirst_200 : decode cX9_writeFirst 200 = .ok (.aload_n 0, 1) := by decide +kernel
theorem dX9_writeFirst_201 : decode cX9_writeFirst 201 = .ok (.sipush 191, 3) := by decide +kernel
theorem dX9_writeFirst_204 : decode cX9_writeFirst 204 = .ok (.iload_n 1, 1) := by decide +kernel
theorem dX9_writeFirst_205 : decode cX9_writeFirst 205 = .ok (.iadd, 1) := by decide +kernel
theorem dX9_writeFirst_206 : decode cX9_writeFirst 206 = .ok (.invokevirtual 63, 3) := by decide +kernel
theorem dX9_writeFirst_209 : decode cX9_writeFirst 209 = .ok (.iconst 0, 1) := by decide +kernel
theorem dX9_writeFirst_210 : decode cX9_writeFirst 210 = .ok (.istore_n 1, 1) := by decide +kernel
theorem dX9_writeFirst_211 : decode cX9_writeFirst 211 = .ok (.iload 4, 2) := by decide +kernel
theorem dX9_writeFirst_213 : decode cX9_writeFirst 213 = .ok (.ifCond .eq 9, 3) := by decide +kernel
theorem dX9_writeFirst_216 : decode cX9_writeFirst 216 = .ok (.iinc 1 1, 3) := by decide +kernel
theorem dX9_writeFirst_219 : decode cX9_writeFirst 219 = .ok (.goto 24, 3) := by decide +kernel
theorem dX9_writeFirst_222 : decode cX9_writeFirst 222 = .ok (.iload 6, 2) := by decide +kernel
theorem dX9_writeFirst_224 : decode cX9_writeFirst 224 = .ok (.ifCond .eq 14, 3) := by decide +kernel
theorem dX9_writeFirst_227 : decode cX9_writeFirst 227 = .ok (.aload_n 0, 1) := by decide +kernel
theorem dX9_writeFirst_228 : decode cX9_writeFirst 228 = .ok (.iload 5, 2) := by decide +kernel
theorem dX9_writeFirst_230 : decode cX9_writeFirst 230 = .ok (.iconst 4, 1) := by decide +kernel
theorem dX9_writeFirst_231 : decode cX9_writeFirst 231 = .ok (.idiv, 1) := by decide +kernel
theorem dX9_writeFirst_232 : decode cX9_writeFirst 232 = .ok (.invokevirtual 63, 3) := by decide +kernel
theorem dX9_writeFirst_235 : decode cX9_writeFirst 235 = .ok (.goto 8, 3) := by decide +kernel
theorem dX9_writeFirst_238 : decode cX9_writeFirst 238 = .ok (.aload_n 0, 1) := by decide +kernel
theorem dX9_writeFirst_239 : decode cX9_writeFirst 239 = .ok (.iload_n 3, 1) := by decide +kernel
theorem dX9_writeFirst_240 : decode cX9_writeFirst 240 = .ok (.invokevirtual 85, 3) := by decide +kernel
theorem dX9_writeFirst_243 : decode cX9_writeFirst 243 = .ok (.iconst 0, 1) := by decide +kernel
theorem dX9_writeFirst_244 : decode cX9_writeFirst 244 = .ok (.istore 7, 2) := by decide +kernel
theorem dX9_writeFirst_246 : decode cX9_writeFirst 246 = .ok (.iload 7, 2) := by decide +kernel
theorem dX9_writeFirst_248 : decode cX9_writeFirst 248 = .ok (.iconst 4, 1) := by decide +kernel
theorem dX9_writeFirst_249 : decode cX9_writeFirst 249 = .ok (.if_icmp .ge 58, 3) := by decide +kernel
theorem dX9_writeFirst_252 : decode cX9_writeFirst 252 = .ok (.aload_n 0, 1) := by decide +kernel
theorem dX9_writeFirst_253 : decode cX9_writeFirst 253 = .ok (.getfield 29, 3) := by decide +kernel
theorem dX9_writeFirst_256 : decode cX9_writeFirst 256 = .ok (.iload 5, 2) := by decide +kernel
theorem dX9_writeFirst_258 : decode cX9_writeFirst 258 = .ok (.iload 7, 2) := by decide +kernel
theorem dX9_writeFirst_260 : decode cX9_writeFirst 260 = .ok (.iadd, 1) := by decide +kernel
theorem dX9_writeFirst_261 : decode cX9_writeFirst 261 = .ok (.iload 4, 2) := by decide +kernel
theorem dX9_writeFirst_263 : decode cX9_writeFirst 263 = .ok (.ifCond .eq 16, 3) := by decide +kernel
theorem dX9_writeFirst_266 : decode cX9_writeFirst 266 = .ok (.aload_n 0, 1) := by decide +kernel
theorem dX9_writeFirst_267 : decode cX9_writeFirst 267 = .ok (.getfield 29, 3) := by decide +kernel
theorem dX9_writeFirst_270 : decode cX9_writeFirst 270 = .ok (.iload 5, 2) := by decide +kernel
theorem dX9_writeFirst_272 : decode cX9_writeFirst 272 = .ok (.iload 7, 2) := by decide +kernel
theorem dX9_writeFirst_274 : decode cX9_writeFirst 274 = .ok (.iadd, 1) := by decide +kernel
theorem dX9_writeFirst_275 : decode cX9_writeFirst 275 = .ok (.iaload, 1) := by decide +kernel
theorem dX9_writeFirst_276 : decode cX9_writeFirst 276 = .ok (.goto 10, 3) := by decide +kernel
theorem dX9_writeFirst_279 : decode cX9_writeFirst 279 = .ok (.aload_n 0, 1) := by decide +kernel
theorem dX9_writeFirst_280 : decode cX9_writeFirst 280 = .ok (.iload_n 3, 1) := by decide +kernel
theorem dX9_writeFirst_281 : decode cX9_writeFirst 281 = .ok (.iload 7, 2) := by decide +kernel
theorem dX9_writeFirst_283 : decode cX9_writeFirst 283 = .ok (.invokevirtual 49, 3) := by decide +kernel
theorem dX9_writeFirst_286 : decode cX9_writeFirst 286 = .ok (.iastore, 1) := by decide +kernel
theorem dX9_writeFirst_287 : decode cX9_writeFirst 287 = .ok (.aload_n 0, 1) := by decide +kernel
theorem dX9_writeFirst_288 : decode cX9_writeFirst 288 = .ok (.getfield 32, 3) := by decide +kernel
theorem dX9_writeFirst_291 : decode cX9_writeFirst 291 = .ok (.iload 7, 2) := by decide +kernel
theorem dX9_writeFirst_293 : decode cX9_writeFirst 293 = .ok (.aload_n 0, 1) := by decide +kernel
theorem dX9_writeFirst_294 : decode cX9_writeFirst 294 = .ok (.iload_n 3, 1) := by decide +kernel
theorem dX9_writeFirst_295 : decode cX9_writeFirst 295 = .ok (.iload 7, 2) := by decide +kernel
theorem dX9_writeFirst_297 : decode cX9_writeFirst 297 = .ok (.invokevirtual 49, 3) := by decide +kernel
theorem dX9_writeFirst_300 : decode cX9_writeFirst 300 = .ok (.iastore, 1) := by decide +kernel
theorem dX9_writeFirst_301 : decode cX9_writeFirst 301 = .ok (.iinc 7 1, 3) := by decide +kernel
theorem dX9_writeFirst_304 : decode cX9_writeFirst 304 = .ok (.goto (-58), 3) := by decide +kernel
theorem dX9_writeFirst_307 : decode cX9_writeFirst 307 = .ok (.iinc 3 1, 3) := by decide +kernel
theorem dX9_writeFirst_310 : decode cX9_writeFirst 310 = .ok (.goto (-243), 3) := by decide +kernel
theorem dX9_writeFirst_313 : decode cX9_writeFirst 313 = .ok (.iload_n 1, 1) := by decide +kernel
theorem dX9_writeFirst_314 : decode cX9_writeFirst 314 = .ok (.ifCond .le 12, 3) := by decide +kernel
theorem dX9_writeFirst_317 : decode cX9_writeFirst 317 = .ok (.aload_n 0, 1) := by decide +kernel
theorem dX9_writeFirst_318 : decode cX9_writeFirst 318 = .ok (.sipush 191, 3) := by decide +kernel
theorem dX9_writeFirst_321 : decode cX9_writeFirst 321 = .ok (.iload_n 1, 1) := by decide +kernel
theorem dX9_writeFirst_322 : decode cX9_writeFirst 322 = .ok (.iadd, 1) := by decide +kernel
theorem dX9_writeFirst_323 : decode cX9_writeFirst 323 = .ok (.invokevirtual 63, 3) := by decide +kernel
theorem dX9_writeFirst_326 : decode cX9_writeFirst 326 = .ok (.iconst 0, 1) := by decide +kernel
theorem dX9_writeFirst_327 : decode cX9_writeFirst 327 = .ok (.istore_n 3, 1) := by decide +kernel
theorem dX9_writeFirst_328 : decode cX9_writeFirst 328 = .ok (.iload_n 3, 1) := by decide +kernel
theorem dX9_writeFirst_329 : decode cX9_writeFirst 329 = .ok (.bipush 7, 2) := by decide +kernel
theorem dX9_writeFirst_331 : decode cX9_writeFirst 331 = .ok (.if_icmp .ge 14, 3) := by decide +kernel
theorem dX9_writeFirst_334 : decode cX9_writeFirst 334 = .ok (.aload_n 0, 1) := by decide +kernel
theorem dX9_writeFirst_335 : decode cX9_writeFirst 335 = .ok (.iconst 0, 1) := by decide +kernel
theorem dX9_writeFirst_336 : decode cX9_writeFirst 336 = .ok (.invokevirtual 63, 3) := by decide +kernel
theorem dX9_writeFirst_339 : decode cX9_writeFirst 339 = .ok (.iinc 3 1, 3) := by decide +kernel
theorem dX9_writeFirst_342 : decode cX9_writeFirst 342 = .ok (.goto (-14), 3) := by decide +kernel
theorem dX9_writeFirst_345 : decode cX9_writeFirst 345 = .ok (.aload_n 0, 1) := by decide +kernel
theorem dX9_writeFirst_346 : decode cX9_writeFirst 346 = .ok (.iconst 1, 1) := by decide +kernel
theorem dX9_writeFirst_347 : decode cX9_writeFirst 347 = .ok (.invokevirtual 63, 3) := by decide +kernel
theorem dX9_writeFirst_350 : decode cX9_writeFirst 350 = .ok (.return_, 1) := by decide +kernel
theorem dX9_clearTable_0 : decode cX9_clearTable 0 = .ok (.iconst 0, 1) := by decide +kernel
theorem dX9_clearTable_1 : decode cX9_clearTable 1 = .ok (.istore_n 1, 1) := by decide +kernel
theorem dX9_clearTable_2 : decode cX9_clearTable 2 = .ok (.iload_n 1, 1) := by decide +kernel
theorem dX9_clearTable_3 : decode cX9_clearTable 3 = .ok (.sipush 256, 3) := by decide +kernel
theorem dX9_clearTable_6 : decode cX9_clearTable 6 = .ok (.if_icmp .ge 16, 3) := by decide +kernel
theorem dX9_clearTable_9 : decode cX9_clearTable 9 = .ok (.aload_n 0, 1) := by decide +kernel
theorem dX9_clearTable_10 : decode cX9_clearTable 10 = .ok (.getfield 29, 3) := by decide +kernel
theorem dX9_clearTable_13 : decode cX9_clearTable 13 = .ok (.iload_n 1, 1) := by decide +kernel
theorem dX9_clearTable_14 : decode cX9_clearTable 14 = .ok (.iconst 0, 1) := by decide +kernel
theorem dX9_clearTable_15 : decode cX9_clearTable 15 = .ok (.iastore, 1) := by decide +kernel
theorem dX9_clearTable_16 : decode cX9_clearTable 16 = .ok (.iinc 1 1, 3) := by decide +kernel
theorem dX9_clearTable_19 : decode cX9_clearTable 19 = .ok (.goto (-17), 3) := by decide +kernel
theorem dX9_clearTable_22 : decode cX9_clearTable 22 = .ok (.iconst 0, 1) := by decide +kernel
theorem dX9_clearTable_23 : decode cX9_clearTable 23 = .ok (.istore_n 1, 1) := by decide +kernel
theorem dX9_clearTable_24 : decode cX9_clearTable 24 = .ok (.iload_n 1, 1) := by decide +kernel
theorem dX9_clearTable_25 : decode cX9_clearTable 25 = .ok (.iconst 4, 1) := by decide +kernel
theorem dX9_clearTable_26 : decode cX9_clearTable 26 = .ok (.if_icmp .ge 27, 3) := by decide +kernel
theorem dX9_clearTable_29 : decode cX9_clearTable 29 = .ok (.aload_n 0, 1) := by decide +kernel
theorem dX9_clearTable_30 : decode cX9_clearTable 30 = .ok (.getfield 32, 3) := by decide +kernel
theorem dX9_clearTable_33 : decode cX9_clearTable 33 = .ok (.iload_n 1, 1) := by decide +kernel
theorem dX9_clearTable_34 : decode cX9_clearTable 34 = .ok (.iload_n 1, 1) := by decide +kernel
theorem dX9_clearTable_35 : decode cX9_clearTable 35 = .ok (.iconst 3, 1) := by decide +kernel
theorem dX9_clearTable_36 : decode cX9_clearTable 36 = .ok (.if_icmp .ne 9, 3) := by decide +kernel
theorem dX9_clearTable_39 : decode cX9_clearTable 39 = .ok (.sipush 255, 3) := by decide +kernel
theorem dX9_clearTable_42 : decode cX9_clearTable 42 = .ok (.goto 4, 3) := by decide +kernel
theorem dX9_clearTable_45 : decode cX9_clearTable 45 = .ok (.iconst 0, 1) := by decide +kernel
theorem dX9_clearTable_46 : decode cX9_clearTable 46 = .ok (.iastore, 1) := by decide +kernel
theorem dX9_clearTable_47 : decode cX9_clearTable 47 = .ok (.iinc 1 1, 3) := by decide +kernel
theorem dX9_clearTable_50 : decode cX9_clearTable 50 = .ok (.goto (-26), 3) := by decide +kernel
theorem dX9_clearTable_53 : decode cX9_clearTable 53 = .ok (.return_, 1) := by decide +kernel
set_option maxRecDepth 20000 in
theorem ggX9_digits_X9_add : GoodIn wsX9_digits wsX9_add := goodIn_r _ [5, 6, 7, 8, 9, 10, 11, 12, 13, 14, 15, 16, 17, 18, 19, 20, 21, 22] (by decide +kernel) (by decide +kernel)
set_option maxRecDepth 20000 in
theorem gX9_digits_X9_add : GoodIn wsX9_digits (wsV RX9 63 RX9 yX9_add wsX9_add) := goodIn_app (goodIn_of _ (by decide +kernel)) ggX9_digits_X9_add
theorem dX9_digits_0 : decode cX9_digits 0 = .ok (.iload_n 1, 1) := by decide +kernel
theorem dX9_digits_1 : decode cX9_digits 1 = .ok (.bipush 99, 2) := by decide +kernel
theorem dX9_digits_3 : decode cX9_digits 3 = .ok (.if_icmp .le 14, 3) := by decide +kernel
theorem dX9_digits_6 : decode cX9_digits 6 = .ok (.aload_n 0, 1) := by decide +kernel
theorem dX9_digits_7 : decode cX9_digits 7 = .ok (.bipush 48, 2) := by decide +kernel
theorem dX9_digits_9 : decode cX9_digits 9 = .ok (.iload_n 1, 1) := by decide +kernel
theorem dX9_digits_10 : decode cX9_digits 10 = .ok (.bipush 100, 2) := by decide +kernel
theorem dX9_digits_12 : decode cX9_digits 12 = .ok (.idiv, 1) := by decide +kernel
theorem dX9_digits_13 : decode cX9_digits 13 = .ok (.iadd, 1) := by decide +kernel
theorem dX9_digits_14 : decode cX9_digits 14 = .ok (.invokevirtual 63, 3) := by decide +kernel
theorem dX9_digits_17 : decode cX9_digits 17 = .ok (.iload_n 1, 1) := by decide +kernel
theorem dX9_digits_18 : decode cX9_digits 18 = .ok (.bipush 9, 2) := by decide +kernel
theorem dX9_digits_20 : decode cX9_digits 20 = .ok (.if_icmp .le 17, 3) := by decide +kernel
theorem dX9_digits_23 : decode cX9_digits 23 = .ok (.aload_n 0, 1) := by decide +kernel
theorem dX9_digits_24 : decode cX9_digits 24 = .ok (.bipush 48, 2) := by decide +kernel
theorem dX9_digits_26 : decode cX9_digits 26 = .ok (.iload_n 1, 1) := by decide +kernel
theorem dX9_digits_27 : decode cX9_digits 27 = .ok (.bipush 10, 2) := by decide +kernel
theorem dX9_digits_29 : decode cX9_digits 29 = .ok (.idiv, 1) := by decide +kernel
theorem dX9_digits_30 : decode cX9_digits 30 = .ok (.bipush 10, 2) := by decide +kernel
theorem dX9_digits_32 : decode cX9_digits 32 = .ok (.irem, 1) := by decide +kernel
theorem dX9_digits_33 : decode cX9_digits 33 = .ok (.iadd, 1) := by decide +kernel
theorem dX9_digits_34 : decode cX9_digits 34 = .ok (.invokevirtual 63, 3) := by decide +kernel
theorem dX9_digits_37 : decode cX9_digits 37 = .ok (.aload_n 0, 1) := by decide +kernel
theorem dX9_digits_38 : decode cX9_digits 38 = .ok (.bipush 48, 2) := by decide +kernel
theorem dX9_digits_40 : decode cX9_digits 40 = .ok (.iload_n 1, 1) := by decide +kernel
theorem dX9_digits_41 : decode cX9_digits 41 = .ok (.bipush 10, 2) := by decide +kernel
theorem dX9_digits_43 : decode cX9_digits 43 = .ok (.irem, 1) := by decide +kernel
theorem dX9_digits_44 : decode cX9_digits 44 = .ok (.iadd, 1) := by decide +kernel
theorem dX9_digits_45 : decode cX9_digits 45 = .ok (.invokevirtual 63, 3) := by decide +kernel
theorem dX9_digits_48 : decode cX9_digits 48 = .ok (.return_, 1) := by decide +kernel
set_option maxRecDepth 20000 in
theorem ggX9_writeSecond_X9_grey : GoodIn wsX9_writeSecond wsX9_grey := goodIn_r _ [7, 1, 2, 8, 9, 10, 6, 11, 12, 13, 14, 15, 16, 31, 32, 33, 34, 35, 36, 37, 38, 39, 40, 41, 42, 43, 44, 45] (by decide +kernel) (by decide +kernel)
set_option maxRecDepth 20000 in
theorem gX9_writeSecond_X9_grey : GoodIn wsX9_writeSecond (wsV RX9 88 RX9 yX9_grey wsX9_grey) := goodIn_app (goodIn_of _ (by decide +kernel)) ggX9_writeSecond_X9_grey
set_option maxRecDepth 20000 in
theorem ggX9_writeSecond_X9_addTwo : GoodIn wsX9_writeSecond wsX9_addTwo := goodIn_r _ [20, 21, 22, 23, 6, 24, 25, 26, 31, 32, 33, 34, 35, 36, 37, 38, 39, 40, 41, 42, 43, 44, 45] (by decide +kernel) (by decide +kernel)
set_option maxRecDepth 20000 in
theorem gX9_writeSecond_X9_addTwo : GoodIn wsX9_writeSecond (wsV RX9 71 RX9 yX9_addTwo wsX9_addTwo) := goodIn_app (goodIn_of _ (by decide +kernel)) ggX9_writeSecond_X9_addTwo
set_option maxRecDepth 20000 in
theorem ggX9_writeSecond_X9_add : GoodIn wsX9_writeSecond wsX9_add := goodIn_r _ [24, 25, 26, 31, 32, 33, 34, 35, 36, 37, 38, 39, 40, 41, 42, 43, 44, 45] (by decide +kernel) (by decide +kernel)
set_option maxRecDepth 20000 in
theorem gX9_writeSecond_X9_add : GoodIn wsX9_writeSecond (wsV RX9 63 RX9 yX9_add wsX9_add) := goodIn_app (goodIn_of _ (by decide +kernel)) ggX9_writeSecond_X9_add
set_option maxRecDepth 20000 in
theorem ggX9_writeSecond_X9_digits : GoodIn wsX9_writeSecond wsX9_digits := goodIn_r _ [30, 21, 22, 23, 6, 24, 25, 26, 31, 32, 33, 34, 35, 36, 37, 38, 39, 40, 41, 42, 43, 44, 45] (by decide +kernel) (by decide +kernel)
set_option maxRecDepth 20000 in
theorem gX9_writeSecond_X9_digits : GoodIn wsX9_writeSecond (wsV RX9 91 RX9 yX9_digits wsX9_digits) := goodIn_app (goodIn_of _ (by decide +kernel)) ggX9_writeSecond_X9_digits
set_option maxRecDepth 20000 in
theorem ggX9_writeSecond_X9_channel : GoodIn wsX9_writeSecond wsX9_channel := goodIn_r _ [15, 16, 1, 31, 32, 33, 34, 35, 36, 37, 38, 39, 40, 41, 42, 43, 44, 45] (by decide +kernel) (by decide +kernel)
set_option maxRecDepth 20000 in
theorem gX9_writeSecond_X9_channel : GoodIn wsX9_writeSecond (wsV RX9 49 RX9 yX9_channel wsX9_channel) := goodIn_app (goodIn_of _ (by decide +kernel)) ggX9_writeSecond_X9_channel
theorem dX9_writeSecond_0 : decode cX9_writeSecond 0 = .ok (.aload_n 0, 1) := by decide +kernel
theorem dX9_writeSecond_1 : decode cX9_writeSecond 1 = .ok (.invokevirtual 88, 3) := by decide +kernel
theorem dX9_writeSecond_4 : decode cX9_writeSecond 4 = .ok (.ifCond .eq 7, 3) := by decide +kernel
theorem dX9_writeSecond_7 : decode cX9_writeSecond 7 = .ok (.iconst 1, 1) := by decide +kernel
theorem dX9_writeSecond_8 : decode cX9_writeSecond 8 = .ok (.goto 4, 3) := by decide +kernel
theorem dX9_writeSecond_11 : decode cX9_writeSecond 11 = .ok (.iconst 3, 1) := by decide +kernel
theorem dX9_writeSecond_12 : decode cX9_writeSecond 12 = .ok (.istore_n 2, 1) := by decide +kernel
theorem dX9_writeSecond_13 : decode cX9_writeSecond 13 = .ok (.aload_n 0, 1) := by decide +kernel
theorem dX9_writeSecond_14 : decode cX9_writeSecond 14 = .ok (.bipush 80, 2) := by decide +kernel
theorem dX9_writeSecond_16 : decode cX9_writeSecond 16 = .ok (.iload_n 1, 1) := by decide +kernel
theorem dX9_writeSecond_17 : decode cX9_writeSecond 17 = .ok (.ifCond .eq 8, 3) := by decide +kernel
theorem dX9_writeSecond_20 : decode cX9_writeSecond 20 = .ok (.bipush 50, 2) := by decide +kernel
theorem dX9_writeSecond_22 : decode cX9_writeSecond 22 = .ok (.goto 5, 3) := by decide +kernel
theorem dX9_writeSecond_25 : decode cX9_writeSecond 25 = .ok (.bipush 53, 2) := by decide +kernel
theorem dX9_writeSecond_27 : decode cX9_writeSecond 27 = .ok (.iload_n 2, 1) := by decide +kernel
theorem dX9_writeSecond_28 : decode cX9_writeSecond 28 = .ok (.iconst 3, 1) := by decide +kernel
theorem dX9_writeSecond_29 : decode cX9_writeSecond 29 = .ok (.if_icmp .ne 7, 3) := by decide +kernel
theorem dX9_writeSecond_32 : decode cX9_writeSecond 32 = .ok (.iconst 1, 1) := by decide +kernel
theorem dX9_writeSecond_33 : decode cX9_writeSecond 33 = .ok (.goto 4, 3) := by decide +kernel
theorem dX9_writeSecond_36 : decode cX9_writeSecond 36 = .ok (.iconst 0, 1) := by decide +kernel
theorem dX9_writeSecond_37 : decode cX9_writeSecond 37 = .ok (.iadd, 1) := by decide +kernel
theorem dX9_writeSecond_38 : decode cX9_writeSecond 38 = .ok (.invokevirtual 71, 3) := by decide +kernel
theorem dX9_writeSecond_41 : decode cX9_writeSecond 41 = .ok (.aload_n 0, 1) := by decide +kernel
theorem dX9_writeSecond_42 : decode cX9_writeSecond 42 = .ok (.bipush 10, 2) := by decide +kernel
theorem dX9_writeSecond_44 : decode cX9_writeSecond 44 = .ok (.invokevirtual 63, 3) := by decide +kernel
theorem dX9_writeSecond_47 : decode cX9_writeSecond 47 = .ok (.aload_n 0, 1) := by decide +kernel
theorem dX9_writeSecond_48 : decode cX9_writeSecond 48 = .ok (.aload_n 0, 1) := by decide +kernel
theorem dX9_writeSecond_49 : decode cX9_writeSecond 49 = .ok (.getfield 7, 3) := by decide +kernel
theorem dX9_writeSecond_52 : decode cX9_writeSecond 52 = .ok (.invokevirtual 91, 3) := by decide +kernel
theorem dX9_writeSecond_55 : decode cX9_writeSecond 55 = .ok (.aload_n 0, 1) := by decide +kernel
theorem dX9_writeSecond_56 : decode cX9_writeSecond 56 = .ok (.bipush 32, 2) := by decide +kernel
theorem dX9_writeSecond_58 : decode cX9_writeSecond 58 = .ok (.invokevirtual 63, 3) := by decide +kernel
theorem dX9_writeSecond_61 : decode cX9_writeSecond 61 = .ok (.aload_n 0, 1) := by decide +kernel
theorem dX9_writeSecond_62 : decode cX9_writeSecond 62 = .ok (.aload_n 0, 1) := by decide +kernel
theorem dX9_writeSecond_63 : decode cX9_writeSecond 63 = .ok (.getfield 13, 3) := by decide +kernel
theorem dX9_writeSecond_66 : decode cX9_writeSecond 66 = .ok (.invokevirtual 91, 3) := by decide +kernel
theorem dX9_writeSecond_69 : decode cX9_writeSecond 69 = .ok (.aload_n 0, 1) := by decide +kernel
theorem dX9_writeSecond_70 : decode cX9_writeSecond 70 = .ok (.bipush 10, 2) := by decide +kernel
theorem dX9_writeSecond_72 : decode cX9_writeSecond 72 = .ok (.invokevirtual 63, 3) := by decide +kernel
theorem dX9_writeSecond_75 : decode cX9_writeSecond 75 = .ok (.aload_n 0, 1) := by decide +kernel
theorem dX9_writeSecond_76 : decode cX9_writeSecond 76 = .ok (.sipush 255, 3) := by decide +kernel
theorem dX9_writeSecond_79 : decode cX9_writeSecond 79 = .ok (.invokevirtual 91, 3) := by decide +kernel
theorem dX9_writeSecond_82 : decode cX9_writeSecond 82 = .ok (.aload_n 0, 1) := by decide +kernel
theorem dX9_writeSecond_83 : decode cX9_writeSecond 83 = .ok (.bipush 10, 2) := by decide +kernel
theorem dX9_writeSecond_85 : decode cX9_writeSecond 85 = .ok (.invokevirtual 63, 3) := by decide +kernel
theorem dX9_writeSecond_88 : decode cX9_writeSecond 88 = .ok (.iconst 0, 1) := by decide +kernel
theorem dX9_writeSecond_89 : decode cX9_writeSecond 89 = .ok (.istore_n 3, 1) := by decide +kernel
theorem dX9_writeSecond_90 : decode cX9_writeSecond 90 = .ok (.iload_n 3, 1) := by decide +kernel
theorem dX9_writeSecond_91 : decode cX9_writeSecond 91 = .ok (.aload_n 0, 1) := by decide +kernel
theorem dX9_writeSecond_92 : decode cX9_writeSecond 92 = .ok (.getfield 7, 3) := by decide +kernel
theorem dX9_writeSecond_95 : decode cX9_writeSecond 95 = .ok (.aload_n 0, 1) := by decide +kernel
theorem dX9_writeSecond_96 : decode cX9_writeSecond 96 = .ok (.getfield 13, 3) := by decide +kernel
theorem dX9_writeSecond_99 : decode cX9_writeSecond 99 = .ok (.imul, 1) := by decide +kernel
theorem dX9_writeSecond_100 : decode cX9_writeSecond 100 = .ok (.if_icmp .ge 99, 3) := by decide +kernel
theorem dX9_writeSecond_103 : decode cX9_writeSecond 103 = .ok (.iconst 0, 1) := by decide +kernel
theorem dX9_writeSecond_104 : decode cX9_writeSecond 104 = .ok (.istore 4, 2) := by decide +kernel
theorem dX9_writeSecond_106 : decode cX9_writeSecond 106 = .ok (.iload 4, 2) := by decide +kernel
theorem dX9_writeSecond_108 : decode cX9_writeSecond 108 = .ok (.iload_n 2, 1) := by decide +kernel
theorem dX9_writeSecond_109 : decode cX9_writeSecond 109 = .ok (.if_icmp .ge 84, 3) := by decide +kernel
theorem dX9_writeSecond_112 : decode cX9_writeSecond 112 = .ok (.iload_n 1, 1) := by decide +kernel
theorem dX9_writeSecond_113 : decode cX9_writeSecond 113 = .ok (.ifCond .eq 63, 3) := by decide +kernel
theorem dX9_writeSecond_116 : decode cX9_writeSecond 116 = .ok (.iload_n 3, 1) := by decide +kernel
theorem dX9_writeSecond_117 : decode cX9_writeSecond 117 = .ok (.aload_n 0, 1) := by decide +kernel
theorem dX9_writeSecond_118 : decode cX9_writeSecond 118 = .ok (.getfield 7, 3) := by decide +kernel
theorem dX9_writeSecond_121 : decode cX9_writeSecond 121 = .ok (.irem, 1) := by decide +kernel
theorem dX9_writeSecond_122 : decode cX9_writeSecond 122 = .ok (.aload_n 0, 1) := by decide +kernel
theorem dX9_writeSecond_123 : decode cX9_writeSecond 123 = .ok (.getfield 7, 3) := by decide +kernel
theorem dX9_writeSecond_126 : decode cX9_writeSecond 126 = .ok (.iconst 1, 1) := by decide +kernel
theorem dX9_writeSecond_127 : decode cX9_writeSecond 127 = .ok (.isub, 1) := by decide +kernel
theorem dX9_writeSecond_128 : decode cX9_writeSecond 128 = .ok (.if_icmp .ne 15, 3) := by decide +kernel
theorem dX9_writeSecond_131 : decode cX9_writeSecond 131 = .ok (.iload 4, 2) := by decide +kernel
theorem dX9_writeSecond_133 : decode cX9_writeSecond 133 = .ok (.iload_n 2, 1) := by decide +kernel
theorem dX9_writeSecond_134 : decode cX9_writeSecond 134 = .ok (.iconst 1, 1) := by decide +kernel
theorem dX9_writeSecond_135 : decode cX9_writeSecond 135 = .ok (.isub, 1) := by decide +kernel
theorem dX9_writeSecond_136 : decode cX9_writeSecond 136 = .ok (.if_icmp .ne 7, 3) := by decide +kernel
theorem dX9_writeSecond_139 : decode cX9_writeSecond 139 = .ok (.iconst 1, 1) := by decide +kernel
theorem dX9_writeSecond_140 : decode cX9_writeSecond 140 = .ok (.goto 4, 3) := by decide +kernel
theorem dX9_writeSecond_143 : decode cX9_writeSecond 143 = .ok (.iconst 0, 1) := by decide +kernel
theorem dX9_writeSecond_144 : decode cX9_writeSecond 144 = .ok (.istore 5, 2) := by decide +kernel
theorem dX9_writeSecond_146 : decode cX9_writeSecond 146 = .ok (.aload_n 0, 1) := by decide +kernel
theorem dX9_writeSecond_147 : decode cX9_writeSecond 147 = .ok (.aload_n 0, 1) := by decide +kernel
theorem dX9_writeSecond_148 : decode cX9_writeSecond 148 = .ok (.iload_n 3, 1) := by decide +kernel
theorem dX9_writeSecond_149 : decode cX9_writeSecond 149 = .ok (.iload 4, 2) := by decide +kernel
theorem dX9_writeSecond_151 : decode cX9_writeSecond 151 = .ok (.invokevirtual 49, 3) := by decide +kernel
theorem dX9_writeSecond_154 : decode cX9_writeSecond 154 = .ok (.invokevirtual 91, 3) := by decide +kernel
theorem dX9_writeSecond_157 : decode cX9_writeSecond 157 = .ok (.aload_n 0, 1) := by decide +kernel
theorem dX9_writeSecond_158 : decode cX9_writeSecond 158 = .ok (.iload 5, 2) := by decide +kernel
theorem dX9_writeSecond_160 : decode cX9_writeSecond 160 = .ok (.ifCond .eq 8, 3) := by decide +kernel
theorem dX9_writeSecond_163 : decode cX9_writeSecond 163 = .ok (.bipush 10, 2) := by decide +kernel
theorem dX9_writeSecond_165 : decode cX9_writeSecond 165 = .ok (.goto 5, 3) := by decide +kernel
theorem dX9_writeSecond_168 : decode cX9_writeSecond 168 = .ok (.bipush 32, 2) := by decide +kernel
theorem dX9_writeSecond_170 : decode cX9_writeSecond 170 = .ok (.invokevirtual 63, 3) := by decide +kernel
theorem dX9_writeSecond_173 : decode cX9_writeSecond 173 = .ok (.goto 14, 3) := by decide +kernel
theorem dX9_writeSecond_176 : decode cX9_writeSecond 176 = .ok (.aload_n 0, 1) := by decide +kernel
theorem dX9_writeSecond_177 : decode cX9_writeSecond 177 = .ok (.aload_n 0, 1) := by decide +kernel
theorem dX9_writeSecond_178 : decode cX9_writeSecond 178 = .ok (.iload_n 3, 1) := by decide +kernel
theorem dX9_writeSecond_179 : decode cX9_writeSecond 179 = .ok (.iload 4, 2) := by decide +kernel
theorem dX9_writeSecond_181 : decode cX9_writeSecond 181 = .ok (.invokevirtual 49, 3) := by decide +kernel
theorem dX9_writeSecond_184 : decode cX9_writeSecond 184 = .ok (.invokevirtual 63, 3) := by decide +kernel
theorem dX9_writeSecond_187 : decode cX9_writeSecond 187 = .ok (.iinc 4 1, 3) := by decide +kernel
theorem dX9_writeSecond_190 : decode cX9_writeSecond 190 = .ok (.goto (-84), 3) := by decide +kernel
theorem dX9_writeSecond_193 : decode cX9_writeSecond 193 = .ok (.iinc 3 1, 3) := by decide +kernel
theorem dX9_writeSecond_196 : decode cX9_writeSecond 196 = .ok (.goto (-106), 3) := by decide +kernel
theorem dX9_writeSecond_199 : decode cX9_writeSecond 199 = .ok (.return_, 1) := by decide +kernel
set_option maxRecDepth 20000 in
theorem ggX9_colourOf_X9_alike : GoodIn wsX9_colourOf wsX9_alike := goodIn_r _ [5, 6, 7, 8, 4, 9, 10, 11, 12, 13, 14, 15, 16, 17, 18, 19, 20, 21, 22, 23, 24, 25, 26] (by decide +kernel) (by decide +kernel)
set_option maxRecDepth 20000 in
theorem gX9_colourOf_X9_alike : GoodIn wsX9_colourOf (wsV RX9 94 RX9 yX9_alike wsX9_alike) := goodIn_app (goodIn_of _ (by decide +kernel)) ggX9_colourOf_X9_alike
theorem dX9_colourOf_0 : decode cX9_colourOf 0 = .ok (.iconst 0, 1) := by decide +kernel
theorem dX9_colourOf_1 : decode cX9_colourOf 1 = .ok (.istore_n 2, 1) := by decide +kernel
theorem dX9_colourOf_2 : decode cX9_colourOf 2 = .ok (.iconst 0, 1) := by decide +kernel
theorem dX9_colourOf_3 : decode cX9_colourOf 3 = .ok (.istore_n 3, 1) := by decide +kernel
theorem dX9_colourOf_4 : decode cX9_colourOf 4 = .ok (.iload_n 3, 1) := by decide +kernel
theorem dX9_colourOf_5 : decode cX9_colourOf 5 = .ok (.iload_n 1, 1) := by decide +kernel
theorem dX9_colourOf_6 : decode cX9_colourOf 6 = .ok (.if_icmp .gt 79, 3) := by decide +kernel
theorem dX9_colourOf_9 : decode cX9_colourOf 9 = .ok (.iconst 1, 1) := by decide +kernel
theorem dX9_colourOf_10 : decode cX9_colourOf 10 = .ok (.istore 4, 2) := by decide +kernel
theorem dX9_colourOf_12 : decode cX9_colourOf 12 = .ok (.iconst 0, 1) := by decide +kernel
theorem dX9_colourOf_13 : decode cX9_colourOf 13 = .ok (.istore 5, 2) := by decide +kernel
theorem dX9_colourOf_15 : decode cX9_colourOf 15 = .ok (.iload 5, 2) := by decide +kernel
theorem dX9_colourOf_17 : decode cX9_colourOf 17 = .ok (.iload_n 3, 1) := by decide +kernel
theorem dX9_colourOf_18 : decode cX9_colourOf 18 = .ok (.if_icmp .ge 31, 3) := by decide +kernel
theorem dX9_colourOf_21 : decode cX9_colourOf 21 = .ok (.iload 4, 2) := by decide +kernel
theorem dX9_colourOf_23 : decode cX9_colourOf 23 = .ok (.ifCond .eq 17, 3) := by decide +kernel
theorem dX9_colourOf_26 : decode cX9_colourOf 26 = .ok (.aload_n 0, 1) := by decide +kernel
theorem dX9_colourOf_27 : decode cX9_colourOf 27 = .ok (.iload 5, 2) := by decide +kernel
theorem dX9_colourOf_29 : decode cX9_colourOf 29 = .ok (.iload_n 3, 1) := by decide +kernel
theorem dX9_colourOf_30 : decode cX9_colourOf 30 = .ok (.invokevirtual 94, 3) := by decide +kernel
theorem dX9_colourOf_33 : decode cX9_colourOf 33 = .ok (.ifCond .ne 7, 3) := by decide +kernel
theorem dX9_colourOf_36 : decode cX9_colourOf 36 = .ok (.iconst 1, 1) := by decide +kernel
theorem dX9_colourOf_37 : decode cX9_colourOf 37 = .ok (.goto 4, 3) := by decide +kernel
theorem dX9_colourOf_40 : decode cX9_colourOf 40 = .ok (.iconst 0, 1) := by decide +kernel
theorem dX9_colourOf_41 : decode cX9_colourOf 41 = .ok (.istore 4, 2) := by decide +kernel
theorem dX9_colourOf_43 : decode cX9_colourOf 43 = .ok (.iinc 5 1, 3) := by decide +kernel
theorem dX9_colourOf_46 : decode cX9_colourOf 46 = .ok (.goto (-31), 3) := by decide +kernel
theorem dX9_colourOf_49 : decode cX9_colourOf 49 = .ok (.iload 4, 2) := by decide +kernel
theorem dX9_colourOf_51 : decode cX9_colourOf 51 = .ok (.ifCond .eq 28, 3) := by decide +kernel
theorem dX9_colourOf_54 : decode cX9_colourOf 54 = .ok (.aload_n 0, 1) := by decide +kernel
theorem dX9_colourOf_55 : decode cX9_colourOf 55 = .ok (.iload_n 3, 1) := by decide +kernel
theorem dX9_colourOf_56 : decode cX9_colourOf 56 = .ok (.iload_n 1, 1) := by decide +kernel
theorem dX9_colourOf_57 : decode cX9_colourOf 57 = .ok (.invokevirtual 94, 3) := by decide +kernel
theorem dX9_colourOf_60 : decode cX9_colourOf 60 = .ok (.ifCond .eq 16, 3) := by decide +kernel
theorem dX9_colourOf_63 : decode cX9_colourOf 63 = .ok (.iload_n 3, 1) := by decide +kernel
theorem dX9_colourOf_64 : decode cX9_colourOf 64 = .ok (.iload_n 1, 1) := by decide +kernel
theorem dX9_colourOf_65 : decode cX9_colourOf 65 = .ok (.if_icmp .ne 9, 3) := by decide +kernel
theorem dX9_colourOf_68 : decode cX9_colourOf 68 = .ok (.iconst (-1), 1) := by decide +kernel
theorem dX9_colourOf_69 : decode cX9_colourOf 69 = .ok (.iload_n 2, 1) := by decide +kernel
theorem dX9_colourOf_70 : decode cX9_colourOf 70 = .ok (.isub, 1) := by decide +kernel
theorem dX9_colourOf_71 : decode cX9_colourOf 71 = .ok (.goto 4, 3) := by decide +kernel
theorem dX9_colourOf_74 : decode cX9_colourOf 74 = .ok (.iload_n 2, 1) := by decide +kernel
theorem dX9_colourOf_75 : decode cX9_colourOf 75 = .ok (.ireturn, 1) := by decide +kernel
theorem dX9_colourOf_76 : decode cX9_colourOf 76 = .ok (.iinc 2 1, 3) := by decide +kernel
theorem dX9_colourOf_79 : decode cX9_colourOf 79 = .ok (.iinc 3 1, 3) := by decide +kernel
theorem dX9_colourOf_82 : decode cX9_colourOf 82 = .ok (.goto (-78), 3) := by decide +kernel
theorem dX9_colourOf_85 : decode cX9_colourOf 85 = .ok (.iload_n 2, 1) := by decide +kernel
theorem dX9_colourOf_86 : decode cX9_colourOf 86 = .ok (.ireturn, 1) := by decide +kernel
set_option maxRecDepth 20000 in
theorem ggX9_writeThird_X9_colourOf : GoodIn wsX9_writeThird wsX9_colourOf := goodIn_r _ [8, 9, 10, 11, 7, 12, 13, 14, 15, 16, 17, 1, 39, 40, 41, 42, 43, 44, 45, 46, 47, 48, 49, 50, 51, 52, 53] (by decide +kernel) (by decide +kernel)
set_option maxRecDepth 20000 in
theorem gX9_writeThird_X9_colourOf : GoodIn wsX9_writeThird (wsV RX9 97 RX9 yX9_colourOf wsX9_colourOf) := goodIn_app (goodIn_of _ (by decide +kernel)) ggX9_writeThird_X9_colourOf
set_option maxRecDepth 20000 in
theorem ggX9_writeThird_X9_addTwo : GoodIn wsX9_writeThird wsX9_addTwo := goodIn_r _ [21, 22, 23, 24, 7, 25, 26, 3, 39, 40, 41, 42, 43, 44, 45, 46, 47, 48, 49, 50, 51, 52, 53] (by decide +kernel) (by decide +kernel)
set_option maxRecDepth 20000 in
theorem gX9_writeThird_X9_addTwo : GoodIn wsX9_writeThird (wsV RX9 71 RX9 yX9_addTwo wsX9_addTwo) := goodIn_app (goodIn_of _ (by decide +kernel)) ggX9_writeThird_X9_addTwo
set_option maxRecDepth 20000 in
theorem ggX9_writeThird_X9_little : GoodIn wsX9_writeThird wsX9_little := goodIn_r _ [30, 22, 23, 24, 7, 25, 26, 3, 39, 40, 41, 42, 43, 44, 45, 46, 47, 48, 49, 50, 51, 52, 53] (by decide +kernel) (by decide +kernel)
set_option maxRecDepth 20000 in
theorem gX9_writeThird_X9_little : GoodIn wsX9_writeThird (wsV RX9 100 RX9 yX9_little wsX9_little) := goodIn_app (goodIn_of _ (by decide +kernel)) ggX9_writeThird_X9_little
set_option maxRecDepth 20000 in
theorem ggX9_writeThird_X9_backwards : GoodIn wsX9_writeThird wsX9_backwards := goodIn_r _ [34, 13, 14, 15, 7, 16, 17, 1, 22, 23, 24, 25, 26, 3, 39, 40, 41, 42, 43, 44, 45, 46, 47, 48, 49, 50, 51, 52, 53] (by decide +kernel) (by decide +kernel)
set_option maxRecDepth 20000 in
theorem gX9_writeThird_X9_backwards : GoodIn wsX9_writeThird (wsV RX9 103 RX9 yX9_backwards wsX9_backwards) := goodIn_app (goodIn_of _ (by decide +kernel)) ggX9_writeThird_X9_backwards
set_option maxRecDepth 20000 in
theorem ggX9_writeThird_X9_add : GoodIn wsX9_writeThird wsX9_add := goodIn_r _ [25, 26, 3, 39, 40, 41, 42, 43, 44, 45, 46, 47, 48, 49, 50, 51, 52, 53] (by decide +kernel) (by decide +kernel)
set_option maxRecDepth 20000 in
theorem gX9_writeThird_X9_add : GoodIn wsX9_writeThird (wsV RX9 63 RX9 yX9_add wsX9_add) := goodIn_app (goodIn_of _ (by decide +kernel)) ggX9_writeThird_X9_add
set_option maxRecDepth 20000 in
theorem ggX9_writeThird_X9_pairs : GoodIn wsX9_writeThird wsX9_pairs := goodIn_r _ [38, 1, 9, 10, 11, 7, 12, 13, 14, 15, 16, 17, 4, 5, 6, 8, 22, 23, 24, 25, 26, 3, 18, 19, 20, 21, 39, 40, 41, 42, 43, 44, 45, 46, 47, 48, 49, 50, 51, 52, 53] (by decide +kernel) (by decide +kernel)
set_option maxRecDepth 20000 in
theorem gX9_writeThird_X9_pairs : GoodIn wsX9_writeThird (wsV RX9 106 RX9 yX9_pairs wsX9_pairs) := goodIn_app (goodIn_of _ (by decide +kernel)) ggX9_writeThird_X9_pairs
theorem dX9_writeThird_0 : decode cX9_writeThird 0 = .ok (.iconst 0, 1) := by decide +kernel
theorem dX9_writeThird_1 : decode cX9_writeThird 1 = .ok (.istore_n 2, 1) := by decide +kernel
theorem dX9_writeThird_2 : decode cX9_writeThird 2 = .ok (.iconst 0, 1) := by decide +kernel
theorem dX9_writeThird_3 : decode cX9_writeThird 3 = .ok (.istore_n 3, 1) := by decide +kernel
theorem dX9_writeThird_4 : decode cX9_writeThird 4 = .ok (.iload_n 3, 1) := by decide +kernel
theorem dX9_writeThird_5 : decode cX9_writeThird 5 = .ok (.aload_n 0, 1) := by decide +kernel
theorem dX9_writeThird_6 : decode cX9_writeThird 6 = .ok (.getfield 7, 3) := by decide +kernel
theorem dX9_writeThird_9 : decode cX9_writeThird 9 = .ok (.aload_n 0, 1) := by decide +kernel
theorem dX9_writeThird_10 : decode cX9_writeThird 10 = .ok (.getfield 13, 3) := by decide +kernel
theorem dX9_writeThird_13 : decode cX9_writeThird 13 = .ok (.imul, 1) := by decide +kernel
theorem dX9_writeThird_14 : decode cX9_writeThird 14 = .ok (.if_icmp .ge 29, 3) := by decide +kernel
theorem dX9_writeThird_17 : decode cX9_writeThird 17 = .ok (.iload_n 1, 1) := by decide +kernel
theorem dX9_writeThird_18 : decode cX9_writeThird 18 = .ok (.ifCond .eq 25, 3) := by decide +kernel
theorem dX9_writeThird_21 : decode cX9_writeThird 21 = .ok (.aload_n 0, 1) := by decide +kernel
theorem dX9_writeThird_22 : decode cX9_writeThird 22 = .ok (.iload_n 3, 1) := by decide +kernel
theorem dX9_writeThird_23 : decode cX9_writeThird 23 = .ok (.invokevirtual 97, 3) := by decide +kernel
theorem dX9_writeThird_26 : decode cX9_writeThird 26 = .ok (.ifCond .ge 9, 3) := by decide +kernel
theorem dX9_writeThird_29 : decode cX9_writeThird 29 = .ok (.iload_n 2, 1) := by decide +kernel
theorem dX9_writeThird_30 : decode cX9_writeThird 30 = .ok (.iconst 1, 1) := by decide +kernel
theorem dX9_writeThird_31 : decode cX9_writeThird 31 = .ok (.iadd, 1) := by decide +kernel
theorem dX9_writeThird_32 : decode cX9_writeThird 32 = .ok (.goto 4, 3) := by decide +kernel
theorem dX9_writeThird_35 : decode cX9_writeThird 35 = .ok (.iload_n 2, 1) := by decide +kernel
theorem dX9_writeThird_36 : decode cX9_writeThird 36 = .ok (.istore_n 2, 1) := by decide +kernel
theorem dX9_writeThird_37 : decode cX9_writeThird 37 = .ok (.iinc 3 1, 3) := by decide +kernel
theorem dX9_writeThird_40 : decode cX9_writeThird 40 = .ok (.goto (-36), 3) := by decide +kernel
theorem dX9_writeThird_43 : decode cX9_writeThird 43 = .ok (.aload_n 0, 1) := by decide +kernel
theorem dX9_writeThird_44 : decode cX9_writeThird 44 = .ok (.bipush 66, 2) := by decide +kernel
theorem dX9_writeThird_46 : decode cX9_writeThird 46 = .ok (.bipush 77, 2) := by decide +kernel
theorem dX9_writeThird_48 : decode cX9_writeThird 48 = .ok (.invokevirtual 71, 3) := by decide +kernel
theorem dX9_writeThird_51 : decode cX9_writeThird 51 = .ok (.aload_n 0, 1) := by decide +kernel
theorem dX9_writeThird_52 : decode cX9_writeThird 52 = .ok (.iconst 0, 1) := by decide +kernel
theorem dX9_writeThird_53 : decode cX9_writeThird 53 = .ok (.bipush 8, 2) := by decide +kernel
theorem dX9_writeThird_55 : decode cX9_writeThird 55 = .ok (.invokevirtual 100, 3) := by decide +kernel
theorem dX9_writeThird_58 : decode cX9_writeThird 58 = .ok (.aload_n 0, 1) := by decide +kernel
theorem dX9_writeThird_59 : decode cX9_writeThird 59 = .ok (.bipush 54, 2) := by decide +kernel
theorem dX9_writeThird_61 : decode cX9_writeThird 61 = .ok (.iconst 4, 1) := by decide +kernel
theorem dX9_writeThird_62 : decode cX9_writeThird 62 = .ok (.iload_n 2, 1) := by decide +kernel
theorem dX9_writeThird_63 : decode cX9_writeThird 63 = .ok (.imul, 1) := by decide +kernel
theorem dX9_writeThird_64 : decode cX9_writeThird 64 = .ok (.iadd, 1) := by decide +kernel
theorem dX9_writeThird_65 : decode cX9_writeThird 65 = .ok (.iconst 4, 1) := by decide +kernel
theorem dX9_writeThird_66 : decode cX9_writeThird 66 = .ok (.invokevirtual 100, 3) := by decide +kernel
theorem dX9_writeThird_69 : decode cX9_writeThird 69 = .ok (.aload_n 0, 1) := by decide +kernel
theorem dX9_writeThird_70 : decode cX9_writeThird 70 = .ok (.bipush 40, 2) := by decide +kernel
theorem dX9_writeThird_72 : decode cX9_writeThird 72 = .ok (.iconst 4, 1) := by decide +kernel
theorem dX9_writeThird_73 : decode cX9_writeThird 73 = .ok (.invokevirtual 100, 3) := by decide +kernel
theorem dX9_writeThird_76 : decode cX9_writeThird 76 = .ok (.aload_n 0, 1) := by decide +kernel
theorem dX9_writeThird_77 : decode cX9_writeThird 77 = .ok (.aload_n 0, 1) := by decide +kernel
theorem dX9_writeThird_78 : decode cX9_writeThird 78 = .ok (.getfield 7, 3) := by decide +kernel
theorem dX9_writeThird_81 : decode cX9_writeThird 81 = .ok (.iconst 4, 1) := by decide +kernel
theorem dX9_writeThird_82 : decode cX9_writeThird 82 = .ok (.invokevirtual 100, 3) := by decide +kernel
theorem dX9_writeThird_85 : decode cX9_writeThird 85 = .ok (.aload_n 0, 1) := by decide +kernel
theorem dX9_writeThird_86 : decode cX9_writeThird 86 = .ok (.aload_n 0, 1) := by decide +kernel
theorem dX9_writeThird_87 : decode cX9_writeThird 87 = .ok (.getfield 13, 3) := by decide +kernel
theorem dX9_writeThird_90 : decode cX9_writeThird 90 = .ok (.iconst 4, 1) := by decide +kernel
theorem dX9_writeThird_91 : decode cX9_writeThird 91 = .ok (.invokevirtual 100, 3) := by decide +kernel
theorem dX9_writeThird_94 : decode cX9_writeThird 94 = .ok (.aload_n 0, 1) := by decide +kernel
theorem dX9_writeThird_95 : decode cX9_writeThird 95 = .ok (.iconst 1, 1) := by decide +kernel
theorem dX9_writeThird_96 : decode cX9_writeThird 96 = .ok (.iconst 2, 1) := by decide +kernel
theorem dX9_writeThird_97 : decode cX9_writeThird 97 = .ok (.invokevirtual 100, 3) := by decide +kernel
theorem dX9_writeThird_100 : decode cX9_writeThird 100 = .ok (.aload_n 0, 1) := by decide +kernel
theorem dX9_writeThird_101 : decode cX9_writeThird 101 = .ok (.iload_n 1, 1) := by decide +kernel
theorem dX9_writeThird_102 : decode cX9_writeThird 102 = .ok (.ifCond .eq 8, 3) := by decide +kernel
theorem dX9_writeThird_105 : decode cX9_writeThird 105 = .ok (.bipush 8, 2) := by decide +kernel
theorem dX9_writeThird_107 : decode cX9_writeThird 107 = .ok (.goto 5, 3) := by decide +kernel
theorem dX9_writeThird_110 : decode cX9_writeThird 110 = .ok (.bipush 24, 2) := by decide +kernel
theorem dX9_writeThird_112 : decode cX9_writeThird 112 = .ok (.iconst 2, 1) := by decide +kernel
theorem dX9_writeThird_113 : decode cX9_writeThird 113 = .ok (.invokevirtual 100, 3) := by decide +kernel
theorem dX9_writeThird_116 : decode cX9_writeThird 116 = .ok (.aload_n 0, 1) := by decide +kernel
theorem dX9_writeThird_117 : decode cX9_writeThird 117 = .ok (.iload_n 1, 1) := by decide +kernel
theorem dX9_writeThird_118 : decode cX9_writeThird 118 = .ok (.ifCond .eq 7, 3) := by decide +kernel
theorem dX9_writeThird_121 : decode cX9_writeThird 121 = .ok (.iconst 1, 1) := by decide +kernel
theorem dX9_writeThird_122 : decode cX9_writeThird 122 = .ok (.goto 4, 3) := by decide +kernel
theorem dX9_writeThird_125 : decode cX9_writeThird 125 = .ok (.iconst 0, 1) := by decide +kernel
theorem dX9_writeThird_126 : decode cX9_writeThird 126 = .ok (.iconst 4, 1) := by decide +kernel
theorem dX9_writeThird_127 : decode cX9_writeThird 127 = .ok (.invokevirtual 100, 3) := by decide +kernel
theorem dX9_writeThird_130 : decode cX9_writeThird 130 = .ok (.aload_n 0, 1) := by decide +kernel
theorem dX9_writeThird_131 : decode cX9_writeThird 131 = .ok (.iconst 0, 1) := by decide +kernel
theorem dX9_writeThird_132 : decode cX9_writeThird 132 = .ok (.bipush 12, 2) := by decide +kernel
theorem dX9_writeThird_134 : decode cX9_writeThird 134 = .ok (.invokevirtual 100, 3) := by decide +kernel
theorem dX9_writeThird_137 : decode cX9_writeThird 137 = .ok (.aload_n 0, 1) := by decide +kernel
theorem dX9_writeThird_138 : decode cX9_writeThird 138 = .ok (.iload_n 2, 1) := by decide +kernel
theorem dX9_writeThird_139 : decode cX9_writeThird 139 = .ok (.iconst 4, 1) := by decide +kernel
theorem dX9_writeThird_140 : decode cX9_writeThird 140 = .ok (.invokevirtual 100, 3) := by decide +kernel
theorem dX9_writeThird_143 : decode cX9_writeThird 143 = .ok (.aload_n 0, 1) := by decide +kernel
theorem dX9_writeThird_144 : decode cX9_writeThird 144 = .ok (.iconst 0, 1) := by decide +kernel
theorem dX9_writeThird_145 : decode cX9_writeThird 145 = .ok (.iconst 4, 1) := by decide +kernel
theorem dX9_writeThird_146 : decode cX9_writeThird 146 = .ok (.invokevirtual 100, 3) := by decide +kernel
theorem dX9_writeThird_149 : decode cX9_writeThird 149 = .ok (.iconst 0, 1) := by decide +kernel
theorem dX9_writeThird_150 : decode cX9_writeThird 150 = .ok (.istore_n 3, 1) := by decide +kernel
theorem dX9_writeThird_151 : decode cX9_writeThird 151 = .ok (.iload_n 3, 1) := by decide +kernel
theorem dX9_writeThird_152 : decode cX9_writeThird 152 = .ok (.aload_n 0, 1) := by decide +kernel
theorem dX9_writeThird_153 : decode cX9_writeThird 153 = .ok (.getfield 7, 3) := by decide +kernel
theorem dX9_writeThird_156 : decode cX9_writeThird 156 = .ok (.aload_n 0, 1) := by decide +kernel
theorem dX9_writeThird_157 : decode cX9_writeThird 157 = .ok (.getfield 13, 3) := by decide +kernel
theorem dX9_writeThird_160 : decode cX9_writeThird 160 = .ok (.imul, 1) := by decide +kernel
theorem dX9_writeThird_161 : decode cX9_writeThird 161 = .ok (.if_icmp .ge 31, 3) := by decide +kernel
theorem dX9_writeThird_164 : decode cX9_writeThird 164 = .ok (.iload_n 1, 1) := by decide +kernel
theorem dX9_writeThird_165 : decode cX9_writeThird 165 = .ok (.ifCond .eq 27, 3) := by decide +kernel
theorem dX9_writeThird_168 : decode cX9_writeThird 168 = .ok (.aload_n 0, 1) := by decide +kernel
theorem dX9_writeThird_169 : decode cX9_writeThird 169 = .ok (.iload_n 3, 1) := by decide +kernel
theorem dX9_writeThird_170 : decode cX9_writeThird 170 = .ok (.invokevirtual 97, 3) := by decide +kernel
theorem dX9_writeThird_173 : decode cX9_writeThird 173 = .ok (.ifCond .ge 13, 3) := by decide +kernel
theorem dX9_writeThird_176 : decode cX9_writeThird 176 = .ok (.aload_n 0, 1) := by decide +kernel
theorem dX9_writeThird_177 : decode cX9_writeThird 177 = .ok (.iload_n 3, 1) := by decide +kernel
theorem dX9_writeThird_178 : decode cX9_writeThird 178 = .ok (.invokevirtual 103, 3) := by decide +kernel
theorem dX9_writeThird_181 : decode cX9_writeThird 181 = .ok (.aload_n 0, 1) := by decide +kernel
theorem dX9_writeThird_182 : decode cX9_writeThird 182 = .ok (.iconst 0, 1) := by decide +kernel
theorem dX9_writeThird_183 : decode cX9_writeThird 183 = .ok (.invokevirtual 63, 3) := by decide +kernel
theorem dX9_writeThird_186 : decode cX9_writeThird 186 = .ok (.iinc 3 1, 3) := by decide +kernel
theorem dX9_writeThird_189 : decode cX9_writeThird 189 = .ok (.goto (-38), 3) := by decide +kernel
theorem dX9_writeThird_192 : decode cX9_writeThird 192 = .ok (.aload_n 0, 1) := by decide +kernel
theorem dX9_writeThird_193 : decode cX9_writeThird 193 = .ok (.getfield 13, 3) := by decide +kernel
theorem dX9_writeThird_196 : decode cX9_writeThird 196 = .ok (.iconst 1, 1) := by decide +kernel
theorem dX9_writeThird_197 : decode cX9_writeThird 197 = .ok (.isub, 1) := by decide +kernel
theorem dX9_writeThird_198 : decode cX9_writeThird 198 = .ok (.istore_n 3, 1) := by decide +kernel
theorem dX9_writeThird_199 : decode cX9_writeThird 199 = .ok (.iload_n 3, 1) := by decide +kernel
theorem dX9_writeThird_200 : decode cX9_writeThird 200 = .ok (.ifCond .lt 63, 3) := by decide +kernel
theorem dX9_writeThird_203 : decode cX9_writeThird 203 = .ok (.iload_n 1, 1) := by decide +kernel
theorem dX9_writeThird_204 : decode cX9_writeThird 204 = .ok (.ifCond .eq 11, 3) := by decide +kernel
theorem dX9_writeThird_207 : decode cX9_writeThird 207 = .ok (.aload_n 0, 1) := by decide +kernel
theorem dX9_writeThird_208 : decode cX9_writeThird 208 = .ok (.iload_n 3, 1) := by decide +kernel
theorem dX9_writeThird_209 : decode cX9_writeThird 209 = .ok (.invokevirtual 106, 3) := by decide +kernel
theorem dX9_writeThird_212 : decode cX9_writeThird 212 = .ok (.goto 45, 3) := by decide +kernel
theorem dX9_writeThird_215 : decode cX9_writeThird 215 = .ok (.iconst 0, 1) := by decide +kernel
theorem dX9_writeThird_216 : decode cX9_writeThird 216 = .ok (.istore 4, 2) := by decide +kernel
theorem dX9_writeThird_218 : decode cX9_writeThird 218 = .ok (.iload 4, 2) := by decide +kernel
theorem dX9_writeThird_220 : decode cX9_writeThird 220 = .ok (.aload_n 0, 1) := by decide +kernel
theorem dX9_writeThird_221 : decode cX9_writeThird 221 = .ok (.getfield 7, 3) := by decide +kernel
theorem dX9_writeThird_224 : decode cX9_writeThird 224 = .ok (.if_icmp .ge 22, 3) := by decide +kernel
theorem dX9_writeThird_227 : decode cX9_writeThird 227 = .ok (.aload_n 0, 1) := by decide +kernel
theorem dX9_writeThird_228 : decode cX9_writeThird 228 = .ok (.aload_n 0, 1) := by decide +kernel
theorem dX9_writeThird_229 : decode cX9_writeThird 229 = .ok (.getfield 7, 3) := by decide +kernel
theorem dX9_writeThird_232 : decode cX9_writeThird 232 = .ok (.iload_n 3, 1) := by decide +kernel
theorem dX9_writeThird_233 : decode cX9_writeThird 233 = .ok (.imul, 1) := by decide +kernel
theorem dX9_writeThird_234 : decode cX9_writeThird 234 = .ok (.iload 4, 2) := by decide +kernel
theorem dX9_writeThird_236 : decode cX9_writeThird 236 = .ok (.iadd, 1) := by decide +kernel
theorem dX9_writeThird_237 : decode cX9_writeThird 237 = .ok (.invokevirtual 103, 3) := by decide +kernel
theorem dX9_writeThird_240 : decode cX9_writeThird 240 = .ok (.iinc 4 1, 3) := by decide +kernel
theorem dX9_writeThird_243 : decode cX9_writeThird 243 = .ok (.goto (-25), 3) := by decide +kernel
theorem dX9_writeThird_246 : decode cX9_writeThird 246 = .ok (.aload_n 0, 1) := by decide +kernel
theorem dX9_writeThird_247 : decode cX9_writeThird 247 = .ok (.iconst 0, 1) := by decide +kernel
theorem dX9_writeThird_248 : decode cX9_writeThird 248 = .ok (.aload_n 0, 1) := by decide +kernel
theorem dX9_writeThird_249 : decode cX9_writeThird 249 = .ok (.getfield 7, 3) := by decide +kernel
theorem dX9_writeThird_252 : decode cX9_writeThird 252 = .ok (.iconst 4, 1) := by decide +kernel
theorem dX9_writeThird_253 : decode cX9_writeThird 253 = .ok (.irem, 1) := by decide +kernel
theorem dX9_writeThird_254 : decode cX9_writeThird 254 = .ok (.invokevirtual 100, 3) := by decide +kernel
theorem dX9_writeThird_257 : decode cX9_writeThird 257 = .ok (.iinc 3 (-1), 3) := by decide +kernel
theorem dX9_writeThird_260 : decode cX9_writeThird 260 = .ok (.goto (-61), 3) := by decide +kernel
theorem dX9_writeThird_263 : decode cX9_writeThird 263 = .ok (.aload_n 0, 1) := by decide +kernel
theorem dX9_writeThird_264 : decode cX9_writeThird 264 = .ok (.getfield 57, 3) := by decide +kernel
theorem dX9_writeThird_267 : decode cX9_writeThird 267 = .ok (.istore_n 3, 1) := by decide +kernel
theorem dX9_writeThird_268 : decode cX9_writeThird 268 = .ok (.aload_n 0, 1) := by decide +kernel
theorem dX9_writeThird_269 : decode cX9_writeThird 269 = .ok (.iconst 2, 1) := by decide +kernel
theorem dX9_writeThird_270 : decode cX9_writeThird 270 = .ok (.putfield 57, 3) := by decide +kernel
theorem dX9_writeThird_273 : decode cX9_writeThird 273 = .ok (.aload_n 0, 1) := by decide +kernel
theorem dX9_writeThird_274 : decode cX9_writeThird 274 = .ok (.iload_n 3, 1) := by decide +kernel
theorem dX9_writeThird_275 : decode cX9_writeThird 275 = .ok (.iconst 4, 1) := by decide +kernel
theorem dX9_writeThird_276 : decode cX9_writeThird 276 = .ok (.invokevirtual 100, 3) := by decide +kernel
theorem dX9_writeThird_279 : decode cX9_writeThird 279 = .ok (.aload_n 0, 1) := by decide +kernel
theorem dX9_writeThird_280 : decode cX9_writeThird 280 = .ok (.iload_n 3, 1) := by decide +kernel
theorem dX9_writeThird_281 : decode cX9_writeThird 281 = .ok (.putfield 57, 3) := by decide +kernel
theorem dX9_writeThird_284 : decode cX9_writeThird 284 = .ok (.return_, 1) := by decide +kernel
set_option maxRecDepth 20000 in
theorem ggX9_pairs_X9_alike : GoodIn wsX9_pairs wsX9_alike := goodIn_r _ [6, 7, 8, 9, 5, 10, 11, 1, 26, 27, 28, 29, 30, 31, 32, 33, 34, 35, 36, 37, 38, 39, 40] (by decide +kernel) (by decide +kernel)
set_option maxRecDepth 20000 in
theorem gX9_pairs_X9_alike : GoodIn wsX9_pairs (wsV RX9 94 RX9 yX9_alike wsX9_alike) := goodIn_app (goodIn_of _ (by decide +kernel)) ggX9_pairs_X9_alike
set_option maxRecDepth 20000 in
theorem ggX9_pairs_X9_colourOf : GoodIn wsX9_pairs wsX9_colourOf := goodIn_r _ [15, 2, 3, 4, 5, 6, 7, 8, 9, 10, 11, 1, 26, 27, 28, 29, 30, 31, 32, 33, 34, 35, 36, 37, 38, 39, 40] (by decide +kernel) (by decide +kernel)
set_option maxRecDepth 20000 in
theorem gX9_pairs_X9_colourOf : GoodIn wsX9_pairs (wsV RX9 97 RX9 yX9_colourOf wsX9_colourOf) := goodIn_app (goodIn_of _ (by decide +kernel)) ggX9_pairs_X9_colourOf
set_option maxRecDepth 20000 in
theorem ggX9_pairs_X9_add : GoodIn wsX9_pairs wsX9_add := goodIn_r _ [19, 20, 21, 26, 27, 28, 29, 30, 31, 32, 33, 34, 35, 36, 37, 38, 39, 40] (by decide +kernel) (by decide +kernel)
set_option maxRecDepth 20000 in
theorem gX9_pairs_X9_add : GoodIn wsX9_pairs (wsV RX9 63 RX9 yX9_add wsX9_add) := goodIn_app (goodIn_of _ (by decide +kernel)) ggX9_pairs_X9_add
set_option maxRecDepth 20000 in
theorem ggX9_pairs_X9_addTwo : GoodIn wsX9_pairs wsX9_addTwo := goodIn_r _ [25, 16, 17, 18, 5, 19, 20, 21, 26, 27, 28, 29, 30, 31, 32, 33, 34, 35, 36, 37, 38, 39, 40] (by decide +kernel) (by decide +kernel)
set_option maxRecDepth 20000 in
theorem gX9_pairs_X9_addTwo : GoodIn wsX9_pairs (wsV RX9 71 RX9 yX9_addTwo wsX9_addTwo) := goodIn_app (goodIn_of _ (by decide +kernel)) ggX9_pairs_X9_addTwo
theorem dX9_pairs_0 : decode cX9_pairs 0 = .ok (.iconst 0, 1) := by decide +kernel
theorem dX9_pairs_1 : decode cX9_pairs 1 = .ok (.istore_n 2, 1) := by decide +kernel
theorem dX9_pairs_2 : decode cX9_pairs 2 = .ok (.iload_n 2, 1) := by decide +kernel
theorem dX9_pairs_3 : decode cX9_pairs 3 = .ok (.aload_n 0, 1) := by decide +kernel
theorem dX9_pairs_4 : decode cX9_pairs 4 = .ok (.getfield 7, 3) := by decide +kernel
theorem dX9_pairs_7 : decode cX9_pairs 7 = .ok (.if_icmp .ge 90, 3) := by decide +kernel
theorem dX9_pairs_10 : decode cX9_pairs 10 = .ok (.iconst 1, 1) := by decide +kernel
theorem dX9_pairs_11 : decode cX9_pairs 11 = .ok (.istore_n 3, 1) := by decide +kernel
theorem dX9_pairs_12 : decode cX9_pairs 12 = .ok (.iload_n 2, 1) := by decide +kernel
theorem dX9_pairs_13 : decode cX9_pairs 13 = .ok (.iload_n 3, 1) := by decide +kernel
theorem dX9_pairs_14 : decode cX9_pairs 14 = .ok (.iadd, 1) := by decide +kernel
theorem dX9_pairs_15 : decode cX9_pairs 15 = .ok (.aload_n 0, 1) := by decide +kernel
theorem dX9_pairs_16 : decode cX9_pairs 16 = .ok (.getfield 7, 3) := by decide +kernel
theorem dX9_pairs_19 : decode cX9_pairs 19 = .ok (.if_icmp .ge 34, 3) := by decide +kernel
theorem dX9_pairs_22 : decode cX9_pairs 22 = .ok (.aload_n 0, 1) := by decide +kernel
theorem dX9_pairs_23 : decode cX9_pairs 23 = .ok (.aload_n 0, 1) := by decide +kernel
theorem dX9_pairs_24 : decode cX9_pairs 24 = .ok (.getfield 7, 3) := by decide +kernel
theorem dX9_pairs_27 : decode cX9_pairs 27 = .ok (.iload_n 1, 1) := by decide +kernel
theorem dX9_pairs_28 : decode cX9_pairs 28 = .ok (.imul, 1) := by decide +kernel
theorem dX9_pairs_29 : decode cX9_pairs 29 = .ok (.iload_n 2, 1) := by decide +kernel
theorem dX9_pairs_30 : decode cX9_pairs 30 = .ok (.iadd, 1) := by decide +kernel
theorem dX9_pairs_31 : decode cX9_pairs 31 = .ok (.aload_n 0, 1) := by decide +kernel
theorem dX9_pairs_32 : decode cX9_pairs 32 = .ok (.getfield 7, 3) := by decide +kernel
theorem dX9_pairs_35 : decode cX9_pairs 35 = .ok (.iload_n 1, 1) := by decide +kernel
theorem dX9_pairs_36 : decode cX9_pairs 36 = .ok (.imul, 1) := by decide +kernel
theorem dX9_pairs_37 : decode cX9_pairs 37 = .ok (.iload_n 2, 1) := by decide +kernel
theorem dX9_pairs_38 : decode cX9_pairs 38 = .ok (.iadd, 1) := by decide +kernel
theorem dX9_pairs_39 : decode cX9_pairs 39 = .ok (.iload_n 3, 1) := by decide +kernel
theorem dX9_pairs_40 : decode cX9_pairs 40 = .ok (.iadd, 1) := by decide +kernel
theorem dX9_pairs_41 : decode cX9_pairs 41 = .ok (.invokevirtual 94, 3) := by decide +kernel
theorem dX9_pairs_44 : decode cX9_pairs 44 = .ok (.ifCond .eq 9, 3) := by decide +kernel
theorem dX9_pairs_47 : decode cX9_pairs 47 = .ok (.iinc 3 1, 3) := by decide +kernel
theorem dX9_pairs_50 : decode cX9_pairs 50 = .ok (.goto (-38), 3) := by decide +kernel
theorem dX9_pairs_53 : decode cX9_pairs 53 = .ok (.aload_n 0, 1) := by decide +kernel
theorem dX9_pairs_54 : decode cX9_pairs 54 = .ok (.aload_n 0, 1) := by decide +kernel
theorem dX9_pairs_55 : decode cX9_pairs 55 = .ok (.getfield 7, 3) := by decide +kernel
theorem dX9_pairs_58 : decode cX9_pairs 58 = .ok (.iload_n 1, 1) := by decide +kernel
theorem dX9_pairs_59 : decode cX9_pairs 59 = .ok (.imul, 1) := by decide +kernel
theorem dX9_pairs_60 : decode cX9_pairs 60 = .ok (.iload_n 2, 1) := by decide +kernel
theorem dX9_pairs_61 : decode cX9_pairs 61 = .ok (.iadd, 1) := by decide +kernel
theorem dX9_pairs_62 : decode cX9_pairs 62 = .ok (.invokevirtual 97, 3) := by decide +kernel
theorem dX9_pairs_65 : decode cX9_pairs 65 = .ok (.istore 4, 2) := by decide +kernel
theorem dX9_pairs_67 : decode cX9_pairs 67 = .ok (.aload_n 0, 1) := by decide +kernel
theorem dX9_pairs_68 : decode cX9_pairs 68 = .ok (.iload_n 3, 1) := by decide +kernel
theorem dX9_pairs_69 : decode cX9_pairs 69 = .ok (.invokevirtual 63, 3) := by decide +kernel
theorem dX9_pairs_72 : decode cX9_pairs 72 = .ok (.aload_n 0, 1) := by decide +kernel
theorem dX9_pairs_73 : decode cX9_pairs 73 = .ok (.iload 4, 2) := by decide +kernel
theorem dX9_pairs_75 : decode cX9_pairs 75 = .ok (.ifCond .ge 10, 3) := by decide +kernel
theorem dX9_pairs_78 : decode cX9_pairs 78 = .ok (.iconst (-1), 1) := by decide +kernel
theorem dX9_pairs_79 : decode cX9_pairs 79 = .ok (.iload 4, 2) := by decide +kernel
theorem dX9_pairs_81 : decode cX9_pairs 81 = .ok (.isub, 1) := by decide +kernel
theorem dX9_pairs_82 : decode cX9_pairs 82 = .ok (.goto 5, 3) := by decide +kernel
theorem dX9_pairs_85 : decode cX9_pairs 85 = .ok (.iload 4, 2) := by decide +kernel
theorem dX9_pairs_87 : decode cX9_pairs 87 = .ok (.invokevirtual 63, 3) := by decide +kernel
theorem dX9_pairs_90 : decode cX9_pairs 90 = .ok (.iload_n 2, 1) := by decide +kernel
theorem dX9_pairs_91 : decode cX9_pairs 91 = .ok (.iload_n 3, 1) := by decide +kernel
theorem dX9_pairs_92 : decode cX9_pairs 92 = .ok (.iadd, 1) := by decide +kernel
theorem dX9_pairs_93 : decode cX9_pairs 93 = .ok (.istore_n 2, 1) := by decide +kernel
theorem dX9_pairs_94 : decode cX9_pairs 94 = .ok (.goto (-92), 3) := by decide +kernel
theorem dX9_pairs_97 : decode cX9_pairs 97 = .ok (.aload_n 0, 1) := by decide +kernel
theorem dX9_pairs_98 : decode cX9_pairs 98 = .ok (.iconst 0, 1) := by decide +kernel
theorem dX9_pairs_99 : decode cX9_pairs 99 = .ok (.iload_n 1, 1) := by decide +kernel
theorem dX9_pairs_100 : decode cX9_pairs 100 = .ok (.ifCond .ne 7, 3) := by decide +kernel
theorem dX9_pairs_103 : decode cX9_pairs 103 = .ok (.iconst 1, 1) := by decide +kernel
theorem dX9_pairs_104 : decode cX9_pairs 104 = .ok (.goto 4, 3) := by decide +kernel
theorem dX9_pairs_107 : decode cX9_pairs 107 = .ok (.iconst 0, 1) := by decide +kernel
theorem dX9_pairs_108 : decode cX9_pairs 108 = .ok (.invokevirtual 71, 3) := by decide +kernel
theorem dX9_pairs_111 : decode cX9_pairs 111 = .ok (.return_, 1) := by decide +kernel
set_option maxRecDepth 20000 in
theorem ggX9_tones_X9_channel : GoodIn wsX9_tones wsX9_channel := goodIn_r _ [5, 6, 7, 18, 19, 20, 21, 22, 23, 24, 25, 26, 27, 28, 29, 30, 31, 32] (by decide +kernel) (by decide +kernel)
set_option maxRecDepth 20000 in
theorem gX9_tones_X9_channel : GoodIn wsX9_tones (wsV RX9 49 RX9 yX9_channel wsX9_channel) := goodIn_app (goodIn_of _ (by decide +kernel)) ggX9_tones_X9_channel
set_option maxRecDepth 20000 in
theorem ggX9_tones_X9_add : GoodIn wsX9_tones wsX9_add := goodIn_r _ [11, 12, 13, 18, 19, 20, 21, 22, 23, 24, 25, 26, 27, 28, 29, 30, 31, 32] (by decide +kernel) (by decide +kernel)
set_option maxRecDepth 20000 in
theorem gX9_tones_X9_add : GoodIn wsX9_tones (wsV RX9 63 RX9 yX9_add wsX9_add) := goodIn_app (goodIn_of _ (by decide +kernel)) ggX9_tones_X9_add
set_option maxRecDepth 20000 in
theorem ggX9_tones_X9_backwards : GoodIn wsX9_tones wsX9_backwards := goodIn_r _ [17, 1, 2, 3, 4, 5, 6, 7, 8, 9, 10, 11, 12, 13, 18, 19, 20, 21, 22, 23, 24, 25, 26, 27, 28, 29, 30, 31, 32] (by decide +kernel) (by decide +kernel)
set_option maxRecDepth 20000 in
theorem gX9_tones_X9_backwards : GoodIn wsX9_tones (wsV RX9 103 RX9 yX9_backwards wsX9_backwards) := goodIn_app (goodIn_of _ (by decide +kernel)) ggX9_tones_X9_backwards
theorem dX9_tones_0 : decode cX9_tones 0 = .ok (.iload_n 2, 1) := by decide +kernel
theorem dX9_tones_1 : decode cX9_tones 1 = .ok (.iconst 1, 1) := by decide +kernel
theorem dX9_tones_2 : decode cX9_tones 2 = .ok (.if_icmp .ne 16, 3) := by decide +kernel
theorem dX9_tones_5 : decode cX9_tones 5 = .ok (.aload_n 0, 1) := by decide +kernel
theorem dX9_tones_6 : decode cX9_tones 6 = .ok (.aload_n 0, 1) := by decide +kernel
theorem dX9_tones_7 : decode cX9_tones 7 = .ok (.iload_n 1, 1) := by decide +kernel
theorem dX9_tones_8 : decode cX9_tones 8 = .ok (.iconst 0, 1) := by decide +kernel
theorem dX9_tones_9 : decode cX9_tones 9 = .ok (.invokevirtual 49, 3) := by decide +kernel
theorem dX9_tones_12 : decode cX9_tones 12 = .ok (.invokevirtual 63, 3) := by decide +kernel
theorem dX9_tones_15 : decode cX9_tones 15 = .ok (.goto 23, 3) := by decide +kernel
theorem dX9_tones_18 : decode cX9_tones 18 = .ok (.aload_n 0, 1) := by decide +kernel
theorem dX9_tones_19 : decode cX9_tones 19 = .ok (.iload_n 1, 1) := by decide +kernel
theorem dX9_tones_20 : decode cX9_tones 20 = .ok (.invokevirtual 103, 3) := by decide +kernel
theorem dX9_tones_23 : decode cX9_tones 23 = .ok (.iload_n 2, 1) := by decide +kernel
theorem dX9_tones_24 : decode cX9_tones 24 = .ok (.iconst 4, 1) := by decide +kernel
theorem dX9_tones_25 : decode cX9_tones 25 = .ok (.if_icmp .ne 13, 3) := by decide +kernel
theorem dX9_tones_28 : decode cX9_tones 28 = .ok (.aload_n 0, 1) := by decide +kernel
theorem dX9_tones_29 : decode cX9_tones 29 = .ok (.aload_n 0, 1) := by decide +kernel
theorem dX9_tones_30 : decode cX9_tones 30 = .ok (.iload_n 1, 1) := by decide +kernel
theorem dX9_tones_31 : decode cX9_tones 31 = .ok (.iconst 3, 1) := by decide +kernel
theorem dX9_tones_32 : decode cX9_tones 32 = .ok (.invokevirtual 49, 3) := by decide +kernel
theorem dX9_tones_35 : decode cX9_tones 35 = .ok (.invokevirtual 63, 3) := by decide +kernel
theorem dX9_tones_38 : decode cX9_tones 38 = .ok (.return_, 1) := by decide +kernel
set_option maxRecDepth 20000 in
theorem ggX9_writeFourth_X9_grey : GoodIn wsX9_writeFourth wsX9_grey := goodIn_r _ [7, 1, 2, 8, 9, 10, 6, 11, 12, 13, 14, 15, 16, 47, 48, 49, 50, 51, 52, 53, 54, 55, 56, 57, 58, 59, 60, 61] (by decide +kernel) (by decide +kernel)
set_option maxRecDepth 20000 in
theorem gX9_writeFourth_X9_grey : GoodIn wsX9_writeFourth (wsV RX9 88 RX9 yX9_grey wsX9_grey) := goodIn_app (goodIn_of _ (by decide +kernel)) ggX9_writeFourth_X9_grey
set_option maxRecDepth 20000 in
theorem ggX9_writeFourth_X9_opaque : GoodIn wsX9_writeFourth wsX9_opaque := goodIn_r _ [11, 1, 2, 12, 13, 14, 6, 15, 16, 47, 48, 49, 50, 51, 52, 53, 54, 55, 56, 57, 58, 59, 60, 61] (by decide +kernel) (by decide +kernel)
set_option maxRecDepth 20000 in
theorem gX9_writeFourth_X9_opaque : GoodIn wsX9_writeFourth (wsV RX9 53 RX9 yX9_opaque wsX9_opaque) := goodIn_app (goodIn_of _ (by decide +kernel)) ggX9_writeFourth_X9_opaque
set_option maxRecDepth 20000 in
theorem ggX9_writeFourth_X9_addTwo : GoodIn wsX9_writeFourth wsX9_addTwo := goodIn_r _ [20, 21, 22, 23, 6, 24, 25, 26, 47, 48, 49, 50, 51, 52, 53, 54, 55, 56, 57, 58, 59, 60, 61] (by decide +kernel) (by decide +kernel)
set_option maxRecDepth 20000 in
theorem gX9_writeFourth_X9_addTwo : GoodIn wsX9_writeFourth (wsV RX9 71 RX9 yX9_addTwo wsX9_addTwo) := goodIn_app (goodIn_of _ (by decide +kernel)) ggX9_writeFourth_X9_addTwo
set_option maxRecDepth 20000 in
theorem ggX9_writeFourth_X9_add : GoodIn wsX9_writeFourth wsX9_add := goodIn_r _ [24, 25, 26, 47, 48, 49, 50, 51, 52, 53, 54, 55, 56, 57, 58, 59, 60, 61] (by decide +kernel) (by decide +kernel)
set_option maxRecDepth 20000 in
theorem gX9_writeFourth_X9_add : GoodIn wsX9_writeFourth (wsV RX9 63 RX9 yX9_add wsX9_add) := goodIn_app (goodIn_of _ (by decide +kernel)) ggX9_writeFourth_X9_add
set_option maxRecDepth 20000 in
theorem ggX9_writeFourth_X9_little : GoodIn wsX9_writeFourth wsX9_little := goodIn_r _ [30, 21, 22, 23, 6, 24, 25, 26, 47, 48, 49, 50, 51, 52, 53, 54, 55, 56, 57, 58, 59, 60, 61] (by decide +kernel) (by decide +kernel)
set_option maxRecDepth 20000 in
theorem gX9_writeFourth_X9_little : GoodIn wsX9_writeFourth (wsV RX9 100 RX9 yX9_little wsX9_little) := goodIn_app (goodIn_of _ (by decide +kernel)) ggX9_writeFourth_X9_little
set_option maxRecDepth 20000 in
theorem ggX9_writeFourth_X9_tones : GoodIn wsX9_writeFourth wsX9_tones := goodIn_r _ [34, 12, 13, 14, 6, 15, 16, 1, 21, 22, 23, 24, 25, 26, 35, 36, 37, 38, 47, 48, 49, 50, 51, 52, 53, 54, 55, 56, 57, 58, 59, 60, 61] (by decide +kernel) (by decide +kernel)
set_option maxRecDepth 20000 in
theorem gX9_writeFourth_X9_tones : GoodIn wsX9_writeFourth (wsV RX9 109 RX9 yX9_tones wsX9_tones) := goodIn_app (goodIn_of _ (by decide +kernel)) ggX9_writeFourth_X9_tones
set_option maxRecDepth 20000 in
theorem ggX9_writeFourth_X9_packets : GoodIn wsX9_writeFourth wsX9_packets := goodIn_r _ [42, 43, 44, 45, 6, 46, 12, 13, 14, 15, 16, 1, 21, 22, 23, 24, 25, 26, 31, 32, 33, 34, 35, 36, 37, 38, 47, 48, 49, 50, 51, 52, 53, 54, 55, 56, 57, 58, 59, 60, 61] (by decide +kernel) (by decide +kernel)
set_option maxRecDepth 20000 in
theorem gX9_writeFourth_X9_packets : GoodIn wsX9_writeFourth (wsV RX9 112 RX9 yX9_packets wsX9_packets) := goodIn_app (goodIn_of _ (by decide +kernel)) ggX9_writeFourth_X9_packets
theorem dX9_writeFourth_0 : decode cX9_writeFourth 0 = .ok (.aload_n 0, 1) := by decide +kernel
theorem dX9_writeFourth_1 : decode cX9_writeFourth 1 = .ok (.invokevirtual 88, 3) := by decide +kernel
theorem dX9_writeFourth_4 : decode cX9_writeFourth 4 = .ok (.ifCond .eq 7, 3) := by decide +kernel
theorem dX9_writeFourth_7 : decode cX9_writeFourth 7 = .ok (.iconst 1, 1) := by decide +kernel
theorem dX9_writeFourth_8 : decode cX9_writeFourth 8 = .ok (.goto 15, 3) := by decide +kernel
theorem dX9_writeFourth_11 : decode cX9_writeFourth 11 = .ok (.aload_n 0, 1) := by decide +kernel
theorem dX9_writeFourth_12 : decode cX9_writeFourth 12 = .ok (.invokevirtual 53, 3) := by decide +kernel
theorem dX9_writeFourth_15 : decode cX9_writeFourth 15 = .ok (.ifCond .eq 7, 3) := by decide +kernel
theorem dX9_writeFourth_18 : decode cX9_writeFourth 18 = .ok (.iconst 3, 1) := by decide +kernel
theorem dX9_writeFourth_19 : decode cX9_writeFourth 19 = .ok (.goto 4, 3) := by decide +kernel
theorem dX9_writeFourth_22 : decode cX9_writeFourth 22 = .ok (.iconst 4, 1) := by decide +kernel
theorem dX9_writeFourth_23 : decode cX9_writeFourth 23 = .ok (.istore_n 2, 1) := by decide +kernel
theorem dX9_writeFourth_24 : decode cX9_writeFourth 24 = .ok (.aload_n 0, 1) := by decide +kernel
theorem dX9_writeFourth_25 : decode cX9_writeFourth 25 = .ok (.iconst 0, 1) := by decide +kernel
theorem dX9_writeFourth_26 : decode cX9_writeFourth 26 = .ok (.iconst 0, 1) := by decide +kernel
theorem dX9_writeFourth_27 : decode cX9_writeFourth 27 = .ok (.invokevirtual 71, 3) := by decide +kernel
theorem dX9_writeFourth_30 : decode cX9_writeFourth 30 = .ok (.aload_n 0, 1) := by decide +kernel
theorem dX9_writeFourth_31 : decode cX9_writeFourth 31 = .ok (.iload_n 2, 1) := by decide +kernel
theorem dX9_writeFourth_32 : decode cX9_writeFourth 32 = .ok (.iconst 1, 1) := by decide +kernel
theorem dX9_writeFourth_33 : decode cX9_writeFourth 33 = .ok (.if_icmp .ne 7, 3) := by decide +kernel
theorem dX9_writeFourth_36 : decode cX9_writeFourth 36 = .ok (.iconst 3, 1) := by decide +kernel
theorem dX9_writeFourth_37 : decode cX9_writeFourth 37 = .ok (.goto 4, 3) := by decide +kernel
theorem dX9_writeFourth_40 : decode cX9_writeFourth 40 = .ok (.iconst 2, 1) := by decide +kernel
theorem dX9_writeFourth_41 : decode cX9_writeFourth 41 = .ok (.iload_n 1, 1) := by decide +kernel
theorem dX9_writeFourth_42 : decode cX9_writeFourth 42 = .ok (.ifCond .eq 8, 3) := by decide +kernel
theorem dX9_writeFourth_45 : decode cX9_writeFourth 45 = .ok (.bipush 8, 2) := by decide +kernel
theorem dX9_writeFourth_47 : decode cX9_writeFourth 47 = .ok (.goto 4, 3) := by decide +kernel
theorem dX9_writeFourth_50 : decode cX9_writeFourth 50 = .ok (.iconst 0, 1) := by decide +kernel
theorem dX9_writeFourth_51 : decode cX9_writeFourth 51 = .ok (.iadd, 1) := by decide +kernel
theorem dX9_writeFourth_52 : decode cX9_writeFourth 52 = .ok (.invokevirtual 63, 3) := by decide +kernel
theorem dX9_writeFourth_55 : decode cX9_writeFourth 55 = .ok (.aload_n 0, 1) := by decide +kernel
theorem dX9_writeFourth_56 : decode cX9_writeFourth 56 = .ok (.iconst 0, 1) := by decide +kernel
theorem dX9_writeFourth_57 : decode cX9_writeFourth 57 = .ok (.bipush 9, 2) := by decide +kernel
theorem dX9_writeFourth_59 : decode cX9_writeFourth 59 = .ok (.invokevirtual 100, 3) := by decide +kernel
theorem dX9_writeFourth_62 : decode cX9_writeFourth 62 = .ok (.aload_n 0, 1) := by decide +kernel
theorem dX9_writeFourth_63 : decode cX9_writeFourth 63 = .ok (.aload_n 0, 1) := by decide +kernel
theorem dX9_writeFourth_64 : decode cX9_writeFourth 64 = .ok (.getfield 7, 3) := by decide +kernel
theorem dX9_writeFourth_67 : decode cX9_writeFourth 67 = .ok (.iconst 2, 1) := by decide +kernel
theorem dX9_writeFourth_68 : decode cX9_writeFourth 68 = .ok (.invokevirtual 100, 3) := by decide +kernel
theorem dX9_writeFourth_71 : decode cX9_writeFourth 71 = .ok (.aload_n 0, 1) := by decide +kernel
theorem dX9_writeFourth_72 : decode cX9_writeFourth 72 = .ok (.aload_n 0, 1) := by decide +kernel
theorem dX9_writeFourth_73 : decode cX9_writeFourth 73 = .ok (.getfield 13, 3) := by decide +kernel
theorem dX9_writeFourth_76 : decode cX9_writeFourth 76 = .ok (.iconst 2, 1) := by decide +kernel
theorem dX9_writeFourth_77 : decode cX9_writeFourth 77 = .ok (.invokevirtual 100, 3) := by decide +kernel
theorem dX9_writeFourth_80 : decode cX9_writeFourth 80 = .ok (.aload_n 0, 1) := by decide +kernel
theorem dX9_writeFourth_81 : decode cX9_writeFourth 81 = .ok (.bipush 8, 2) := by decide +kernel
theorem dX9_writeFourth_83 : decode cX9_writeFourth 83 = .ok (.iload_n 2, 1) := by decide +kernel
theorem dX9_writeFourth_84 : decode cX9_writeFourth 84 = .ok (.imul, 1) := by decide +kernel
theorem dX9_writeFourth_85 : decode cX9_writeFourth 85 = .ok (.iload_n 2, 1) := by decide +kernel
theorem dX9_writeFourth_86 : decode cX9_writeFourth 86 = .ok (.iconst 4, 1) := by decide +kernel
theorem dX9_writeFourth_87 : decode cX9_writeFourth 87 = .ok (.if_icmp .ne 8, 3) := by decide +kernel
theorem dX9_writeFourth_90 : decode cX9_writeFourth 90 = .ok (.bipush 40, 2) := by decide +kernel
theorem dX9_writeFourth_92 : decode cX9_writeFourth 92 = .ok (.goto 5, 3) := by decide +kernel
theorem dX9_writeFourth_95 : decode cX9_writeFourth 95 = .ok (.bipush 32, 2) := by decide +kernel
theorem dX9_writeFourth_97 : decode cX9_writeFourth 97 = .ok (.invokevirtual 71, 3) := by decide +kernel
theorem dX9_writeFourth_100 : decode cX9_writeFourth 100 = .ok (.iconst 0, 1) := by decide +kernel
theorem dX9_writeFourth_101 : decode cX9_writeFourth 101 = .ok (.istore_n 3, 1) := by decide +kernel
theorem dX9_writeFourth_102 : decode cX9_writeFourth 102 = .ok (.iload_n 3, 1) := by decide +kernel
theorem dX9_writeFourth_103 : decode cX9_writeFourth 103 = .ok (.aload_n 0, 1) := by decide +kernel
theorem dX9_writeFourth_104 : decode cX9_writeFourth 104 = .ok (.getfield 7, 3) := by decide +kernel
theorem dX9_writeFourth_107 : decode cX9_writeFourth 107 = .ok (.aload_n 0, 1) := by decide +kernel
theorem dX9_writeFourth_108 : decode cX9_writeFourth 108 = .ok (.getfield 13, 3) := by decide +kernel
theorem dX9_writeFourth_111 : decode cX9_writeFourth 111 = .ok (.imul, 1) := by decide +kernel
theorem dX9_writeFourth_112 : decode cX9_writeFourth 112 = .ok (.if_icmp .ge 19, 3) := by decide +kernel
theorem dX9_writeFourth_115 : decode cX9_writeFourth 115 = .ok (.iload_n 1, 1) := by decide +kernel
theorem dX9_writeFourth_116 : decode cX9_writeFourth 116 = .ok (.ifCond .ne 9, 3) := by decide +kernel
theorem dX9_writeFourth_119 : decode cX9_writeFourth 119 = .ok (.aload_n 0, 1) := by decide +kernel
theorem dX9_writeFourth_120 : decode cX9_writeFourth 120 = .ok (.iload_n 3, 1) := by decide +kernel
theorem dX9_writeFourth_121 : decode cX9_writeFourth 121 = .ok (.iload_n 2, 1) := by decide +kernel
theorem dX9_writeFourth_122 : decode cX9_writeFourth 122 = .ok (.invokevirtual 109, 3) := by decide +kernel
theorem dX9_writeFourth_125 : decode cX9_writeFourth 125 = .ok (.iinc 3 1, 3) := by decide +kernel
theorem dX9_writeFourth_128 : decode cX9_writeFourth 128 = .ok (.goto (-26), 3) := by decide +kernel
theorem dX9_writeFourth_131 : decode cX9_writeFourth 131 = .ok (.iconst 0, 1) := by decide +kernel
theorem dX9_writeFourth_132 : decode cX9_writeFourth 132 = .ok (.istore_n 3, 1) := by decide +kernel
theorem dX9_writeFourth_133 : decode cX9_writeFourth 133 = .ok (.iload_n 3, 1) := by decide +kernel
theorem dX9_writeFourth_134 : decode cX9_writeFourth 134 = .ok (.aload_n 0, 1) := by decide +kernel
theorem dX9_writeFourth_135 : decode cX9_writeFourth 135 = .ok (.getfield 13, 3) := by decide +kernel
theorem dX9_writeFourth_138 : decode cX9_writeFourth 138 = .ok (.if_icmp .ge 35, 3) := by decide +kernel
theorem dX9_writeFourth_141 : decode cX9_writeFourth 141 = .ok (.iload_n 1, 1) := by decide +kernel
theorem dX9_writeFourth_142 : decode cX9_writeFourth 142 = .ok (.ifCond .eq 31, 3) := by decide +kernel
theorem dX9_writeFourth_145 : decode cX9_writeFourth 145 = .ok (.aload_n 0, 1) := by decide +kernel
theorem dX9_writeFourth_146 : decode cX9_writeFourth 146 = .ok (.aload_n 0, 1) := by decide +kernel
theorem dX9_writeFourth_147 : decode cX9_writeFourth 147 = .ok (.getfield 7, 3) := by decide +kernel
theorem dX9_writeFourth_150 : decode cX9_writeFourth 150 = .ok (.iload_n 3, 1) := by decide +kernel
theorem dX9_writeFourth_151 : decode cX9_writeFourth 151 = .ok (.imul, 1) := by decide +kernel
theorem dX9_writeFourth_152 : decode cX9_writeFourth 152 = .ok (.aload_n 0, 1) := by decide +kernel
theorem dX9_writeFourth_153 : decode cX9_writeFourth 153 = .ok (.getfield 7, 3) := by decide +kernel
theorem dX9_writeFourth_156 : decode cX9_writeFourth 156 = .ok (.iload_n 3, 1) := by decide +kernel
theorem dX9_writeFourth_157 : decode cX9_writeFourth 157 = .ok (.imul, 1) := by decide +kernel
theorem dX9_writeFourth_158 : decode cX9_writeFourth 158 = .ok (.aload_n 0, 1) := by decide +kernel
theorem dX9_writeFourth_159 : decode cX9_writeFourth 159 = .ok (.getfield 7, 3) := by decide +kernel
theorem dX9_writeFourth_162 : decode cX9_writeFourth 162 = .ok (.iadd, 1) := by decide +kernel
theorem dX9_writeFourth_163 : decode cX9_writeFourth 163 = .ok (.iload_n 2, 1) := by decide +kernel
theorem dX9_writeFourth_164 : decode cX9_writeFourth 164 = .ok (.invokevirtual 112, 3) := by decide +kernel
theorem dX9_writeFourth_167 : decode cX9_writeFourth 167 = .ok (.iinc 3 1, 3) := by decide +kernel
theorem dX9_writeFourth_170 : decode cX9_writeFourth 170 = .ok (.goto (-37), 3) := by decide +kernel
theorem dX9_writeFourth_173 : decode cX9_writeFourth 173 = .ok (.return_, 1) := by decide +kernel
set_option maxRecDepth 20000 in
theorem ggX9_packets_X9_alike : GoodIn wsX9_packets wsX9_alike := goodIn_r _ [5, 6, 7, 8, 4, 9, 10, 11, 26, 27, 28, 29, 30, 31, 32, 33, 34, 35, 36, 37, 38, 39, 40] (by decide +kernel) (by decide +kernel)
set_option maxRecDepth 20000 in
theorem gX9_packets_X9_alike : GoodIn wsX9_packets (wsV RX9 94 RX9 yX9_alike wsX9_alike) := goodIn_app (goodIn_of _ (by decide +kernel)) ggX9_packets_X9_alike
set_option maxRecDepth 20000 in
theorem ggX9_packets_X9_add : GoodIn wsX9_packets wsX9_add := goodIn_r _ [15, 16, 17, 26, 27, 28, 29, 30, 31, 32, 33, 34, 35, 36, 37, 38, 39, 40] (by decide +kernel) (by decide +kernel)
set_option maxRecDepth 20000 in
theorem gX9_packets_X9_add : GoodIn wsX9_packets (wsV RX9 63 RX9 yX9_add wsX9_add) := goodIn_app (goodIn_of _ (by decide +kernel)) ggX9_packets_X9_add
set_option maxRecDepth 20000 in
theorem ggX9_packets_X9_tones : GoodIn wsX9_packets wsX9_tones := goodIn_r _ [21, 6, 7, 8, 4, 9, 10, 11, 12, 13, 14, 15, 16, 17, 22, 23, 24, 25, 26, 27, 28, 29, 30, 31, 32, 33, 34, 35, 36, 37, 38, 39, 40] (by decide +kernel) (by decide +kernel)
set_option maxRecDepth 20000 in
theorem gX9_packets_X9_tones : GoodIn wsX9_packets (wsV RX9 109 RX9 yX9_tones wsX9_tones) := goodIn_app (goodIn_of _ (by decide +kernel)) ggX9_packets_X9_tones
theorem dX9_packets_0 : decode cX9_packets 0 = .ok (.iload_n 1, 1) := by decide +kernel
theorem dX9_packets_1 : decode cX9_packets 1 = .ok (.istore 4, 2) := by decide +kernel
theorem dX9_packets_3 : decode cX9_packets 3 = .ok (.iload 4, 2) := by decide +kernel
theorem dX9_packets_5 : decode cX9_packets 5 = .ok (.iload_n 2, 1) := by decide +kernel
theorem dX9_packets_6 : decode cX9_packets 6 = .ok (.if_icmp .ge 146, 3) := by decide +kernel
theorem dX9_packets_9 : decode cX9_packets 9 = .ok (.iload 4, 2) := by decide +kernel
theorem dX9_packets_11 : decode cX9_packets 11 = .ok (.iconst 1, 1) := by decide +kernel
theorem dX9_packets_12 : decode cX9_packets 12 = .ok (.iadd, 1) := by decide +kernel
theorem dX9_packets_13 : decode cX9_packets 13 = .ok (.istore 5, 2) := by decide +kernel
theorem dX9_packets_15 : decode cX9_packets 15 = .ok (.iload 5, 2) := by decide +kernel
theorem dX9_packets_17 : decode cX9_packets 17 = .ok (.iload_n 2, 1) := by decide +kernel
theorem dX9_packets_18 : decode cX9_packets 18 = .ok (.if_icmp .ge 59, 3) := by decide +kernel
theorem dX9_packets_21 : decode cX9_packets 21 = .ok (.aload_n 0, 1) := by decide +kernel
theorem dX9_packets_22 : decode cX9_packets 22 = .ok (.iload 4, 2) := by decide +kernel
theorem dX9_packets_24 : decode cX9_packets 24 = .ok (.iload 5, 2) := by decide +kernel
theorem dX9_packets_26 : decode cX9_packets 26 = .ok (.invokevirtual 94, 3) := by decide +kernel
theorem dX9_packets_29 : decode cX9_packets 29 = .ok (.ifCond .eq 48, 3) := by decide +kernel
theorem dX9_packets_32 : decode cX9_packets 32 = .ok (.iload 5, 2) := by decide +kernel
theorem dX9_packets_34 : decode cX9_packets 34 = .ok (.iload_n 2, 1) := by decide +kernel
theorem dX9_packets_35 : decode cX9_packets 35 = .ok (.if_icmp .ge 20, 3) := by decide +kernel
theorem dX9_packets_38 : decode cX9_packets 38 = .ok (.aload_n 0, 1) := by decide +kernel
theorem dX9_packets_39 : decode cX9_packets 39 = .ok (.iload 4, 2) := by decide +kernel
theorem dX9_packets_41 : decode cX9_packets 41 = .ok (.iload 5, 2) := by decide +kernel
theorem dX9_packets_43 : decode cX9_packets 43 = .ok (.invokevirtual 94, 3) := by decide +kernel
theorem dX9_packets_46 : decode cX9_packets 46 = .ok (.ifCond .eq 9, 3) := by decide +kernel
theorem dX9_packets_49 : decode cX9_packets 49 = .ok (.iinc 5 1, 3) := by decide +kernel
theorem dX9_packets_52 : decode cX9_packets 52 = .ok (.goto (-20), 3) := by decide +kernel
theorem dX9_packets_55 : decode cX9_packets 55 = .ok (.aload_n 0, 1) := by decide +kernel
theorem dX9_packets_56 : decode cX9_packets 56 = .ok (.bipush 127, 2) := by decide +kernel
theorem dX9_packets_58 : decode cX9_packets 58 = .ok (.iload 5, 2) := by decide +kernel
theorem dX9_packets_60 : decode cX9_packets 60 = .ok (.iadd, 1) := by decide +kernel
theorem dX9_packets_61 : decode cX9_packets 61 = .ok (.iload 4, 2) := by decide +kernel
theorem dX9_packets_63 : decode cX9_packets 63 = .ok (.isub, 1) := by decide +kernel
theorem dX9_packets_64 : decode cX9_packets 64 = .ok (.invokevirtual 63, 3) := by decide +kernel
theorem dX9_packets_67 : decode cX9_packets 67 = .ok (.aload_n 0, 1) := by decide +kernel
theorem dX9_packets_68 : decode cX9_packets 68 = .ok (.iload 4, 2) := by decide +kernel
theorem dX9_packets_70 : decode cX9_packets 70 = .ok (.iload_n 3, 1) := by decide +kernel
theorem dX9_packets_71 : decode cX9_packets 71 = .ok (.invokevirtual 109, 3) := by decide +kernel
theorem dX9_packets_74 : decode cX9_packets 74 = .ok (.goto 71, 3) := by decide +kernel
theorem dX9_packets_77 : decode cX9_packets 77 = .ok (.iload 5, 2) := by decide +kernel
theorem dX9_packets_79 : decode cX9_packets 79 = .ok (.iload_n 2, 1) := by decide +kernel
theorem dX9_packets_80 : decode cX9_packets 80 = .ok (.if_icmp .ge 30, 3) := by decide +kernel
theorem dX9_packets_83 : decode cX9_packets 83 = .ok (.iload 5, 2) := by decide +kernel
theorem dX9_packets_85 : decode cX9_packets 85 = .ok (.iconst 1, 1) := by decide +kernel
theorem dX9_packets_86 : decode cX9_packets 86 = .ok (.iadd, 1) := by decide +kernel
theorem dX9_packets_87 : decode cX9_packets 87 = .ok (.iload_n 2, 1) := by decide +kernel
theorem dX9_packets_88 : decode cX9_packets 88 = .ok (.if_icmp .ge 16, 3) := by decide +kernel
theorem dX9_packets_91 : decode cX9_packets 91 = .ok (.aload_n 0, 1) := by decide +kernel
theorem dX9_packets_92 : decode cX9_packets 92 = .ok (.iload 5, 2) := by decide +kernel
theorem dX9_packets_94 : decode cX9_packets 94 = .ok (.iload 5, 2) := by decide +kernel
theorem dX9_packets_96 : decode cX9_packets 96 = .ok (.iconst 1, 1) := by decide +kernel
theorem dX9_packets_97 : decode cX9_packets 97 = .ok (.iadd, 1) := by decide +kernel
theorem dX9_packets_98 : decode cX9_packets 98 = .ok (.invokevirtual 94, 3) := by decide +kernel
theorem dX9_packets_101 : decode cX9_packets 101 = .ok (.ifCond .ne 9, 3) := by decide +kernel
theorem dX9_packets_104 : decode cX9_packets 104 = .ok (.iinc 5 1, 3) := by decide +kernel
theorem dX9_packets_107 : decode cX9_packets 107 = .ok (.goto (-30), 3) := by decide +kernel
theorem dX9_packets_110 : decode cX9_packets 110 = .ok (.aload_n 0, 1) := by decide +kernel
theorem dX9_packets_111 : decode cX9_packets 111 = .ok (.iload 5, 2) := by decide +kernel
theorem dX9_packets_113 : decode cX9_packets 113 = .ok (.iload 4, 2) := by decide +kernel
theorem dX9_packets_115 : decode cX9_packets 115 = .ok (.isub, 1) := by decide +kernel
theorem dX9_packets_116 : decode cX9_packets 116 = .ok (.iconst 1, 1) := by decide +kernel
theorem dX9_packets_117 : decode cX9_packets 117 = .ok (.isub, 1) := by decide +kernel
theorem dX9_packets_118 : decode cX9_packets 118 = .ok (.invokevirtual 63, 3) := by decide +kernel
theorem dX9_packets_121 : decode cX9_packets 121 = .ok (.iload 4, 2) := by decide +kernel
theorem dX9_packets_123 : decode cX9_packets 123 = .ok (.istore 6, 2) := by decide +kernel
theorem dX9_packets_125 : decode cX9_packets 125 = .ok (.iload 6, 2) := by decide +kernel
theorem dX9_packets_127 : decode cX9_packets 127 = .ok (.iload 5, 2) := by decide +kernel
theorem dX9_packets_129 : decode cX9_packets 129 = .ok (.if_icmp .ge 16, 3) := by decide +kernel
theorem dX9_packets_132 : decode cX9_packets 132 = .ok (.aload_n 0, 1) := by decide +kernel
theorem dX9_packets_133 : decode cX9_packets 133 = .ok (.iload 6, 2) := by decide +kernel
theorem dX9_packets_135 : decode cX9_packets 135 = .ok (.iload_n 3, 1) := by decide +kernel
theorem dX9_packets_136 : decode cX9_packets 136 = .ok (.invokevirtual 109, 3) := by decide +kernel
theorem dX9_packets_139 : decode cX9_packets 139 = .ok (.iinc 6 1, 3) := by decide +kernel
theorem dX9_packets_142 : decode cX9_packets 142 = .ok (.goto (-17), 3) := by decide +kernel
theorem dX9_packets_145 : decode cX9_packets 145 = .ok (.iload 5, 2) := by decide +kernel
theorem dX9_packets_147 : decode cX9_packets 147 = .ok (.istore 4, 2) := by decide +kernel
theorem dX9_packets_149 : decode cX9_packets 149 = .ok (.goto (-146), 3) := by decide +kernel
theorem dX9_packets_152 : decode cX9_packets 152 = .ok (.return_, 1) := by decide +kernel
set_option maxRecDepth 20000 in
theorem ggX9_encode_X9_opaque : GoodIn wsX9_encode wsX9_opaque := goodIn_r _ [6, 7, 8, 9, 10, 11, 5, 12, 13, 95, 96, 97, 98, 99, 100, 101, 102, 103, 104, 105, 106, 107, 108, 109] (by decide +kernel) (by decide +kernel)
set_option maxRecDepth 20000 in
theorem gX9_encode_X9_opaque : GoodIn wsX9_encode (wsV RX9 53 RX9 yX9_opaque wsX9_opaque) := goodIn_app (goodIn_of _ (by decide +kernel)) ggX9_encode_X9_opaque
set_option maxRecDepth 20000 in
theorem ggX9_encode_X9_writeFirst : GoodIn wsX9_encode wsX9_writeFirst := goodIn_r _ [17, 7, 8, 18, 19, 20, 21, 22, 5, 23, 24, 25, 26, 27, 28, 1, 29, 30, 31, 32, 2, 3, 4, 6, 9, 10, 11, 12, 13, 33, 34, 35, 36, 37, 38, 39, 40, 41, 42, 43, 44, 45, 46, 95, 96, 97, 98, 99, 100, 101, 102, 103, 104, 105, 106, 107, 108, 109] (by decide +kernel) (by decide +kernel)
set_option maxRecDepth 20000 in
theorem gX9_encode_X9_writeFirst : GoodIn wsX9_encode (wsV RX9 116 RX9 yX9_writeFirst wsX9_writeFirst) := goodIn_app (goodIn_of _ (by decide +kernel)) ggX9_encode_X9_writeFirst
set_option maxRecDepth 20000 in
theorem ggX9_encode_X9_writeSecond : GoodIn wsX9_encode wsX9_writeSecond := goodIn_r _ [50, 7, 8, 51, 52, 53, 5, 54, 2, 3, 4, 6, 9, 10, 11, 12, 13, 20, 21, 22, 23, 24, 25, 26, 27, 28, 1, 55, 56, 57, 58, 95, 96, 97, 98, 99, 100, 101, 102, 103, 104, 105, 106, 107, 108, 109] (by decide +kernel) (by decide +kernel)
set_option maxRecDepth 20000 in
theorem gX9_encode_X9_writeSecond : GoodIn wsX9_encode (wsV RX9 119 RX9 yX9_writeSecond wsX9_writeSecond) := goodIn_app (goodIn_of _ (by decide +kernel)) ggX9_encode_X9_writeSecond
set_option maxRecDepth 20000 in
theorem ggX9_encode_X9_writeThird : GoodIn wsX9_encode wsX9_writeThird := goodIn_r _ [62, 7, 8, 1, 63, 64, 65, 5, 66, 67, 68, 69, 70, 9, 10, 11, 12, 13, 20, 21, 22, 23, 24, 25, 26, 27, 28, 71, 72, 73, 74, 75, 76, 77, 78, 79, 80, 81, 82, 95, 96, 97, 98, 99, 100, 101, 102, 103, 104, 105, 106, 107, 108, 109] (by decide +kernel) (by decide +kernel)
set_option maxRecDepth 20000 in
theorem gX9_encode_X9_writeThird : GoodIn wsX9_encode (wsV RX9 123 RX9 yX9_writeThird wsX9_writeThird) := goodIn_app (goodIn_of _ (by decide +kernel)) ggX9_encode_X9_writeThird
set_option maxRecDepth 20000 in
theorem ggX9_encode_X9_writeFourth : GoodIn wsX9_encode wsX9_writeFourth := goodIn_r _ [86, 7, 8, 51, 52, 53, 5, 54, 2, 3, 4, 6, 9, 10, 11, 12, 13, 20, 21, 22, 23, 24, 25, 26, 27, 28, 1, 71, 72, 73, 74, 87, 88, 89, 90, 75, 76, 77, 78, 91, 92, 93, 94, 67, 68, 69, 70, 95, 96, 97, 98, 99, 100, 101, 102, 103, 104, 105, 106, 107, 108, 109] (by decide +kernel) (by decide +kernel)
set_option maxRecDepth 20000 in
theorem gX9_encode_X9_writeFourth : GoodIn wsX9_encode (wsV RX9 126 RX9 yX9_writeFourth wsX9_writeFourth) := goodIn_app (goodIn_of _ (by decide +kernel)) ggX9_encode_X9_writeFourth
theorem dX9_encode_0 : decode cX9_encode 0 = .ok (.iload_n 1, 1) := by decide +kernel
theorem dX9_encode_1 : decode cX9_encode 1 = .ok (.ifCond .lt 21, 3) := by decide +kernel
theorem dX9_encode_4 : decode cX9_encode 4 = .ok (.iload_n 1, 1) := by decide +kernel
theorem dX9_encode_5 : decode cX9_encode 5 = .ok (.iconst 3, 1) := by decide +kernel
theorem dX9_encode_6 : decode cX9_encode 6 = .ok (.if_icmp .gt 16, 3) := by decide +kernel
theorem dX9_encode_9 : decode cX9_encode 9 = .ok (.iload_n 2, 1) := by decide +kernel
theorem dX9_encode_10 : decode cX9_encode 10 = .ok (.ifCond .lt 12, 3) := by decide +kernel
theorem dX9_encode_13 : decode cX9_encode 13 = .ok (.iload_n 2, 1) := by decide +kernel
theorem dX9_encode_14 : decode cX9_encode 14 = .ok (.iconst 1, 1) := by decide +kernel
theorem dX9_encode_15 : decode cX9_encode 15 = .ok (.if_icmp .gt 7, 3) := by decide +kernel
theorem dX9_encode_18 : decode cX9_encode 18 = .ok (.iconst 1, 1) := by decide +kernel
theorem dX9_encode_19 : decode cX9_encode 19 = .ok (.goto 4, 3) := by decide +kernel
theorem dX9_encode_22 : decode cX9_encode 22 = .ok (.iconst 0, 1) := by decide +kernel
theorem dX9_encode_23 : decode cX9_encode 23 = .ok (.istore_n 3, 1) := by decide +kernel
theorem dX9_encode_24 : decode cX9_encode 24 = .ok (.iload_n 3, 1) := by decide +kernel
theorem dX9_encode_25 : decode cX9_encode 25 = .ok (.ifCond .eq 20, 3) := by decide +kernel
theorem dX9_encode_28 : decode cX9_encode 28 = .ok (.iload_n 1, 1) := by decide +kernel
theorem dX9_encode_29 : decode cX9_encode 29 = .ok (.iconst 1, 1) := by decide +kernel
theorem dX9_encode_30 : decode cX9_encode 30 = .ok (.if_icmp .eq 8, 3) := by decide +kernel
theorem dX9_encode_33 : decode cX9_encode 33 = .ok (.iload_n 1, 1) := by decide +kernel
theorem dX9_encode_34 : decode cX9_encode 34 = .ok (.iconst 2, 1) := by decide +kernel
theorem dX9_encode_35 : decode cX9_encode 35 = .ok (.if_icmp .ne 12, 3) := by decide +kernel
theorem dX9_encode_38 : decode cX9_encode 38 = .ok (.aload_n 0, 1) := by decide +kernel
theorem dX9_encode_39 : decode cX9_encode 39 = .ok (.invokevirtual 53, 3) := by decide +kernel
theorem dX9_encode_42 : decode cX9_encode 42 = .ok (.ifCond .ne 5, 3) := by decide +kernel
theorem dX9_encode_45 : decode cX9_encode 45 = .ok (.iconst (-1), 1) := by decide +kernel
theorem dX9_encode_46 : decode cX9_encode 46 = .ok (.ireturn, 1) := by decide +kernel
theorem dX9_encode_47 : decode cX9_encode 47 = .ok (.aload_n 0, 1) := by decide +kernel
theorem dX9_encode_48 : decode cX9_encode 48 = .ok (.iconst 0, 1) := by decide +kernel
theorem dX9_encode_49 : decode cX9_encode 49 = .ok (.putfield 57, 3) := by decide +kernel
theorem dX9_encode_52 : decode cX9_encode 52 = .ok (.iload_n 1, 1) := by decide +kernel
theorem dX9_encode_53 : decode cX9_encode 53 = .ok (.ifCond .ne 10, 3) := by decide +kernel
theorem dX9_encode_56 : decode cX9_encode 56 = .ok (.aload_n 0, 1) := by decide +kernel
theorem dX9_encode_57 : decode cX9_encode 57 = .ok (.invokevirtual 116, 3) := by decide +kernel
theorem dX9_encode_60 : decode cX9_encode 60 = .ok (.goto 61, 3) := by decide +kernel
theorem dX9_encode_63 : decode cX9_encode 63 = .ok (.iload_n 1, 1) := by decide +kernel
theorem dX9_encode_64 : decode cX9_encode 64 = .ok (.iconst 1, 1) := by decide +kernel
theorem dX9_encode_65 : decode cX9_encode 65 = .ok (.if_icmp .ne 20, 3) := by decide +kernel
theorem dX9_encode_68 : decode cX9_encode 68 = .ok (.aload_n 0, 1) := by decide +kernel
theorem dX9_encode_69 : decode cX9_encode 69 = .ok (.iload_n 2, 1) := by decide +kernel
theorem dX9_encode_70 : decode cX9_encode 70 = .ok (.iconst 1, 1) := by decide +kernel
theorem dX9_encode_71 : decode cX9_encode 71 = .ok (.if_icmp .ne 7, 3) := by decide +kernel
theorem dX9_encode_74 : decode cX9_encode 74 = .ok (.iconst 1, 1) := by decide +kernel
theorem dX9_encode_75 : decode cX9_encode 75 = .ok (.goto 4, 3) := by decide +kernel
theorem dX9_encode_78 : decode cX9_encode 78 = .ok (.iconst 0, 1) := by decide +kernel
theorem dX9_encode_79 : decode cX9_encode 79 = .ok (.invokevirtual 119, 3) := by decide +kernel
theorem dX9_encode_82 : decode cX9_encode 82 = .ok (.goto 39, 3) := by decide +kernel
theorem dX9_encode_85 : decode cX9_encode 85 = .ok (.iload_n 1, 1) := by decide +kernel
theorem dX9_encode_86 : decode cX9_encode 86 = .ok (.iconst 2, 1) := by decide +kernel
theorem dX9_encode_87 : decode cX9_encode 87 = .ok (.if_icmp .ne 20, 3) := by decide +kernel
theorem dX9_encode_90 : decode cX9_encode 90 = .ok (.aload_n 0, 1) := by decide +kernel
theorem dX9_encode_91 : decode cX9_encode 91 = .ok (.iload_n 2, 1) := by decide +kernel
theorem dX9_encode_92 : decode cX9_encode 92 = .ok (.iconst 1, 1) := by decide +kernel
theorem dX9_encode_93 : decode cX9_encode 93 = .ok (.if_icmp .ne 7, 3) := by decide +kernel
theorem dX9_encode_96 : decode cX9_encode 96 = .ok (.iconst 1, 1) := by decide +kernel
theorem dX9_encode_97 : decode cX9_encode 97 = .ok (.goto 4, 3) := by decide +kernel
theorem dX9_encode_100 : decode cX9_encode 100 = .ok (.iconst 0, 1) := by decide +kernel
theorem dX9_encode_101 : decode cX9_encode 101 = .ok (.invokevirtual 123, 3) := by decide +kernel
theorem dX9_encode_104 : decode cX9_encode 104 = .ok (.goto 17, 3) := by decide +kernel
theorem dX9_encode_107 : decode cX9_encode 107 = .ok (.aload_n 0, 1) := by decide +kernel
theorem dX9_encode_108 : decode cX9_encode 108 = .ok (.iload_n 2, 1) := by decide +kernel
theorem dX9_encode_109 : decode cX9_encode 109 = .ok (.iconst 1, 1) := by decide +kernel
theorem dX9_encode_110 : decode cX9_encode 110 = .ok (.if_icmp .ne 7, 3) := by decide +kernel
theorem dX9_encode_113 : decode cX9_encode 113 = .ok (.iconst 1, 1) := by decide +kernel
theorem dX9_encode_114 : decode cX9_encode 114 = .ok (.goto 4, 3) := by decide +kernel
theorem dX9_encode_117 : decode cX9_encode 117 = .ok (.iconst 0, 1) := by decide +kernel
theorem dX9_encode_118 : decode cX9_encode 118 = .ok (.invokevirtual 126, 3) := by decide +kernel
theorem dX9_encode_121 : decode cX9_encode 121 = .ok (.aload_n 0, 1) := by decide +kernel
theorem dX9_encode_122 : decode cX9_encode 122 = .ok (.getfield 57, 3) := by decide +kernel
theorem dX9_encode_125 : decode cX9_encode 125 = .ok (.ireturn, 1) := by decide +kernel
theorem dX9_broken_0 : decode cX9_broken 0 = .ok (.aload_n 0, 1) := by decide +kernel
theorem dX9_broken_1 : decode cX9_broken 1 = .ok (.aload_n 0, 1) := by decide +kernel
theorem dX9_broken_2 : decode cX9_broken 2 = .ok (.getfield 129, 3) := by decide +kernel
theorem dX9_broken_5 : decode cX9_broken 5 = .ok (.ifCond .ne 12, 3) := by decide +kernel
theorem dX9_broken_8 : decode cX9_broken 8 = .ok (.iload_n 1, 1) := by decide +kernel
theorem dX9_broken_9 : decode cX9_broken 9 = .ok (.ifCond .eq 8, 3) := by decide +kernel
theorem dX9_broken_12 : decode cX9_broken 12 = .ok (.bipush (-3), 2) := by decide +kernel
theorem dX9_broken_14 : decode cX9_broken 14 = .ok (.goto 7, 3) := by decide +kernel
theorem dX9_broken_17 : decode cX9_broken 17 = .ok (.aload_n 0, 1) := by decide +kernel
theorem dX9_broken_18 : decode cX9_broken 18 = .ok (.getfield 129, 3) := by decide +kernel
theorem dX9_broken_21 : decode cX9_broken 21 = .ok (.putfield 129, 3) := by decide +kernel
theorem dX9_broken_24 : decode cX9_broken 24 = .ok (.return_, 1) := by decide +kernel
theorem dX9_next_0 : decode cX9_next 0 = .ok (.aload_n 0, 1) := by decide +kernel
theorem dX9_next_1 : decode cX9_next 1 = .ok (.getfield 129, 3) := by decide +kernel
theorem dX9_next_4 : decode cX9_next 4 = .ok (.ifCond .ne 20, 3) := by decide +kernel
theorem dX9_next_7 : decode cX9_next 7 = .ok (.aload_n 0, 1) := by decide +kernel
theorem dX9_next_8 : decode cX9_next 8 = .ok (.getfield 132, 3) := by decide +kernel
theorem dX9_next_11 : decode cX9_next 11 = .ok (.aload_n 0, 1) := by decide +kernel
theorem dX9_next_12 : decode cX9_next 12 = .ok (.getfield 57, 3) := by decide +kernel
theorem dX9_next_15 : decode cX9_next 15 = .ok (.if_icmp .ne 9, 3) := by decide +kernel
theorem dX9_next_18 : decode cX9_next 18 = .ok (.aload_n 0, 1) := by decide +kernel
theorem dX9_next_19 : decode cX9_next 19 = .ok (.bipush (-2), 2) := by decide +kernel
theorem dX9_next_21 : decode cX9_next 21 = .ok (.putfield 129, 3) := by decide +kernel
theorem dX9_next_24 : decode cX9_next 24 = .ok (.aload_n 0, 1) := by decide +kernel
theorem dX9_next_25 : decode cX9_next 25 = .ok (.getfield 129, 3) := by decide +kernel
theorem dX9_next_28 : decode cX9_next 28 = .ok (.ifCond .eq 5, 3) := by decide +kernel
theorem dX9_next_31 : decode cX9_next 31 = .ok (.iconst 0, 1) := by decide +kernel
theorem dX9_next_32 : decode cX9_next 32 = .ok (.ireturn, 1) := by decide +kernel
theorem dX9_next_33 : decode cX9_next 33 = .ok (.aload_n 0, 1) := by decide +kernel
theorem dX9_next_34 : decode cX9_next 34 = .ok (.dup, 1) := by decide +kernel
theorem dX9_next_35 : decode cX9_next 35 = .ok (.getfield 132, 3) := by decide +kernel
theorem dX9_next_38 : decode cX9_next 38 = .ok (.iconst 1, 1) := by decide +kernel
theorem dX9_next_39 : decode cX9_next 39 = .ok (.iadd, 1) := by decide +kernel
theorem dX9_next_40 : decode cX9_next 40 = .ok (.putfield 132, 3) := by decide +kernel
theorem dX9_next_43 : decode cX9_next 43 = .ok (.aload_n 0, 1) := by decide +kernel
theorem dX9_next_44 : decode cX9_next 44 = .ok (.getfield 20, 3) := by decide +kernel
theorem dX9_next_47 : decode cX9_next 47 = .ok (.aload_n 0, 1) := by decide +kernel
theorem dX9_next_48 : decode cX9_next 48 = .ok (.getfield 132, 3) := by decide +kernel
theorem dX9_next_51 : decode cX9_next 51 = .ok (.iconst 1, 1) := by decide +kernel
theorem dX9_next_52 : decode cX9_next 52 = .ok (.isub, 1) := by decide +kernel
theorem dX9_next_53 : decode cX9_next 53 = .ok (.iaload, 1) := by decide +kernel
theorem dX9_next_54 : decode cX9_next 54 = .ok (.ireturn, 1) := by decide +kernel
set_option maxRecDepth 20000 in
theorem ggX9_skip_X9_next : GoodIn wsX9_skip wsX9_next := goodIn_r _ [6, 1, 7, 8, 9, 10, 11, 12, 13, 14, 15, 16, 17, 18, 19, 20, 21, 22, 23, 24] (by decide +kernel) (by decide +kernel)
set_option maxRecDepth 20000 in
theorem gX9_skip_X9_next : GoodIn wsX9_skip (wsV RX9 135 RX9 yX9_next wsX9_next) := goodIn_app (goodIn_of _ (by decide +kernel)) ggX9_skip_X9_next
theorem dX9_skip_0 : decode cX9_skip 0 = .ok (.iconst 0, 1) := by decide +kernel
theorem dX9_skip_1 : decode cX9_skip 1 = .ok (.istore_n 2, 1) := by decide +kernel
theorem dX9_skip_2 : decode cX9_skip 2 = .ok (.iload_n 2, 1) := by decide +kernel
theorem dX9_skip_3 : decode cX9_skip 3 = .ok (.iload_n 1, 1) := by decide +kernel
theorem dX9_skip_4 : decode cX9_skip 4 = .ok (.if_icmp .ge 21, 3) := by decide +kernel
theorem dX9_skip_7 : decode cX9_skip 7 = .ok (.aload_n 0, 1) := by decide +kernel
theorem dX9_skip_8 : decode cX9_skip 8 = .ok (.getfield 129, 3) := by decide +kernel
theorem dX9_skip_11 : decode cX9_skip 11 = .ok (.ifCond .ne 14, 3) := by decide +kernel
theorem dX9_skip_14 : decode cX9_skip 14 = .ok (.aload_n 0, 1) := by decide +kernel
theorem dX9_skip_15 : decode cX9_skip 15 = .ok (.invokevirtual 135, 3) := by decide +kernel
theorem dX9_skip_18 : decode cX9_skip 18 = .ok (.pop, 1) := by decide +kernel
theorem dX9_skip_19 : decode cX9_skip 19 = .ok (.iinc 2 1, 3) := by decide +kernel
theorem dX9_skip_22 : decode cX9_skip 22 = .ok (.goto (-20), 3) := by decide +kernel
theorem dX9_skip_25 : decode cX9_skip 25 = .ok (.return_, 1) := by decide +kernel
set_option maxRecDepth 20000 in
theorem ggX9_number_X9_next : GoodIn wsX9_number wsX9_next := goodIn_r _ [5, 6, 7, 8, 9, 10, 11, 12, 13, 14, 15, 16, 17, 18, 19, 20, 21, 22, 23, 24] (by decide +kernel) (by decide +kernel)
set_option maxRecDepth 20000 in
theorem gX9_number_X9_next : GoodIn wsX9_number (wsV RX9 135 RX9 yX9_next wsX9_next) := goodIn_app (goodIn_of _ (by decide +kernel)) ggX9_number_X9_next
theorem dX9_number_0 : decode cX9_number 0 = .ok (.iconst 0, 1) := by decide +kernel
theorem dX9_number_1 : decode cX9_number 1 = .ok (.istore_n 3, 1) := by decide +kernel
theorem dX9_number_2 : decode cX9_number 2 = .ok (.iconst 0, 1) := by decide +kernel
theorem dX9_number_3 : decode cX9_number 3 = .ok (.istore 4, 2) := by decide +kernel
theorem dX9_number_5 : decode cX9_number 5 = .ok (.iload 4, 2) := by decide +kernel
theorem dX9_number_7 : decode cX9_number 7 = .ok (.iload_n 1, 1) := by decide +kernel
theorem dX9_number_8 : decode cX9_number 8 = .ok (.if_icmp .ge 40, 3) := by decide +kernel
theorem dX9_number_11 : decode cX9_number 11 = .ok (.aload_n 0, 1) := by decide +kernel
theorem dX9_number_12 : decode cX9_number 12 = .ok (.invokevirtual 135, 3) := by decide +kernel
theorem dX9_number_15 : decode cX9_number 15 = .ok (.istore 5, 2) := by decide +kernel
theorem dX9_number_17 : decode cX9_number 17 = .ok (.iload_n 2, 1) := by decide +kernel
theorem dX9_number_18 : decode cX9_number 18 = .ok (.ifCond .eq 13, 3) := by decide +kernel
theorem dX9_number_21 : decode cX9_number 21 = .ok (.iload_n 3, 1) := by decide +kernel
theorem dX9_number_22 : decode cX9_number 22 = .ok (.bipush 8, 2) := by decide +kernel
theorem dX9_number_24 : decode cX9_number 24 = .ok (.ishl, 1) := by decide +kernel
theorem dX9_number_25 : decode cX9_number 25 = .ok (.iload 5, 2) := by decide +kernel
theorem dX9_number_27 : decode cX9_number 27 = .ok (.ior, 1) := by decide +kernel
theorem dX9_number_28 : decode cX9_number 28 = .ok (.goto 13, 3) := by decide +kernel
theorem dX9_number_31 : decode cX9_number 31 = .ok (.iload_n 3, 1) := by decide +kernel
theorem dX9_number_32 : decode cX9_number 32 = .ok (.iload 5, 2) := by decide +kernel
theorem dX9_number_34 : decode cX9_number 34 = .ok (.bipush 8, 2) := by decide +kernel
theorem dX9_number_36 : decode cX9_number 36 = .ok (.iload 4, 2) := by decide +kernel
theorem dX9_number_38 : decode cX9_number 38 = .ok (.imul, 1) := by decide +kernel
theorem dX9_number_39 : decode cX9_number 39 = .ok (.ishl, 1) := by decide +kernel
theorem dX9_number_40 : decode cX9_number 40 = .ok (.ior, 1) := by decide +kernel
theorem dX9_number_41 : decode cX9_number 41 = .ok (.istore_n 3, 1) := by decide +kernel
theorem dX9_number_42 : decode cX9_number 42 = .ok (.iinc 4 1, 3) := by decide +kernel
theorem dX9_number_45 : decode cX9_number 45 = .ok (.goto (-40), 3) := by decide +kernel
theorem dX9_number_48 : decode cX9_number 48 = .ok (.iload_n 3, 1) := by decide +kernel
theorem dX9_number_49 : decode cX9_number 49 = .ok (.ireturn, 1) := by decide +kernel
set_option maxRecDepth 20000 in
theorem ggX9_sideOf_X9_side : GoodIn wsX9_sideOf wsX9_side := goodIn_r _ [4] (by decide +kernel) (by decide +kernel)
set_option maxRecDepth 20000 in
theorem gX9_sideOf_X9_side : GoodIn wsX9_sideOf (va_wsS RX9 38 yX9_side wsX9_side) := goodIn_app (goodIn_of _ (by decide +kernel)) ggX9_sideOf_X9_side
set_option maxRecDepth 20000 in
theorem ggX9_sideOf_X9_broken : GoodIn wsX9_sideOf wsX9_broken := goodIn_r _ [8, 9, 10, 11, 12, 13, 14, 15, 16, 17, 18, 19, 20, 21, 22, 23, 24] (by decide +kernel) (by decide +kernel)
set_option maxRecDepth 20000 in
theorem gX9_sideOf_X9_broken : GoodIn wsX9_sideOf (wsV RX9 139 RX9 yX9_broken wsX9_broken) := goodIn_app (goodIn_of _ (by decide +kernel)) ggX9_sideOf_X9_broken
theorem dX9_sideOf_0 : decode cX9_sideOf 0 = .ok (.aload_n 0, 1) := by decide +kernel
theorem dX9_sideOf_1 : decode cX9_sideOf 1 = .ok (.iload_n 1, 1) := by decide +kernel
theorem dX9_sideOf_2 : decode cX9_sideOf 2 = .ok (.invokestatic 38, 3) := by decide +kernel
theorem dX9_sideOf_5 : decode cX9_sideOf 5 = .ok (.ifCond .ne 7, 3) := by decide +kernel
theorem dX9_sideOf_8 : decode cX9_sideOf 8 = .ok (.iconst 1, 1) := by decide +kernel
theorem dX9_sideOf_9 : decode cX9_sideOf 9 = .ok (.goto 4, 3) := by decide +kernel
theorem dX9_sideOf_12 : decode cX9_sideOf 12 = .ok (.iconst 0, 1) := by decide +kernel
theorem dX9_sideOf_13 : decode cX9_sideOf 13 = .ok (.invokevirtual 139, 3) := by decide +kernel
theorem dX9_sideOf_16 : decode cX9_sideOf 16 = .ok (.iload_n 1, 1) := by decide +kernel
theorem dX9_sideOf_17 : decode cX9_sideOf 17 = .ok (.ireturn, 1) := by decide +kernel
set_option maxRecDepth 20000 in
theorem ggX9_must_X9_broken : GoodIn wsX9_must wsX9_broken := goodIn_r _ [5, 6, 7, 8, 9, 10, 11, 12, 13, 14, 15, 16, 17, 18, 19, 20, 21] (by decide +kernel) (by decide +kernel)
set_option maxRecDepth 20000 in
theorem gX9_must_X9_broken : GoodIn wsX9_must (wsV RX9 139 RX9 yX9_broken wsX9_broken) := goodIn_app (goodIn_of _ (by decide +kernel)) ggX9_must_X9_broken
theorem dX9_must_0 : decode cX9_must 0 = .ok (.aload_n 0, 1) := by decide +kernel
theorem dX9_must_1 : decode cX9_must 1 = .ok (.iload_n 1, 1) := by decide +kernel
theorem dX9_must_2 : decode cX9_must 2 = .ok (.iload_n 2, 1) := by decide +kernel
theorem dX9_must_3 : decode cX9_must 3 = .ok (.if_icmp .eq 7, 3) := by decide +kernel
theorem dX9_must_6 : decode cX9_must 6 = .ok (.iconst 1, 1) := by decide +kernel
theorem dX9_must_7 : decode cX9_must 7 = .ok (.goto 4, 3) := by decide +kernel
theorem dX9_must_10 : decode cX9_must 10 = .ok (.iconst 0, 1) := by decide +kernel
theorem dX9_must_11 : decode cX9_must 11 = .ok (.invokevirtual 139, 3) := by decide +kernel
theorem dX9_must_14 : decode cX9_must 14 = .ok (.return_, 1) := by decide +kernel
theorem dX9_set_0 : decode cX9_set 0 = .ok (.aload_n 0, 1) := by decide +kernel
theorem dX9_set_1 : decode cX9_set 1 = .ok (.getfield 129, 3) := by decide +kernel
theorem dX9_set_4 : decode cX9_set 4 = .ok (.ifCond .ne 47, 3) := by decide +kernel
theorem dX9_set_7 : decode cX9_set 7 = .ok (.iconst 0, 1) := by decide +kernel
theorem dX9_set_8 : decode cX9_set 8 = .ok (.istore_n 2, 1) := by decide +kernel
theorem dX9_set_9 : decode cX9_set 9 = .ok (.iload_n 2, 1) := by decide +kernel
theorem dX9_set_10 : decode cX9_set 10 = .ok (.iconst 4, 1) := by decide +kernel
theorem dX9_set_11 : decode cX9_set 11 = .ok (.if_icmp .ge 40, 3) := by decide +kernel
theorem dX9_set_14 : decode cX9_set 14 = .ok (.aload_n 0, 1) := by decide +kernel
theorem dX9_set_15 : decode cX9_set 15 = .ok (.getfield 23, 3) := by decide +kernel
theorem dX9_set_18 : decode cX9_set 18 = .ok (.iconst 4, 1) := by decide +kernel
theorem dX9_set_19 : decode cX9_set 19 = .ok (.bipush 8, 2) := by decide +kernel
theorem dX9_set_21 : decode cX9_set 21 = .ok (.iload_n 1, 1) := by decide +kernel
theorem dX9_set_22 : decode cX9_set 22 = .ok (.aload_n 0, 1) := by decide +kernel
theorem dX9_set_23 : decode cX9_set 23 = .ok (.getfield 142, 3) := by decide +kernel
theorem dX9_set_26 : decode cX9_set 26 = .ok (.idiv, 1) := by decide +kernel
theorem dX9_set_27 : decode cX9_set 27 = .ok (.imul, 1) := by decide +kernel
theorem dX9_set_28 : decode cX9_set 28 = .ok (.iload_n 1, 1) := by decide +kernel
theorem dX9_set_29 : decode cX9_set 29 = .ok (.aload_n 0, 1) := by decide +kernel
theorem dX9_set_30 : decode cX9_set 30 = .ok (.getfield 142, 3) := by decide +kernel
theorem dX9_set_33 : decode cX9_set 33 = .ok (.irem, 1) := by decide +kernel
theorem dX9_set_34 : decode cX9_set 34 = .ok (.iadd, 1) := by decide +kernel
theorem dX9_set_35 : decode cX9_set 35 = .ok (.imul, 1) := by decide +kernel
theorem dX9_set_36 : decode cX9_set 36 = .ok (.iload_n 2, 1) := by decide +kernel
theorem dX9_set_37 : decode cX9_set 37 = .ok (.iadd, 1) := by decide +kernel
theorem dX9_set_38 : decode cX9_set 38 = .ok (.aload_n 0, 1) := by decide +kernel
theorem dX9_set_39 : decode cX9_set 39 = .ok (.getfield 35, 3) := by decide +kernel
theorem dX9_set_42 : decode cX9_set 42 = .ok (.iload_n 2, 1) := by decide +kernel
theorem dX9_set_43 : decode cX9_set 43 = .ok (.iaload, 1) := by decide +kernel
theorem dX9_set_44 : decode cX9_set 44 = .ok (.iastore, 1) := by decide +kernel
theorem dX9_set_45 : decode cX9_set 45 = .ok (.iinc 2 1, 3) := by decide +kernel
theorem dX9_set_48 : decode cX9_set 48 = .ok (.goto (-39), 3) := by decide +kernel
theorem dX9_set_51 : decode cX9_set 51 = .ok (.return_, 1) := by decide +kernel
theorem dX9_tone_0 : decode cX9_tone 0 = .ok (.aload_n 0, 1) := by decide +kernel
theorem dX9_tone_1 : decode cX9_tone 1 = .ok (.getfield 35, 3) := by decide +kernel
theorem dX9_tone_4 : decode cX9_tone 4 = .ok (.iconst 0, 1) := by decide +kernel
theorem dX9_tone_5 : decode cX9_tone 5 = .ok (.iload_n 1, 1) := by decide +kernel
theorem dX9_tone_6 : decode cX9_tone 6 = .ok (.iastore, 1) := by decide +kernel
theorem dX9_tone_7 : decode cX9_tone 7 = .ok (.aload_n 0, 1) := by decide +kernel
theorem dX9_tone_8 : decode cX9_tone 8 = .ok (.getfield 35, 3) := by decide +kernel
theorem dX9_tone_11 : decode cX9_tone 11 = .ok (.iconst 1, 1) := by decide +kernel
theorem dX9_tone_12 : decode cX9_tone 12 = .ok (.iload_n 2, 1) := by decide +kernel
theorem dX9_tone_13 : decode cX9_tone 13 = .ok (.iastore, 1) := by decide +kernel
theorem dX9_tone_14 : decode cX9_tone 14 = .ok (.aload_n 0, 1) := by decide +kernel
theorem dX9_tone_15 : decode cX9_tone 15 = .ok (.getfield 35, 3) := by decide +kernel
theorem dX9_tone_18 : decode cX9_tone 18 = .ok (.iconst 2, 1) := by decide +kernel
theorem dX9_tone_19 : decode cX9_tone 19 = .ok (.iload_n 3, 1) := by decide +kernel
theorem dX9_tone_20 : decode cX9_tone 20 = .ok (.iastore, 1) := by decide +kernel
theorem dX9_tone_21 : decode cX9_tone 21 = .ok (.aload_n 0, 1) := by decide +kernel
theorem dX9_tone_22 : decode cX9_tone 22 = .ok (.getfield 35, 3) := by decide +kernel
theorem dX9_tone_25 : decode cX9_tone 25 = .ok (.iconst 3, 1) := by decide +kernel
theorem dX9_tone_26 : decode cX9_tone 26 = .ok (.iload 4, 2) := by decide +kernel
theorem dX9_tone_28 : decode cX9_tone 28 = .ok (.iastore, 1) := by decide +kernel
theorem dX9_tone_29 : decode cX9_tone 29 = .ok (.return_, 1) := by decide +kernel
set_option maxRecDepth 20000 in
theorem ggX9_reds_X9_tone : GoodIn wsX9_reds wsX9_tone := goodIn_r _ [6, 7, 8, 9, 10, 11, 12, 13, 14, 15, 16, 17, 18, 19, 20, 21, 22] (by decide +kernel) (by decide +kernel)
set_option maxRecDepth 20000 in
theorem gX9_reds_X9_tone : GoodIn wsX9_reds (wsV RX9 145 RX9 yX9_tone wsX9_tone) := goodIn_app (goodIn_of _ (by decide +kernel)) ggX9_reds_X9_tone
theorem dX9_reds_0 : decode cX9_reds 0 = .ok (.aload_n 0, 1) := by decide +kernel
theorem dX9_reds_1 : decode cX9_reds 1 = .ok (.aload_n 0, 1) := by decide +kernel
theorem dX9_reds_2 : decode cX9_reds 2 = .ok (.getfield 32, 3) := by decide +kernel
theorem dX9_reds_5 : decode cX9_reds 5 = .ok (.iconst 0, 1) := by decide +kernel
theorem dX9_reds_6 : decode cX9_reds 6 = .ok (.iaload, 1) := by decide +kernel
theorem dX9_reds_7 : decode cX9_reds 7 = .ok (.iload_n 1, 1) := by decide +kernel
theorem dX9_reds_8 : decode cX9_reds 8 = .ok (.iadd, 1) := by decide +kernel
theorem dX9_reds_9 : decode cX9_reds 9 = .ok (.sipush 255, 3) := by decide +kernel
theorem dX9_reds_12 : decode cX9_reds 12 = .ok (.iand, 1) := by decide +kernel
theorem dX9_reds_13 : decode cX9_reds 13 = .ok (.aload_n 0, 1) := by decide +kernel
theorem dX9_reds_14 : decode cX9_reds 14 = .ok (.getfield 32, 3) := by decide +kernel
theorem dX9_reds_17 : decode cX9_reds 17 = .ok (.iconst 1, 1) := by decide +kernel
theorem dX9_reds_18 : decode cX9_reds 18 = .ok (.iaload, 1) := by decide +kernel
theorem dX9_reds_19 : decode cX9_reds 19 = .ok (.iload_n 2, 1) := by decide +kernel
theorem dX9_reds_20 : decode cX9_reds 20 = .ok (.iadd, 1) := by decide +kernel
theorem dX9_reds_21 : decode cX9_reds 21 = .ok (.sipush 255, 3) := by decide +kernel
theorem dX9_reds_24 : decode cX9_reds 24 = .ok (.iand, 1) := by decide +kernel
theorem dX9_reds_25 : decode cX9_reds 25 = .ok (.aload_n 0, 1) := by decide +kernel
theorem dX9_reds_26 : decode cX9_reds 26 = .ok (.getfield 32, 3) := by decide +kernel
theorem dX9_reds_29 : decode cX9_reds 29 = .ok (.iconst 2, 1) := by decide +kernel
theorem dX9_reds_30 : decode cX9_reds 30 = .ok (.iaload, 1) := by decide +kernel
theorem dX9_reds_31 : decode cX9_reds 31 = .ok (.iload_n 3, 1) := by decide +kernel
theorem dX9_reds_32 : decode cX9_reds 32 = .ok (.iadd, 1) := by decide +kernel
theorem dX9_reds_33 : decode cX9_reds 33 = .ok (.sipush 255, 3) := by decide +kernel
theorem dX9_reds_36 : decode cX9_reds 36 = .ok (.iand, 1) := by decide +kernel
theorem dX9_reds_37 : decode cX9_reds 37 = .ok (.aload_n 0, 1) := by decide +kernel
theorem dX9_reds_38 : decode cX9_reds 38 = .ok (.getfield 32, 3) := by decide +kernel
theorem dX9_reds_41 : decode cX9_reds 41 = .ok (.iconst 3, 1) := by decide +kernel
theorem dX9_reds_42 : decode cX9_reds 42 = .ok (.iaload, 1) := by decide +kernel
theorem dX9_reds_43 : decode cX9_reds 43 = .ok (.invokevirtual 145, 3) := by decide +kernel
theorem dX9_reds_46 : decode cX9_reds 46 = .ok (.return_, 1) := by decide +kernel
set_option maxRecDepth 20000 in
theorem ggX9_chunk_X9_next : GoodIn wsX9_chunk wsX9_next := goodIn_r _ [8, 9, 10, 11, 12, 24, 25, 26, 27, 28, 29, 30, 31, 32, 33, 34, 35, 36, 37, 38] (by decide +kernel) (by decide +kernel)
set_option maxRecDepth 20000 in
theorem gX9_chunk_X9_next : GoodIn wsX9_chunk (wsV RX9 135 RX9 yX9_next wsX9_next) := goodIn_app (goodIn_of _ (by decide +kernel)) ggX9_chunk_X9_next
set_option maxRecDepth 20000 in
theorem ggX9_chunk_X9_tone : GoodIn wsX9_chunk wsX9_tone := goodIn_r _ [16, 3, 24, 25, 26, 27, 28, 29, 30, 31, 32, 33, 34, 35, 36, 37, 38] (by decide +kernel) (by decide +kernel)
set_option maxRecDepth 20000 in
theorem gX9_chunk_X9_tone : GoodIn wsX9_chunk (wsV RX9 145 RX9 yX9_tone wsX9_tone) := goodIn_app (goodIn_of _ (by decide +kernel)) ggX9_chunk_X9_tone
set_option maxRecDepth 20000 in
theorem ggX9_chunk_X9_reds : GoodIn wsX9_chunk wsX9_reds := goodIn_r _ [20, 1, 13, 14, 15, 7, 16, 3, 24, 25, 26, 27, 28, 29, 30, 31, 32, 33, 34, 35, 36, 37, 38] (by decide +kernel) (by decide +kernel)
set_option maxRecDepth 20000 in
theorem gX9_chunk_X9_reds : GoodIn wsX9_chunk (wsV RX9 149 RX9 yX9_reds wsX9_reds) := goodIn_app (goodIn_of _ (by decide +kernel)) ggX9_chunk_X9_reds
set_option maxRecDepth 20000 in
theorem ggX9_chunk_X9_placeOf : GoodIn wsX9_chunk wsX9_placeOf := goodIn_r _ [23] (by decide +kernel) (by decide +kernel)
set_option maxRecDepth 20000 in
theorem gX9_chunk_X9_placeOf : GoodIn wsX9_chunk (va_wsS RX9 81 yX9_placeOf wsX9_placeOf) := goodIn_app (goodIn_of _ (by decide +kernel)) ggX9_chunk_X9_placeOf
theorem dX9_chunk_0 : decode cX9_chunk 0 = .ok (.iload_n 1, 1) := by decide +kernel
theorem dX9_chunk_1 : decode cX9_chunk 1 = .ok (.sipush 254, 3) := by decide +kernel
theorem dX9_chunk_4 : decode cX9_chunk 4 = .ok (.if_icmp .lt 50, 3) := by decide +kernel
theorem dX9_chunk_7 : decode cX9_chunk 7 = .ok (.aload_n 0, 1) := by decide +kernel
theorem dX9_chunk_8 : decode cX9_chunk 8 = .ok (.invokevirtual 135, 3) := by decide +kernel
theorem dX9_chunk_11 : decode cX9_chunk 11 = .ok (.istore_n 2, 1) := by decide +kernel
theorem dX9_chunk_12 : decode cX9_chunk 12 = .ok (.aload_n 0, 1) := by decide +kernel
theorem dX9_chunk_13 : decode cX9_chunk 13 = .ok (.invokevirtual 135, 3) := by decide +kernel
theorem dX9_chunk_16 : decode cX9_chunk 16 = .ok (.istore_n 3, 1) := by decide +kernel
theorem dX9_chunk_17 : decode cX9_chunk 17 = .ok (.aload_n 0, 1) := by decide +kernel
theorem dX9_chunk_18 : decode cX9_chunk 18 = .ok (.invokevirtual 135, 3) := by decide +kernel
theorem dX9_chunk_21 : decode cX9_chunk 21 = .ok (.istore 4, 2) := by decide +kernel
theorem dX9_chunk_23 : decode cX9_chunk 23 = .ok (.aload_n 0, 1) := by decide +kernel
theorem dX9_chunk_24 : decode cX9_chunk 24 = .ok (.iload_n 2, 1) := by decide +kernel
theorem dX9_chunk_25 : decode cX9_chunk 25 = .ok (.iload_n 3, 1) := by decide +kernel
theorem dX9_chunk_26 : decode cX9_chunk 26 = .ok (.iload 4, 2) := by decide +kernel
theorem dX9_chunk_28 : decode cX9_chunk 28 = .ok (.iload_n 1, 1) := by decide +kernel
theorem dX9_chunk_29 : decode cX9_chunk 29 = .ok (.sipush 255, 3) := by decide +kernel
theorem dX9_chunk_32 : decode cX9_chunk 32 = .ok (.if_icmp .ne 10, 3) := by decide +kernel
theorem dX9_chunk_35 : decode cX9_chunk 35 = .ok (.aload_n 0, 1) := by decide +kernel
theorem dX9_chunk_36 : decode cX9_chunk 36 = .ok (.invokevirtual 135, 3) := by decide +kernel
theorem dX9_chunk_39 : decode cX9_chunk 39 = .ok (.goto 9, 3) := by decide +kernel
theorem dX9_chunk_42 : decode cX9_chunk 42 = .ok (.aload_n 0, 1) := by decide +kernel
theorem dX9_chunk_43 : decode cX9_chunk 43 = .ok (.getfield 32, 3) := by decide +kernel
theorem dX9_chunk_46 : decode cX9_chunk 46 = .ok (.iconst 3, 1) := by decide +kernel
theorem dX9_chunk_47 : decode cX9_chunk 47 = .ok (.iaload, 1) := by decide +kernel
theorem dX9_chunk_48 : decode cX9_chunk 48 = .ok (.invokevirtual 145, 3) := by decide +kernel
theorem dX9_chunk_51 : decode cX9_chunk 51 = .ok (.goto 122, 3) := by decide +kernel
theorem dX9_chunk_54 : decode cX9_chunk 54 = .ok (.iload_n 1, 1) := by decide +kernel
theorem dX9_chunk_55 : decode cX9_chunk 55 = .ok (.bipush 64, 2) := by decide +kernel
theorem dX9_chunk_57 : decode cX9_chunk 57 = .ok (.if_icmp .ge 48, 3) := by decide +kernel
theorem dX9_chunk_60 : decode cX9_chunk 60 = .ok (.aload_n 0, 1) := by decide +kernel
theorem dX9_chunk_61 : decode cX9_chunk 61 = .ok (.aload_n 0, 1) := by decide +kernel
theorem dX9_chunk_62 : decode cX9_chunk 62 = .ok (.getfield 29, 3) := by decide +kernel
theorem dX9_chunk_65 : decode cX9_chunk 65 = .ok (.iconst 4, 1) := by decide +kernel
theorem dX9_chunk_66 : decode cX9_chunk 66 = .ok (.iload_n 1, 1) := by decide +kernel
theorem dX9_chunk_67 : decode cX9_chunk 67 = .ok (.imul, 1) := by decide +kernel
theorem dX9_chunk_68 : decode cX9_chunk 68 = .ok (.iaload, 1) := by decide +kernel
theorem dX9_chunk_69 : decode cX9_chunk 69 = .ok (.aload_n 0, 1) := by decide +kernel
theorem dX9_chunk_70 : decode cX9_chunk 70 = .ok (.getfield 29, 3) := by decide +kernel
theorem dX9_chunk_73 : decode cX9_chunk 73 = .ok (.iconst 4, 1) := by decide +kernel
theorem dX9_chunk_74 : decode cX9_chunk 74 = .ok (.iload_n 1, 1) := by decide +kernel
theorem dX9_chunk_75 : decode cX9_chunk 75 = .ok (.imul, 1) := by decide +kernel
theorem dX9_chunk_76 : decode cX9_chunk 76 = .ok (.iconst 1, 1) := by decide +kernel
theorem dX9_chunk_77 : decode cX9_chunk 77 = .ok (.iadd, 1) := by decide +kernel
theorem dX9_chunk_78 : decode cX9_chunk 78 = .ok (.iaload, 1) := by decide +kernel
theorem dX9_chunk_79 : decode cX9_chunk 79 = .ok (.aload_n 0, 1) := by decide +kernel
theorem dX9_chunk_80 : decode cX9_chunk 80 = .ok (.getfield 29, 3) := by decide +kernel
theorem dX9_chunk_83 : decode cX9_chunk 83 = .ok (.iconst 4, 1) := by decide +kernel
theorem dX9_chunk_84 : decode cX9_chunk 84 = .ok (.iload_n 1, 1) := by decide +kernel
theorem dX9_chunk_85 : decode cX9_chunk 85 = .ok (.imul, 1) := by decide +kernel
theorem dX9_chunk_86 : decode cX9_chunk 86 = .ok (.iconst 2, 1) := by decide +kernel
theorem dX9_chunk_87 : decode cX9_chunk 87 = .ok (.iadd, 1) := by decide +kernel
theorem dX9_chunk_88 : decode cX9_chunk 88 = .ok (.iaload, 1) := by decide +kernel
theorem dX9_chunk_89 : decode cX9_chunk 89 = .ok (.aload_n 0, 1) := by decide +kernel
theorem dX9_chunk_90 : decode cX9_chunk 90 = .ok (.getfield 29, 3) := by decide +kernel
theorem dX9_chunk_93 : decode cX9_chunk 93 = .ok (.iconst 4, 1) := by decide +kernel
theorem dX9_chunk_94 : decode cX9_chunk 94 = .ok (.iload_n 1, 1) := by decide +kernel
theorem dX9_chunk_95 : decode cX9_chunk 95 = .ok (.imul, 1) := by decide +kernel
theorem dX9_chunk_96 : decode cX9_chunk 96 = .ok (.iconst 3, 1) := by decide +kernel
theorem dX9_chunk_97 : decode cX9_chunk 97 = .ok (.iadd, 1) := by decide +kernel
theorem dX9_chunk_98 : decode cX9_chunk 98 = .ok (.iaload, 1) := by decide +kernel
theorem dX9_chunk_99 : decode cX9_chunk 99 = .ok (.invokevirtual 145, 3) := by decide +kernel
theorem dX9_chunk_102 : decode cX9_chunk 102 = .ok (.goto 71, 3) := by decide +kernel
theorem dX9_chunk_105 : decode cX9_chunk 105 = .ok (.iload_n 1, 1) := by decide +kernel
theorem dX9_chunk_106 : decode cX9_chunk 106 = .ok (.sipush 128, 3) := by decide +kernel
theorem dX9_chunk_109 : decode cX9_chunk 109 = .ok (.if_icmp .ge 30, 3) := by decide +kernel
theorem dX9_chunk_112 : decode cX9_chunk 112 = .ok (.aload_n 0, 1) := by decide +kernel
theorem dX9_chunk_113 : decode cX9_chunk 113 = .ok (.iload_n 1, 1) := by decide +kernel
theorem dX9_chunk_114 : decode cX9_chunk 114 = .ok (.bipush 16, 2) := by decide +kernel
theorem dX9_chunk_116 : decode cX9_chunk 116 = .ok (.idiv, 1) := by decide +kernel
theorem dX9_chunk_117 : decode cX9_chunk 117 = .ok (.iconst 4, 1) := by decide +kernel
theorem dX9_chunk_118 : decode cX9_chunk 118 = .ok (.irem, 1) := by decide +kernel
theorem dX9_chunk_119 : decode cX9_chunk 119 = .ok (.iconst 2, 1) := by decide +kernel
theorem dX9_chunk_120 : decode cX9_chunk 120 = .ok (.isub, 1) := by decide +kernel
theorem dX9_chunk_121 : decode cX9_chunk 121 = .ok (.iload_n 1, 1) := by decide +kernel
theorem dX9_chunk_122 : decode cX9_chunk 122 = .ok (.iconst 4, 1) := by decide +kernel
theorem dX9_chunk_123 : decode cX9_chunk 123 = .ok (.idiv, 1) := by decide +kernel
theorem dX9_chunk_124 : decode cX9_chunk 124 = .ok (.iconst 4, 1) := by decide +kernel
theorem dX9_chunk_125 : decode cX9_chunk 125 = .ok (.irem, 1) := by decide +kernel
theorem dX9_chunk_126 : decode cX9_chunk 126 = .ok (.iconst 2, 1) := by decide +kernel
theorem dX9_chunk_127 : decode cX9_chunk 127 = .ok (.isub, 1) := by decide +kernel
theorem dX9_chunk_128 : decode cX9_chunk 128 = .ok (.iload_n 1, 1) := by decide +kernel
theorem dX9_chunk_129 : decode cX9_chunk 129 = .ok (.iconst 4, 1) := by decide +kernel
theorem dX9_chunk_130 : decode cX9_chunk 130 = .ok (.irem, 1) := by decide +kernel
