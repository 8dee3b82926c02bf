theorem dX9_chunk_131 : decode cX9_chunk 131 = .ok (.iconst 2, 1) := by decide +kernel
theorem dX9_chunk_132 : decode cX9_chunk 132 = .ok (.isub, 1) := by decide +kernel
theorem dX9_chunk_133 : decode cX9_chunk 133 = .ok (.invokevirtual 149, 3) := by decide +kernel
theorem dX9_chunk_136 : decode cX9_chunk 136 = .ok (.goto 37, 3) := by decide +kernel
theorem dX9_chunk_139 : decode cX9_chunk 139 = .ok (.iload_n 1, 1) := by decide +kernel
theorem dX9_chunk_140 : decode cX9_chunk 140 = .ok (.sipush 160, 3) := by decide +kernel
theorem dX9_chunk_143 : decode cX9_chunk 143 = .ok (.isub, 1) := by decide +kernel
theorem dX9_chunk_144 : decode cX9_chunk 144 = .ok (.istore_n 2, 1) := by decide +kernel
theorem dX9_chunk_145 : decode cX9_chunk 145 = .ok (.aload_n 0, 1) := by decide +kernel
theorem dX9_chunk_146 : decode cX9_chunk 146 = .ok (.invokevirtual 135, 3) := by decide +kernel
theorem dX9_chunk_149 : decode cX9_chunk 149 = .ok (.istore_n 3, 1) := by decide +kernel
theorem dX9_chunk_150 : decode cX9_chunk 150 = .ok (.aload_n 0, 1) := by decide +kernel
theorem dX9_chunk_151 : decode cX9_chunk 151 = .ok (.iload_n 2, 1) := by decide +kernel
theorem dX9_chunk_152 : decode cX9_chunk 152 = .ok (.iload_n 3, 1) := by decide +kernel
theorem dX9_chunk_153 : decode cX9_chunk 153 = .ok (.bipush 16, 2) := by decide +kernel
theorem dX9_chunk_155 : decode cX9_chunk 155 = .ok (.idiv, 1) := by decide +kernel
theorem dX9_chunk_156 : decode cX9_chunk 156 = .ok (.iadd, 1) := by decide +kernel
theorem dX9_chunk_157 : decode cX9_chunk 157 = .ok (.bipush 8, 2) := by decide +kernel
theorem dX9_chunk_159 : decode cX9_chunk 159 = .ok (.isub, 1) := by decide +kernel
theorem dX9_chunk_160 : decode cX9_chunk 160 = .ok (.iload_n 2, 1) := by decide +kernel
theorem dX9_chunk_161 : decode cX9_chunk 161 = .ok (.iload_n 2, 1) := by decide +kernel
theorem dX9_chunk_162 : decode cX9_chunk 162 = .ok (.iload_n 3, 1) := by decide +kernel
theorem dX9_chunk_163 : decode cX9_chunk 163 = .ok (.bipush 16, 2) := by decide +kernel
theorem dX9_chunk_165 : decode cX9_chunk 165 = .ok (.irem, 1) := by decide +kernel
theorem dX9_chunk_166 : decode cX9_chunk 166 = .ok (.iadd, 1) := by decide +kernel
theorem dX9_chunk_167 : decode cX9_chunk 167 = .ok (.bipush 8, 2) := by decide +kernel
theorem dX9_chunk_169 : decode cX9_chunk 169 = .ok (.isub, 1) := by decide +kernel
theorem dX9_chunk_170 : decode cX9_chunk 170 = .ok (.invokevirtual 149, 3) := by decide +kernel
theorem dX9_chunk_173 : decode cX9_chunk 173 = .ok (.iconst 4, 1) := by decide +kernel
theorem dX9_chunk_174 : decode cX9_chunk 174 = .ok (.aload_n 0, 1) := by decide +kernel
theorem dX9_chunk_175 : decode cX9_chunk 175 = .ok (.getfield 35, 3) := by decide +kernel
theorem dX9_chunk_178 : decode cX9_chunk 178 = .ok (.iconst 0, 1) := by decide +kernel
theorem dX9_chunk_179 : decode cX9_chunk 179 = .ok (.iaload, 1) := by decide +kernel
theorem dX9_chunk_180 : decode cX9_chunk 180 = .ok (.aload_n 0, 1) := by decide +kernel
theorem dX9_chunk_181 : decode cX9_chunk 181 = .ok (.getfield 35, 3) := by decide +kernel
theorem dX9_chunk_184 : decode cX9_chunk 184 = .ok (.iconst 1, 1) := by decide +kernel
theorem dX9_chunk_185 : decode cX9_chunk 185 = .ok (.iaload, 1) := by decide +kernel
theorem dX9_chunk_186 : decode cX9_chunk 186 = .ok (.aload_n 0, 1) := by decide +kernel
theorem dX9_chunk_187 : decode cX9_chunk 187 = .ok (.getfield 35, 3) := by decide +kernel
theorem dX9_chunk_190 : decode cX9_chunk 190 = .ok (.iconst 2, 1) := by decide +kernel
theorem dX9_chunk_191 : decode cX9_chunk 191 = .ok (.iaload, 1) := by decide +kernel
theorem dX9_chunk_192 : decode cX9_chunk 192 = .ok (.aload_n 0, 1) := by decide +kernel
theorem dX9_chunk_193 : decode cX9_chunk 193 = .ok (.getfield 35, 3) := by decide +kernel
theorem dX9_chunk_196 : decode cX9_chunk 196 = .ok (.iconst 3, 1) := by decide +kernel
theorem dX9_chunk_197 : decode cX9_chunk 197 = .ok (.iaload, 1) := by decide +kernel
theorem dX9_chunk_198 : decode cX9_chunk 198 = .ok (.invokestatic 81, 3) := by decide +kernel
theorem dX9_chunk_201 : decode cX9_chunk 201 = .ok (.imul, 1) := by decide +kernel
theorem dX9_chunk_202 : decode cX9_chunk 202 = .ok (.istore_n 2, 1) := by decide +kernel
theorem dX9_chunk_203 : decode cX9_chunk 203 = .ok (.iconst 0, 1) := by decide +kernel
theorem dX9_chunk_204 : decode cX9_chunk 204 = .ok (.istore_n 3, 1) := by decide +kernel
theorem dX9_chunk_205 : decode cX9_chunk 205 = .ok (.iload_n 3, 1) := by decide +kernel
theorem dX9_chunk_206 : decode cX9_chunk 206 = .ok (.iconst 4, 1) := by decide +kernel
theorem dX9_chunk_207 : decode cX9_chunk 207 = .ok (.if_icmp .ge 35, 3) := by decide +kernel
theorem dX9_chunk_210 : decode cX9_chunk 210 = .ok (.aload_n 0, 1) := by decide +kernel
theorem dX9_chunk_211 : decode cX9_chunk 211 = .ok (.getfield 32, 3) := by decide +kernel
theorem dX9_chunk_214 : decode cX9_chunk 214 = .ok (.iload_n 3, 1) := by decide +kernel
theorem dX9_chunk_215 : decode cX9_chunk 215 = .ok (.aload_n 0, 1) := by decide +kernel
theorem dX9_chunk_216 : decode cX9_chunk 216 = .ok (.getfield 35, 3) := by decide +kernel
theorem dX9_chunk_219 : decode cX9_chunk 219 = .ok (.iload_n 3, 1) := by decide +kernel
theorem dX9_chunk_220 : decode cX9_chunk 220 = .ok (.iaload, 1) := by decide +kernel
theorem dX9_chunk_221 : decode cX9_chunk 221 = .ok (.iastore, 1) := by decide +kernel
theorem dX9_chunk_222 : decode cX9_chunk 222 = .ok (.aload_n 0, 1) := by decide +kernel
theorem dX9_chunk_223 : decode cX9_chunk 223 = .ok (.getfield 29, 3) := by decide +kernel
theorem dX9_chunk_226 : decode cX9_chunk 226 = .ok (.iload_n 2, 1) := by decide +kernel
theorem dX9_chunk_227 : decode cX9_chunk 227 = .ok (.iload_n 3, 1) := by decide +kernel
theorem dX9_chunk_228 : decode cX9_chunk 228 = .ok (.iadd, 1) := by decide +kernel
theorem dX9_chunk_229 : decode cX9_chunk 229 = .ok (.aload_n 0, 1) := by decide +kernel
theorem dX9_chunk_230 : decode cX9_chunk 230 = .ok (.getfield 35, 3) := by decide +kernel
theorem dX9_chunk_233 : decode cX9_chunk 233 = .ok (.iload_n 3, 1) := by decide +kernel
theorem dX9_chunk_234 : decode cX9_chunk 234 = .ok (.iaload, 1) := by decide +kernel
theorem dX9_chunk_235 : decode cX9_chunk 235 = .ok (.iastore, 1) := by decide +kernel
theorem dX9_chunk_236 : decode cX9_chunk 236 = .ok (.iinc 3 1, 3) := by decide +kernel
theorem dX9_chunk_239 : decode cX9_chunk 239 = .ok (.goto (-34), 3) := by decide +kernel
theorem dX9_chunk_242 : decode cX9_chunk 242 = .ok (.return_, 1) := by decide +kernel
set_option maxRecDepth 20000 in
theorem ggX9_readFirst_X9_skip : GoodIn wsX9_readFirst wsX9_skip := goodIn_r _ [11, 3, 12, 13, 14, 10, 15, 5, 6, 16, 62, 63, 64, 65, 66, 67, 68, 69, 70, 71, 72, 73, 74, 75, 76] (by decide +kernel) (by decide +kernel)
set_option maxRecDepth 20000 in
theorem gX9_readFirst_X9_skip : GoodIn wsX9_readFirst (wsV RX9 152 RX9 yX9_skip wsX9_skip) := goodIn_app (goodIn_of _ (by decide +kernel)) ggX9_readFirst_X9_skip
set_option maxRecDepth 20000 in
theorem ggX9_readFirst_X9_number : GoodIn wsX9_readFirst wsX9_number := goodIn_r _ [20, 12, 13, 14, 10, 15, 3, 5, 6, 16, 62, 63, 64, 65, 66, 67, 68, 69, 70, 71, 72, 73, 74, 75, 76] (by decide +kernel) (by decide +kernel)
set_option maxRecDepth 20000 in
theorem gX9_readFirst_X9_number : GoodIn wsX9_readFirst (wsV RX9 155 RX9 yX9_number wsX9_number) := goodIn_app (goodIn_of _ (by decide +kernel)) ggX9_readFirst_X9_number
set_option maxRecDepth 20000 in
theorem ggX9_readFirst_X9_sideOf : GoodIn wsX9_readFirst wsX9_sideOf := goodIn_r _ [24, 25, 26, 10, 27, 28, 29, 30, 31, 3, 62, 63, 64, 65, 66, 67, 68, 69, 70, 71, 72, 73, 74, 75, 76] (by decide +kernel) (by decide +kernel)
set_option maxRecDepth 20000 in
theorem gX9_readFirst_X9_sideOf : GoodIn wsX9_readFirst (wsV RX9 159 RX9 yX9_sideOf wsX9_sideOf) := goodIn_app (goodIn_of _ (by decide +kernel)) ggX9_readFirst_X9_sideOf
set_option maxRecDepth 20000 in
theorem ggX9_readFirst_X9_next : GoodIn wsX9_readFirst wsX9_next := goodIn_r _ [15, 3, 5, 6, 16, 62, 63, 64, 65, 66, 67, 68, 69, 70, 71, 72, 73, 74, 75, 76] (by decide +kernel) (by decide +kernel)
set_option maxRecDepth 20000 in
theorem gX9_readFirst_X9_next : GoodIn wsX9_readFirst (wsV RX9 135 RX9 yX9_next wsX9_next) := goodIn_app (goodIn_of _ (by decide +kernel)) ggX9_readFirst_X9_next
set_option maxRecDepth 20000 in
theorem ggX9_readFirst_X9_broken : GoodIn wsX9_readFirst wsX9_broken := goodIn_r _ [31, 3, 62, 63, 64, 65, 66, 67, 68, 69, 70, 71, 72, 73, 74, 75, 76] (by decide +kernel) (by decide +kernel)
set_option maxRecDepth 20000 in
theorem gX9_readFirst_X9_broken : GoodIn wsX9_readFirst (wsV RX9 139 RX9 yX9_broken wsX9_broken) := goodIn_app (goodIn_of _ (by decide +kernel)) ggX9_readFirst_X9_broken
set_option maxRecDepth 20000 in
theorem ggX9_readFirst_X9_clearTable : GoodIn wsX9_readFirst wsX9_clearTable := goodIn_r _ [35, 36, 4, 62, 63, 64, 65, 66, 67, 68, 69, 70, 71, 72, 73, 74, 75, 76] (by decide +kernel) (by decide +kernel)
set_option maxRecDepth 20000 in
theorem gX9_readFirst_X9_clearTable : GoodIn wsX9_readFirst (wsV RX9 78 RX9 yX9_clearTable wsX9_clearTable) := goodIn_app (goodIn_of _ (by decide +kernel)) ggX9_readFirst_X9_clearTable
set_option maxRecDepth 20000 in
theorem ggX9_readFirst_X9_tone : GoodIn wsX9_readFirst wsX9_tone := goodIn_r _ [40, 41, 62, 63, 64, 65, 66, 67, 68, 69, 70, 71, 72, 73, 74, 75, 76] (by decide +kernel) (by decide +kernel)
set_option maxRecDepth 20000 in
theorem gX9_readFirst_X9_tone : GoodIn wsX9_readFirst (wsV RX9 145 RX9 yX9_tone wsX9_tone) := goodIn_app (goodIn_of _ (by decide +kernel)) ggX9_readFirst_X9_tone
set_option maxRecDepth 20000 in
theorem ggX9_readFirst_X9_chunk : GoodIn wsX9_readFirst wsX9_chunk := goodIn_r _ [45, 4, 36, 41, 12, 13, 14, 10, 15, 3, 5, 6, 16, 37, 38, 39, 40, 46, 47, 48, 49, 50, 51, 52, 62, 63, 64, 65, 66, 67, 68, 69, 70, 71, 72, 73, 74, 75, 76] (by decide +kernel) (by decide +kernel)
set_option maxRecDepth 20000 in
theorem gX9_readFirst_X9_chunk : GoodIn wsX9_readFirst (wsV RX9 165 RX9 yX9_chunk wsX9_chunk) := goodIn_app (goodIn_of _ (by decide +kernel)) ggX9_readFirst_X9_chunk
set_option maxRecDepth 20000 in
theorem ggX9_readFirst_X9_set : GoodIn wsX9_readFirst wsX9_set := goodIn_r _ [56, 3, 57, 1, 41, 62, 63, 64, 65, 66, 67, 68, 69, 70, 71, 72, 73, 74, 75, 76] (by decide +kernel) (by decide +kernel)
set_option maxRecDepth 20000 in
theorem gX9_readFirst_X9_set : GoodIn wsX9_readFirst (wsV RX9 168 RX9 yX9_set wsX9_set) := goodIn_app (goodIn_of _ (by decide +kernel)) ggX9_readFirst_X9_set
set_option maxRecDepth 20000 in
theorem ggX9_readFirst_X9_must : GoodIn wsX9_readFirst wsX9_must := goodIn_r _ [61, 28, 29, 30, 10, 31, 3, 62, 63, 64, 65, 66, 67, 68, 69, 70, 71, 72, 73, 74, 75, 76] (by decide +kernel) (by decide +kernel)
set_option maxRecDepth 20000 in
theorem gX9_readFirst_X9_must : GoodIn wsX9_readFirst (wsV RX9 171 RX9 yX9_must wsX9_must) := goodIn_app (goodIn_of _ (by decide +kernel)) ggX9_readFirst_X9_must
theorem dX9_readFirst_0 : decode cX9_readFirst 0 = .ok (.aload_n 0, 1) := by decide +kernel
theorem dX9_readFirst_1 : decode cX9_readFirst 1 = .ok (.iconst 4, 1) := by decide +kernel
theorem dX9_readFirst_2 : decode cX9_readFirst 2 = .ok (.invokevirtual 152, 3) := by decide +kernel
theorem dX9_readFirst_5 : decode cX9_readFirst 5 = .ok (.aload_n 0, 1) := by decide +kernel
theorem dX9_readFirst_6 : decode cX9_readFirst 6 = .ok (.aload_n 0, 1) := by decide +kernel
theorem dX9_readFirst_7 : decode cX9_readFirst 7 = .ok (.aload_n 0, 1) := by decide +kernel
theorem dX9_readFirst_8 : decode cX9_readFirst 8 = .ok (.iconst 4, 1) := by decide +kernel
theorem dX9_readFirst_9 : decode cX9_readFirst 9 = .ok (.iconst 1, 1) := by decide +kernel
theorem dX9_readFirst_10 : decode cX9_readFirst 10 = .ok (.invokevirtual 155, 3) := by decide +kernel
theorem dX9_readFirst_13 : decode cX9_readFirst 13 = .ok (.invokevirtual 159, 3) := by decide +kernel
theorem dX9_readFirst_16 : decode cX9_readFirst 16 = .ok (.putfield 142, 3) := by decide +kernel
theorem dX9_readFirst_19 : decode cX9_readFirst 19 = .ok (.aload_n 0, 1) := by decide +kernel
theorem dX9_readFirst_20 : decode cX9_readFirst 20 = .ok (.aload_n 0, 1) := by decide +kernel
theorem dX9_readFirst_21 : decode cX9_readFirst 21 = .ok (.aload_n 0, 1) := by decide +kernel
theorem dX9_readFirst_22 : decode cX9_readFirst 22 = .ok (.iconst 4, 1) := by decide +kernel
theorem dX9_readFirst_23 : decode cX9_readFirst 23 = .ok (.iconst 1, 1) := by decide +kernel
theorem dX9_readFirst_24 : decode cX9_readFirst 24 = .ok (.invokevirtual 155, 3) := by decide +kernel
theorem dX9_readFirst_27 : decode cX9_readFirst 27 = .ok (.invokevirtual 159, 3) := by decide +kernel
theorem dX9_readFirst_30 : decode cX9_readFirst 30 = .ok (.putfield 162, 3) := by decide +kernel
theorem dX9_readFirst_33 : decode cX9_readFirst 33 = .ok (.aload_n 0, 1) := by decide +kernel
theorem dX9_readFirst_34 : decode cX9_readFirst 34 = .ok (.invokevirtual 135, 3) := by decide +kernel
theorem dX9_readFirst_37 : decode cX9_readFirst 37 = .ok (.istore_n 1, 1) := by decide +kernel
theorem dX9_readFirst_38 : decode cX9_readFirst 38 = .ok (.aload_n 0, 1) := by decide +kernel
theorem dX9_readFirst_39 : decode cX9_readFirst 39 = .ok (.iload_n 1, 1) := by decide +kernel
theorem dX9_readFirst_40 : decode cX9_readFirst 40 = .ok (.iconst 3, 1) := by decide +kernel
theorem dX9_readFirst_41 : decode cX9_readFirst 41 = .ok (.if_icmp .eq 12, 3) := by decide +kernel
theorem dX9_readFirst_44 : decode cX9_readFirst 44 = .ok (.iload_n 1, 1) := by decide +kernel
theorem dX9_readFirst_45 : decode cX9_readFirst 45 = .ok (.iconst 4, 1) := by decide +kernel
theorem dX9_readFirst_46 : decode cX9_readFirst 46 = .ok (.if_icmp .eq 7, 3) := by decide +kernel
theorem dX9_readFirst_49 : decode cX9_readFirst 49 = .ok (.iconst 1, 1) := by decide +kernel
theorem dX9_readFirst_50 : decode cX9_readFirst 50 = .ok (.goto 4, 3) := by decide +kernel
theorem dX9_readFirst_53 : decode cX9_readFirst 53 = .ok (.iconst 0, 1) := by decide +kernel
theorem dX9_readFirst_54 : decode cX9_readFirst 54 = .ok (.invokevirtual 139, 3) := by decide +kernel
theorem dX9_readFirst_57 : decode cX9_readFirst 57 = .ok (.aload_n 0, 1) := by decide +kernel
theorem dX9_readFirst_58 : decode cX9_readFirst 58 = .ok (.aload_n 0, 1) := by decide +kernel
theorem dX9_readFirst_59 : decode cX9_readFirst 59 = .ok (.invokevirtual 135, 3) := by decide +kernel
theorem dX9_readFirst_62 : decode cX9_readFirst 62 = .ok (.iconst 1, 1) := by decide +kernel
theorem dX9_readFirst_63 : decode cX9_readFirst 63 = .ok (.if_icmp .le 7, 3) := by decide +kernel
theorem dX9_readFirst_66 : decode cX9_readFirst 66 = .ok (.iconst 1, 1) := by decide +kernel
theorem dX9_readFirst_67 : decode cX9_readFirst 67 = .ok (.goto 4, 3) := by decide +kernel
theorem dX9_readFirst_70 : decode cX9_readFirst 70 = .ok (.iconst 0, 1) := by decide +kernel
theorem dX9_readFirst_71 : decode cX9_readFirst 71 = .ok (.invokevirtual 139, 3) := by decide +kernel
theorem dX9_readFirst_74 : decode cX9_readFirst 74 = .ok (.aload_n 0, 1) := by decide +kernel
theorem dX9_readFirst_75 : decode cX9_readFirst 75 = .ok (.invokevirtual 78, 3) := by decide +kernel
theorem dX9_readFirst_78 : decode cX9_readFirst 78 = .ok (.iconst 0, 1) := by decide +kernel
theorem dX9_readFirst_79 : decode cX9_readFirst 79 = .ok (.istore_n 2, 1) := by decide +kernel
theorem dX9_readFirst_80 : decode cX9_readFirst 80 = .ok (.aload_n 0, 1) := by decide +kernel
theorem dX9_readFirst_81 : decode cX9_readFirst 81 = .ok (.getfield 129, 3) := by decide +kernel
theorem dX9_readFirst_84 : decode cX9_readFirst 84 = .ok (.ifCond .ne 169, 3) := by decide +kernel
theorem dX9_readFirst_87 : decode cX9_readFirst 87 = .ok (.iload_n 2, 1) := by decide +kernel
theorem dX9_readFirst_88 : decode cX9_readFirst 88 = .ok (.aload_n 0, 1) := by decide +kernel
theorem dX9_readFirst_89 : decode cX9_readFirst 89 = .ok (.getfield 142, 3) := by decide +kernel
theorem dX9_readFirst_92 : decode cX9_readFirst 92 = .ok (.aload_n 0, 1) := by decide +kernel
theorem dX9_readFirst_93 : decode cX9_readFirst 93 = .ok (.getfield 162, 3) := by decide +kernel
theorem dX9_readFirst_96 : decode cX9_readFirst 96 = .ok (.imul, 1) := by decide +kernel
theorem dX9_readFirst_97 : decode cX9_readFirst 97 = .ok (.if_icmp .ge 156, 3) := by decide +kernel
theorem dX9_readFirst_100 : decode cX9_readFirst 100 = .ok (.aload_n 0, 1) := by decide +kernel
theorem dX9_readFirst_101 : decode cX9_readFirst 101 = .ok (.invokevirtual 135, 3) := by decide +kernel
theorem dX9_readFirst_104 : decode cX9_readFirst 104 = .ok (.istore_n 3, 1) := by decide +kernel
theorem dX9_readFirst_105 : decode cX9_readFirst 105 = .ok (.iload_n 3, 1) := by decide +kernel
theorem dX9_readFirst_106 : decode cX9_readFirst 106 = .ok (.sipush 192, 3) := by decide +kernel
theorem dX9_readFirst_109 : decode cX9_readFirst 109 = .ok (.if_icmp .lt 18, 3) := by decide +kernel
theorem dX9_readFirst_112 : decode cX9_readFirst 112 = .ok (.iload_n 3, 1) := by decide +kernel
theorem dX9_readFirst_113 : decode cX9_readFirst 113 = .ok (.sipush 254, 3) := by decide +kernel
theorem dX9_readFirst_116 : decode cX9_readFirst 116 = .ok (.if_icmp .ge 11, 3) := by decide +kernel
theorem dX9_readFirst_119 : decode cX9_readFirst 119 = .ok (.iload_n 3, 1) := by decide +kernel
theorem dX9_readFirst_120 : decode cX9_readFirst 120 = .ok (.sipush 191, 3) := by decide +kernel
theorem dX9_readFirst_123 : decode cX9_readFirst 123 = .ok (.isub, 1) := by decide +kernel
theorem dX9_readFirst_124 : decode cX9_readFirst 124 = .ok (.goto 4, 3) := by decide +kernel
theorem dX9_readFirst_127 : decode cX9_readFirst 127 = .ok (.iconst 1, 1) := by decide +kernel
theorem dX9_readFirst_128 : decode cX9_readFirst 128 = .ok (.istore 4, 2) := by decide +kernel
theorem dX9_readFirst_130 : decode cX9_readFirst 130 = .ok (.aload_n 0, 1) := by decide +kernel
theorem dX9_readFirst_131 : decode cX9_readFirst 131 = .ok (.iload 4, 2) := by decide +kernel
theorem dX9_readFirst_133 : decode cX9_readFirst 133 = .ok (.aload_n 0, 1) := by decide +kernel
theorem dX9_readFirst_134 : decode cX9_readFirst 134 = .ok (.getfield 142, 3) := by decide +kernel
theorem dX9_readFirst_137 : decode cX9_readFirst 137 = .ok (.aload_n 0, 1) := by decide +kernel
theorem dX9_readFirst_138 : decode cX9_readFirst 138 = .ok (.getfield 162, 3) := by decide +kernel
theorem dX9_readFirst_141 : decode cX9_readFirst 141 = .ok (.imul, 1) := by decide +kernel
theorem dX9_readFirst_142 : decode cX9_readFirst 142 = .ok (.iload_n 2, 1) := by decide +kernel
theorem dX9_readFirst_143 : decode cX9_readFirst 143 = .ok (.isub, 1) := by decide +kernel
theorem dX9_readFirst_144 : decode cX9_readFirst 144 = .ok (.if_icmp .le 7, 3) := by decide +kernel
theorem dX9_readFirst_147 : decode cX9_readFirst 147 = .ok (.iconst 1, 1) := by decide +kernel
theorem dX9_readFirst_148 : decode cX9_readFirst 148 = .ok (.goto 4, 3) := by decide +kernel
theorem dX9_readFirst_151 : decode cX9_readFirst 151 = .ok (.iconst 0, 1) := by decide +kernel
theorem dX9_readFirst_152 : decode cX9_readFirst 152 = .ok (.invokevirtual 139, 3) := by decide +kernel
theorem dX9_readFirst_155 : decode cX9_readFirst 155 = .ok (.aload_n 0, 1) := by decide +kernel
theorem dX9_readFirst_156 : decode cX9_readFirst 156 = .ok (.getfield 129, 3) := by decide +kernel
theorem dX9_readFirst_159 : decode cX9_readFirst 159 = .ok (.ifCond .ne 48, 3) := by decide +kernel
theorem dX9_readFirst_162 : decode cX9_readFirst 162 = .ok (.iload_n 3, 1) := by decide +kernel
theorem dX9_readFirst_163 : decode cX9_readFirst 163 = .ok (.sipush 192, 3) := by decide +kernel
theorem dX9_readFirst_166 : decode cX9_readFirst 166 = .ok (.if_icmp .lt 41, 3) := by decide +kernel
theorem dX9_readFirst_169 : decode cX9_readFirst 169 = .ok (.iload_n 3, 1) := by decide +kernel
theorem dX9_readFirst_170 : decode cX9_readFirst 170 = .ok (.sipush 254, 3) := by decide +kernel
theorem dX9_readFirst_173 : decode cX9_readFirst 173 = .ok (.if_icmp .ge 34, 3) := by decide +kernel
theorem dX9_readFirst_176 : decode cX9_readFirst 176 = .ok (.aload_n 0, 1) := by decide +kernel
theorem dX9_readFirst_177 : decode cX9_readFirst 177 = .ok (.aload_n 0, 1) := by decide +kernel
theorem dX9_readFirst_178 : decode cX9_readFirst 178 = .ok (.getfield 32, 3) := by decide +kernel
theorem dX9_readFirst_181 : decode cX9_readFirst 181 = .ok (.iconst 0, 1) := by decide +kernel
theorem dX9_readFirst_182 : decode cX9_readFirst 182 = .ok (.iaload, 1) := by decide +kernel
theorem dX9_readFirst_183 : decode cX9_readFirst 183 = .ok (.aload_n 0, 1) := by decide +kernel
theorem dX9_readFirst_184 : decode cX9_readFirst 184 = .ok (.getfield 32, 3) := by decide +kernel
theorem dX9_readFirst_187 : decode cX9_readFirst 187 = .ok (.iconst 1, 1) := by decide +kernel
theorem dX9_readFirst_188 : decode cX9_readFirst 188 = .ok (.iaload, 1) := by decide +kernel
theorem dX9_readFirst_189 : decode cX9_readFirst 189 = .ok (.aload_n 0, 1) := by decide +kernel
theorem dX9_readFirst_190 : decode cX9_readFirst 190 = .ok (.getfield 32, 3) := by decide +kernel
theorem dX9_readFirst_193 : decode cX9_readFirst 193 = .ok (.iconst 2, 1) := by decide +kernel
theorem dX9_readFirst_194 : decode cX9_readFirst 194 = .ok (.iaload, 1) := by decide +kernel
theorem dX9_readFirst_195 : decode cX9_readFirst 195 = .ok (.aload_n 0, 1) := by decide +kernel
theorem dX9_readFirst_196 : decode cX9_readFirst 196 = .ok (.getfield 32, 3) := by decide +kernel
theorem dX9_readFirst_199 : decode cX9_readFirst 199 = .ok (.iconst 3, 1) := by decide +kernel
theorem dX9_readFirst_200 : decode cX9_readFirst 200 = .ok (.iaload, 1) := by decide +kernel
theorem dX9_readFirst_201 : decode cX9_readFirst 201 = .ok (.invokevirtual 145, 3) := by decide +kernel
theorem dX9_readFirst_204 : decode cX9_readFirst 204 = .ok (.goto 15, 3) := by decide +kernel
theorem dX9_readFirst_207 : decode cX9_readFirst 207 = .ok (.aload_n 0, 1) := by decide +kernel
theorem dX9_readFirst_208 : decode cX9_readFirst 208 = .ok (.getfield 129, 3) := by decide +kernel
theorem dX9_readFirst_211 : decode cX9_readFirst 211 = .ok (.ifCond .ne 8, 3) := by decide +kernel
theorem dX9_readFirst_214 : decode cX9_readFirst 214 = .ok (.aload_n 0, 1) := by decide +kernel
theorem dX9_readFirst_215 : decode cX9_readFirst 215 = .ok (.iload_n 3, 1) := by decide +kernel
theorem dX9_readFirst_216 : decode cX9_readFirst 216 = .ok (.invokevirtual 165, 3) := by decide +kernel
theorem dX9_readFirst_219 : decode cX9_readFirst 219 = .ok (.iconst 0, 1) := by decide +kernel
theorem dX9_readFirst_220 : decode cX9_readFirst 220 = .ok (.istore 5, 2) := by decide +kernel
theorem dX9_readFirst_222 : decode cX9_readFirst 222 = .ok (.iload 5, 2) := by decide +kernel
theorem dX9_readFirst_224 : decode cX9_readFirst 224 = .ok (.iload 4, 2) := by decide +kernel
theorem dX9_readFirst_226 : decode cX9_readFirst 226 = .ok (.if_icmp .ge 24, 3) := by decide +kernel
theorem dX9_readFirst_229 : decode cX9_readFirst 229 = .ok (.aload_n 0, 1) := by decide +kernel
theorem dX9_readFirst_230 : decode cX9_readFirst 230 = .ok (.getfield 129, 3) := by decide +kernel
theorem dX9_readFirst_233 : decode cX9_readFirst 233 = .ok (.ifCond .ne 17, 3) := by decide +kernel
theorem dX9_readFirst_236 : decode cX9_readFirst 236 = .ok (.aload_n 0, 1) := by decide +kernel
theorem dX9_readFirst_237 : decode cX9_readFirst 237 = .ok (.iload_n 2, 1) := by decide +kernel
theorem dX9_readFirst_238 : decode cX9_readFirst 238 = .ok (.invokevirtual 168, 3) := by decide +kernel
theorem dX9_readFirst_241 : decode cX9_readFirst 241 = .ok (.iinc 2 1, 3) := by decide +kernel
theorem dX9_readFirst_244 : decode cX9_readFirst 244 = .ok (.iinc 5 1, 3) := by decide +kernel
theorem dX9_readFirst_247 : decode cX9_readFirst 247 = .ok (.goto (-25), 3) := by decide +kernel
theorem dX9_readFirst_250 : decode cX9_readFirst 250 = .ok (.goto (-170), 3) := by decide +kernel
theorem dX9_readFirst_253 : decode cX9_readFirst 253 = .ok (.iconst 0, 1) := by decide +kernel
theorem dX9_readFirst_254 : decode cX9_readFirst 254 = .ok (.istore_n 3, 1) := by decide +kernel
theorem dX9_readFirst_255 : decode cX9_readFirst 255 = .ok (.iload_n 3, 1) := by decide +kernel
theorem dX9_readFirst_256 : decode cX9_readFirst 256 = .ok (.bipush 8, 2) := by decide +kernel
theorem dX9_readFirst_258 : decode cX9_readFirst 258 = .ok (.if_icmp .ge 28, 3) := by decide +kernel
theorem dX9_readFirst_261 : decode cX9_readFirst 261 = .ok (.aload_n 0, 1) := by decide +kernel
theorem dX9_readFirst_262 : decode cX9_readFirst 262 = .ok (.aload_n 0, 1) := by decide +kernel
theorem dX9_readFirst_263 : decode cX9_readFirst 263 = .ok (.invokevirtual 135, 3) := by decide +kernel
theorem dX9_readFirst_266 : decode cX9_readFirst 266 = .ok (.iload_n 3, 1) := by decide +kernel
theorem dX9_readFirst_267 : decode cX9_readFirst 267 = .ok (.bipush 7, 2) := by decide +kernel
theorem dX9_readFirst_269 : decode cX9_readFirst 269 = .ok (.if_icmp .ne 7, 3) := by decide +kernel
theorem dX9_readFirst_272 : decode cX9_readFirst 272 = .ok (.iconst 1, 1) := by decide +kernel
theorem dX9_readFirst_273 : decode cX9_readFirst 273 = .ok (.goto 4, 3) := by decide +kernel
theorem dX9_readFirst_276 : decode cX9_readFirst 276 = .ok (.iconst 0, 1) := by decide +kernel
theorem dX9_readFirst_277 : decode cX9_readFirst 277 = .ok (.invokevirtual 171, 3) := by decide +kernel
theorem dX9_readFirst_280 : decode cX9_readFirst 280 = .ok (.iinc 3 1, 3) := by decide +kernel
theorem dX9_readFirst_283 : decode cX9_readFirst 283 = .ok (.goto (-28), 3) := by decide +kernel
theorem dX9_readFirst_286 : decode cX9_readFirst 286 = .ok (.aload_n 0, 1) := by decide +kernel
theorem dX9_readFirst_287 : decode cX9_readFirst 287 = .ok (.aload_n 0, 1) := by decide +kernel
theorem dX9_readFirst_288 : decode cX9_readFirst 288 = .ok (.getfield 132, 3) := by decide +kernel
theorem dX9_readFirst_291 : decode cX9_readFirst 291 = .ok (.aload_n 0, 1) := by decide +kernel
theorem dX9_readFirst_292 : decode cX9_readFirst 292 = .ok (.getfield 57, 3) := by decide +kernel
theorem dX9_readFirst_295 : decode cX9_readFirst 295 = .ok (.if_icmp .ge 7, 3) := by decide +kernel
theorem dX9_readFirst_298 : decode cX9_readFirst 298 = .ok (.iconst 1, 1) := by decide +kernel
theorem dX9_readFirst_299 : decode cX9_readFirst 299 = .ok (.goto 4, 3) := by decide +kernel
theorem dX9_readFirst_302 : decode cX9_readFirst 302 = .ok (.iconst 0, 1) := by decide +kernel
theorem dX9_readFirst_303 : decode cX9_readFirst 303 = .ok (.invokevirtual 139, 3) := by decide +kernel
theorem dX9_readFirst_306 : decode cX9_readFirst 306 = .ok (.return_, 1) := by decide +kernel
theorem dX9_space_0 : decode cX9_space 0 = .ok (.iload_n 0, 1) := by decide +kernel
theorem dX9_space_1 : decode cX9_space 1 = .ok (.bipush 9, 2) := by decide +kernel
theorem dX9_space_3 : decode cX9_space 3 = .ok (.if_icmp .eq 21, 3) := by decide +kernel
theorem dX9_space_6 : decode cX9_space 6 = .ok (.iload_n 0, 1) := by decide +kernel
theorem dX9_space_7 : decode cX9_space 7 = .ok (.bipush 10, 2) := by decide +kernel
theorem dX9_space_9 : decode cX9_space 9 = .ok (.if_icmp .eq 15, 3) := by decide +kernel
theorem dX9_space_12 : decode cX9_space 12 = .ok (.iload_n 0, 1) := by decide +kernel
theorem dX9_space_13 : decode cX9_space 13 = .ok (.bipush 13, 2) := by decide +kernel
theorem dX9_space_15 : decode cX9_space 15 = .ok (.if_icmp .eq 9, 3) := by decide +kernel
theorem dX9_space_18 : decode cX9_space 18 = .ok (.iload_n 0, 1) := by decide +kernel
theorem dX9_space_19 : decode cX9_space 19 = .ok (.bipush 32, 2) := by decide +kernel
theorem dX9_space_21 : decode cX9_space 21 = .ok (.if_icmp .ne 7, 3) := by decide +kernel
theorem dX9_space_24 : decode cX9_space 24 = .ok (.iconst 1, 1) := by decide +kernel
theorem dX9_space_25 : decode cX9_space 25 = .ok (.goto 4, 3) := by decide +kernel
theorem dX9_space_28 : decode cX9_space 28 = .ok (.iconst 0, 1) := by decide +kernel
theorem dX9_space_29 : decode cX9_space 29 = .ok (.ireturn, 1) := by decide +kernel
theorem dX9_digit_0 : decode cX9_digit 0 = .ok (.aload_n 0, 1) := by decide +kernel
theorem dX9_digit_1 : decode cX9_digit 1 = .ok (.getfield 132, 3) := by decide +kernel
theorem dX9_digit_4 : decode cX9_digit 4 = .ok (.aload_n 0, 1) := by decide +kernel
theorem dX9_digit_5 : decode cX9_digit 5 = .ok (.getfield 57, 3) := by decide +kernel
theorem dX9_digit_8 : decode cX9_digit 8 = .ok (.if_icmp .ge 35, 3) := by decide +kernel
theorem dX9_digit_11 : decode cX9_digit 11 = .ok (.aload_n 0, 1) := by decide +kernel
theorem dX9_digit_12 : decode cX9_digit 12 = .ok (.getfield 20, 3) := by decide +kernel
theorem dX9_digit_15 : decode cX9_digit 15 = .ok (.aload_n 0, 1) := by decide +kernel
theorem dX9_digit_16 : decode cX9_digit 16 = .ok (.getfield 132, 3) := by decide +kernel
theorem dX9_digit_19 : decode cX9_digit 19 = .ok (.iaload, 1) := by decide +kernel
theorem dX9_digit_20 : decode cX9_digit 20 = .ok (.bipush 48, 2) := by decide +kernel
theorem dX9_digit_22 : decode cX9_digit 22 = .ok (.if_icmp .lt 21, 3) := by decide +kernel
theorem dX9_digit_25 : decode cX9_digit 25 = .ok (.aload_n 0, 1) := by decide +kernel
theorem dX9_digit_26 : decode cX9_digit 26 = .ok (.getfield 20, 3) := by decide +kernel
theorem dX9_digit_29 : decode cX9_digit 29 = .ok (.aload_n 0, 1) := by decide +kernel
theorem dX9_digit_30 : decode cX9_digit 30 = .ok (.getfield 132, 3) := by decide +kernel
theorem dX9_digit_33 : decode cX9_digit 33 = .ok (.iaload, 1) := by decide +kernel
theorem dX9_digit_34 : decode cX9_digit 34 = .ok (.bipush 57, 2) := by decide +kernel
theorem dX9_digit_36 : decode cX9_digit 36 = .ok (.if_icmp .gt 7, 3) := by decide +kernel
theorem dX9_digit_39 : decode cX9_digit 39 = .ok (.iconst 1, 1) := by decide +kernel
theorem dX9_digit_40 : decode cX9_digit 40 = .ok (.goto 4, 3) := by decide +kernel
theorem dX9_digit_43 : decode cX9_digit 43 = .ok (.iconst 0, 1) := by decide +kernel
theorem dX9_digit_44 : decode cX9_digit 44 = .ok (.ireturn, 1) := by decide +kernel
set_option maxRecDepth 20000 in
theorem ggX9_gaps_X9_space : GoodIn wsX9_gaps wsX9_space := goodIn_r _ [8] (by decide +kernel) (by decide +kernel)
set_option maxRecDepth 20000 in
theorem gX9_gaps_X9_space : GoodIn wsX9_gaps (va_wsS RX9 174 yX9_space wsX9_space) := goodIn_app (goodIn_of _ (by decide +kernel)) ggX9_gaps_X9_space
set_option maxRecDepth 20000 in
theorem ggX9_gaps_X9_next : GoodIn wsX9_gaps wsX9_next := goodIn_r _ [12, 1, 2, 3, 4, 13, 14, 15, 16, 17, 18, 19, 20, 21, 22, 23, 24, 25, 26, 27] (by decide +kernel) (by decide +kernel)
set_option maxRecDepth 20000 in
theorem gX9_gaps_X9_next : GoodIn wsX9_gaps (wsV RX9 135 RX9 yX9_next wsX9_next) := goodIn_app (goodIn_of _ (by decide +kernel)) ggX9_gaps_X9_next
theorem dX9_gaps_0 : decode cX9_gaps 0 = .ok (.iconst 0, 1) := by decide +kernel
theorem dX9_gaps_1 : decode cX9_gaps 1 = .ok (.istore_n 1, 1) := by decide +kernel
theorem dX9_gaps_2 : decode cX9_gaps 2 = .ok (.aload_n 0, 1) := by decide +kernel
theorem dX9_gaps_3 : decode cX9_gaps 3 = .ok (.getfield 129, 3) := by decide +kernel
theorem dX9_gaps_6 : decode cX9_gaps 6 = .ok (.ifCond .ne 77, 3) := by decide +kernel
theorem dX9_gaps_9 : decode cX9_gaps 9 = .ok (.aload_n 0, 1) := by decide +kernel
theorem dX9_gaps_10 : decode cX9_gaps 10 = .ok (.getfield 132, 3) := by decide +kernel
theorem dX9_gaps_13 : decode cX9_gaps 13 = .ok (.aload_n 0, 1) := by decide +kernel
theorem dX9_gaps_14 : decode cX9_gaps 14 = .ok (.getfield 57, 3) := by decide +kernel
theorem dX9_gaps_17 : decode cX9_gaps 17 = .ok (.if_icmp .ge 66, 3) := by decide +kernel
theorem dX9_gaps_20 : decode cX9_gaps 20 = .ok (.aload_n 0, 1) := by decide +kernel
theorem dX9_gaps_21 : decode cX9_gaps 21 = .ok (.getfield 20, 3) := by decide +kernel
theorem dX9_gaps_24 : decode cX9_gaps 24 = .ok (.aload_n 0, 1) := by decide +kernel
theorem dX9_gaps_25 : decode cX9_gaps 25 = .ok (.getfield 132, 3) := by decide +kernel
theorem dX9_gaps_28 : decode cX9_gaps 28 = .ok (.iaload, 1) := by decide +kernel
theorem dX9_gaps_29 : decode cX9_gaps 29 = .ok (.invokestatic 174, 3) := by decide +kernel
theorem dX9_gaps_32 : decode cX9_gaps 32 = .ok (.ifCond .ne 17, 3) := by decide +kernel
theorem dX9_gaps_35 : decode cX9_gaps 35 = .ok (.aload_n 0, 1) := by decide +kernel
theorem dX9_gaps_36 : decode cX9_gaps 36 = .ok (.getfield 20, 3) := by decide +kernel
theorem dX9_gaps_39 : decode cX9_gaps 39 = .ok (.aload_n 0, 1) := by decide +kernel
theorem dX9_gaps_40 : decode cX9_gaps 40 = .ok (.getfield 132, 3) := by decide +kernel
theorem dX9_gaps_43 : decode cX9_gaps 43 = .ok (.iaload, 1) := by decide +kernel
theorem dX9_gaps_44 : decode cX9_gaps 44 = .ok (.bipush 35, 2) := by decide +kernel
theorem dX9_gaps_46 : decode cX9_gaps 46 = .ok (.if_icmp .ne 37, 3) := by decide +kernel
theorem dX9_gaps_49 : decode cX9_gaps 49 = .ok (.iinc 1 1, 3) := by decide +kernel
theorem dX9_gaps_52 : decode cX9_gaps 52 = .ok (.aload_n 0, 1) := by decide +kernel
theorem dX9_gaps_53 : decode cX9_gaps 53 = .ok (.invokevirtual 135, 3) := by decide +kernel
theorem dX9_gaps_56 : decode cX9_gaps 56 = .ok (.bipush 35, 2) := by decide +kernel
theorem dX9_gaps_58 : decode cX9_gaps 58 = .ok (.if_icmp .ne (-56), 3) := by decide +kernel
theorem dX9_gaps_61 : decode cX9_gaps 61 = .ok (.aload_n 0, 1) := by decide +kernel
theorem dX9_gaps_62 : decode cX9_gaps 62 = .ok (.getfield 129, 3) := by decide +kernel
theorem dX9_gaps_65 : decode cX9_gaps 65 = .ok (.ifCond .ne (-63), 3) := by decide +kernel
theorem dX9_gaps_68 : decode cX9_gaps 68 = .ok (.aload_n 0, 1) := by decide +kernel
theorem dX9_gaps_69 : decode cX9_gaps 69 = .ok (.invokevirtual 135, 3) := by decide +kernel
theorem dX9_gaps_72 : decode cX9_gaps 72 = .ok (.bipush 10, 2) := by decide +kernel
theorem dX9_gaps_74 : decode cX9_gaps 74 = .ok (.if_icmp .eq (-72), 3) := by decide +kernel
theorem dX9_gaps_77 : decode cX9_gaps 77 = .ok (.iinc 1 1, 3) := by decide +kernel
theorem dX9_gaps_80 : decode cX9_gaps 80 = .ok (.goto (-19), 3) := by decide +kernel
theorem dX9_gaps_83 : decode cX9_gaps 83 = .ok (.iload_n 1, 1) := by decide +kernel
theorem dX9_gaps_84 : decode cX9_gaps 84 = .ok (.ireturn, 1) := by decide +kernel
set_option maxRecDepth 20000 in
theorem ggX9_decimal_X9_gaps : GoodIn wsX9_decimal wsX9_gaps := goodIn_r _ [8, 1, 2, 3, 9, 10, 11, 7, 12, 13, 14, 15, 16, 25, 26, 27, 28, 29, 30, 31, 32, 33, 34, 35, 36, 37, 38, 39] (by decide +kernel) (by decide +kernel)
set_option maxRecDepth 20000 in
theorem gX9_decimal_X9_gaps : GoodIn wsX9_decimal (wsV RX9 177 RX9 yX9_gaps wsX9_gaps) := goodIn_app (goodIn_of _ (by decide +kernel)) ggX9_decimal_X9_gaps
set_option maxRecDepth 20000 in
theorem ggX9_decimal_X9_digit : GoodIn wsX9_decimal wsX9_digit := goodIn_r _ [20, 2, 3, 9, 25, 26, 27, 28, 29, 30, 31, 32, 33, 34, 35, 36, 37, 38, 39] (by decide +kernel) (by decide +kernel)
set_option maxRecDepth 20000 in
theorem gX9_decimal_X9_digit : GoodIn wsX9_decimal (wsV RX9 180 RX9 yX9_digit wsX9_digit) := goodIn_app (goodIn_of _ (by decide +kernel)) ggX9_decimal_X9_digit
set_option maxRecDepth 20000 in
theorem ggX9_decimal_X9_next : GoodIn wsX9_decimal wsX9_next := goodIn_r _ [16, 1, 2, 3, 9, 25, 26, 27, 28, 29, 30, 31, 32, 33, 34, 35, 36, 37, 38, 39] (by decide +kernel) (by decide +kernel)
set_option maxRecDepth 20000 in
theorem gX9_decimal_X9_next : GoodIn wsX9_decimal (wsV RX9 135 RX9 yX9_next wsX9_next) := goodIn_app (goodIn_of _ (by decide +kernel)) ggX9_decimal_X9_next
set_option maxRecDepth 20000 in
theorem ggX9_decimal_X9_broken : GoodIn wsX9_decimal wsX9_broken := goodIn_r _ [24, 1, 25, 26, 27, 28, 29, 30, 31, 32, 33, 34, 35, 36, 37, 38, 39] (by decide +kernel) (by decide +kernel)
set_option maxRecDepth 20000 in
theorem gX9_decimal_X9_broken : GoodIn wsX9_decimal (wsV RX9 139 RX9 yX9_broken wsX9_broken) := goodIn_app (goodIn_of _ (by decide +kernel)) ggX9_decimal_X9_broken
theorem dX9_decimal_0 : decode cX9_decimal 0 = .ok (.aload_n 0, 1) := by decide +kernel
theorem dX9_decimal_1 : decode cX9_decimal 1 = .ok (.invokevirtual 177, 3) := by decide +kernel
theorem dX9_decimal_4 : decode cX9_decimal 4 = .ok (.istore_n 1, 1) := by decide +kernel
theorem dX9_decimal_5 : decode cX9_decimal 5 = .ok (.iconst 0, 1) := by decide +kernel
theorem dX9_decimal_6 : decode cX9_decimal 6 = .ok (.istore_n 2, 1) := by decide +kernel
theorem dX9_decimal_7 : decode cX9_decimal 7 = .ok (.iconst 0, 1) := by decide +kernel
theorem dX9_decimal_8 : decode cX9_decimal 8 = .ok (.istore_n 3, 1) := by decide +kernel
theorem dX9_decimal_9 : decode cX9_decimal 9 = .ok (.aload_n 0, 1) := by decide +kernel
theorem dX9_decimal_10 : decode cX9_decimal 10 = .ok (.getfield 129, 3) := by decide +kernel
theorem dX9_decimal_13 : decode cX9_decimal 13 = .ok (.ifCond .ne 38, 3) := by decide +kernel
theorem dX9_decimal_16 : decode cX9_decimal 16 = .ok (.iload_n 3, 1) := by decide +kernel
theorem dX9_decimal_17 : decode cX9_decimal 17 = .ok (.iconst 4, 1) := by decide +kernel
theorem dX9_decimal_18 : decode cX9_decimal 18 = .ok (.if_icmp .ge 33, 3) := by decide +kernel
theorem dX9_decimal_21 : decode cX9_decimal 21 = .ok (.aload_n 0, 1) := by decide +kernel
theorem dX9_decimal_22 : decode cX9_decimal 22 = .ok (.invokevirtual 180, 3) := by decide +kernel
theorem dX9_decimal_25 : decode cX9_decimal 25 = .ok (.ifCond .eq 26, 3) := by decide +kernel
theorem dX9_decimal_28 : decode cX9_decimal 28 = .ok (.iload_n 1, 1) := by decide +kernel
theorem dX9_decimal_29 : decode cX9_decimal 29 = .ok (.ifCond .le 22, 3) := by decide +kernel
theorem dX9_decimal_32 : decode cX9_decimal 32 = .ok (.bipush 10, 2) := by decide +kernel
theorem dX9_decimal_34 : decode cX9_decimal 34 = .ok (.iload_n 2, 1) := by decide +kernel
theorem dX9_decimal_35 : decode cX9_decimal 35 = .ok (.imul, 1) := by decide +kernel
theorem dX9_decimal_36 : decode cX9_decimal 36 = .ok (.aload_n 0, 1) := by decide +kernel
theorem dX9_decimal_37 : decode cX9_decimal 37 = .ok (.invokevirtual 135, 3) := by decide +kernel
theorem dX9_decimal_40 : decode cX9_decimal 40 = .ok (.iadd, 1) := by decide +kernel
theorem dX9_decimal_41 : decode cX9_decimal 41 = .ok (.bipush 48, 2) := by decide +kernel
theorem dX9_decimal_43 : decode cX9_decimal 43 = .ok (.isub, 1) := by decide +kernel
theorem dX9_decimal_44 : decode cX9_decimal 44 = .ok (.istore_n 2, 1) := by decide +kernel
theorem dX9_decimal_45 : decode cX9_decimal 45 = .ok (.iinc 3 1, 3) := by decide +kernel
theorem dX9_decimal_48 : decode cX9_decimal 48 = .ok (.goto (-39), 3) := by decide +kernel
theorem dX9_decimal_51 : decode cX9_decimal 51 = .ok (.aload_n 0, 1) := by decide +kernel
theorem dX9_decimal_52 : decode cX9_decimal 52 = .ok (.getfield 129, 3) := by decide +kernel
theorem dX9_decimal_55 : decode cX9_decimal 55 = .ok (.ifCond .ne 24, 3) := by decide +kernel
theorem dX9_decimal_58 : decode cX9_decimal 58 = .ok (.iload_n 3, 1) := by decide +kernel
theorem dX9_decimal_59 : decode cX9_decimal 59 = .ok (.ifCond .ne 20, 3) := by decide +kernel
theorem dX9_decimal_62 : decode cX9_decimal 62 = .ok (.aload_n 0, 1) := by decide +kernel
theorem dX9_decimal_63 : decode cX9_decimal 63 = .ok (.getfield 132, 3) := by decide +kernel
theorem dX9_decimal_66 : decode cX9_decimal 66 = .ok (.aload_n 0, 1) := by decide +kernel
theorem dX9_decimal_67 : decode cX9_decimal 67 = .ok (.getfield 57, 3) := by decide +kernel
theorem dX9_decimal_70 : decode cX9_decimal 70 = .ok (.if_icmp .ne 9, 3) := by decide +kernel
theorem dX9_decimal_73 : decode cX9_decimal 73 = .ok (.aload_n 0, 1) := by decide +kernel
theorem dX9_decimal_74 : decode cX9_decimal 74 = .ok (.bipush (-2), 2) := by decide +kernel
theorem dX9_decimal_76 : decode cX9_decimal 76 = .ok (.putfield 129, 3) := by decide +kernel
theorem dX9_decimal_79 : decode cX9_decimal 79 = .ok (.aload_n 0, 1) := by decide +kernel
theorem dX9_decimal_80 : decode cX9_decimal 80 = .ok (.iload_n 3, 1) := by decide +kernel
theorem dX9_decimal_81 : decode cX9_decimal 81 = .ok (.ifCond .eq 15, 3) := by decide +kernel
theorem dX9_decimal_84 : decode cX9_decimal 84 = .ok (.iload_n 3, 1) := by decide +kernel
theorem dX9_decimal_85 : decode cX9_decimal 85 = .ok (.iconst 4, 1) := by decide +kernel
theorem dX9_decimal_86 : decode cX9_decimal 86 = .ok (.if_icmp .ne 14, 3) := by decide +kernel
theorem dX9_decimal_89 : decode cX9_decimal 89 = .ok (.aload_n 0, 1) := by decide +kernel
theorem dX9_decimal_90 : decode cX9_decimal 90 = .ok (.invokevirtual 180, 3) := by decide +kernel
theorem dX9_decimal_93 : decode cX9_decimal 93 = .ok (.ifCond .eq 7, 3) := by decide +kernel
theorem dX9_decimal_96 : decode cX9_decimal 96 = .ok (.iconst 1, 1) := by decide +kernel
theorem dX9_decimal_97 : decode cX9_decimal 97 = .ok (.goto 4, 3) := by decide +kernel
theorem dX9_decimal_100 : decode cX9_decimal 100 = .ok (.iconst 0, 1) := by decide +kernel
theorem dX9_decimal_101 : decode cX9_decimal 101 = .ok (.invokevirtual 139, 3) := by decide +kernel
theorem dX9_decimal_104 : decode cX9_decimal 104 = .ok (.iload_n 2, 1) := by decide +kernel
theorem dX9_decimal_105 : decode cX9_decimal 105 = .ok (.ireturn, 1) := by decide +kernel
set_option maxRecDepth 20000 in
theorem ggX9_readSecond_X9_skip : GoodIn wsX9_readSecond wsX9_skip := goodIn_r _ [12, 4, 13, 14, 15, 11, 16, 6, 7, 1, 52, 53, 54, 55, 56, 57, 58, 59, 60, 61, 62, 63, 64, 65, 66] (by decide +kernel) (by decide +kernel)
set_option maxRecDepth 20000 in
theorem gX9_readSecond_X9_skip : GoodIn wsX9_readSecond (wsV RX9 152 RX9 yX9_skip wsX9_skip) := goodIn_app (goodIn_of _ (by decide +kernel)) ggX9_readSecond_X9_skip
set_option maxRecDepth 20000 in
theorem ggX9_readSecond_X9_decimal : GoodIn wsX9_readSecond wsX9_decimal := goodIn_r _ [20, 4, 6, 7, 21, 22, 23, 11, 24, 1, 25, 26, 27, 13, 14, 15, 16, 28, 29, 30, 31, 32, 33, 34, 35, 52, 53, 54, 55, 56, 57, 58, 59, 60, 61, 62, 63, 64, 65, 66] (by decide +kernel) (by decide +kernel)
set_option maxRecDepth 20000 in
theorem gX9_readSecond_X9_decimal : GoodIn wsX9_readSecond (wsV RX9 183 RX9 yX9_decimal wsX9_decimal) := goodIn_app (goodIn_of _ (by decide +kernel)) ggX9_readSecond_X9_decimal
set_option maxRecDepth 20000 in
theorem ggX9_readSecond_X9_sideOf : GoodIn wsX9_readSecond wsX9_sideOf := goodIn_r _ [39, 40, 41, 11, 42, 32, 33, 34, 35, 4, 52, 53, 54, 55, 56, 57, 58, 59, 60, 61, 62, 63, 64, 65, 66] (by decide +kernel) (by decide +kernel)
set_option maxRecDepth 20000 in
theorem gX9_readSecond_X9_sideOf : GoodIn wsX9_readSecond (wsV RX9 159 RX9 yX9_sideOf wsX9_sideOf) := goodIn_app (goodIn_of _ (by decide +kernel)) ggX9_readSecond_X9_sideOf
set_option maxRecDepth 20000 in
theorem ggX9_readSecond_X9_broken : GoodIn wsX9_readSecond wsX9_broken := goodIn_r _ [35, 4, 52, 53, 54, 55, 56, 57, 58, 59, 60, 61, 62, 63, 64, 65, 66] (by decide +kernel) (by decide +kernel)
set_option maxRecDepth 20000 in
theorem gX9_readSecond_X9_broken : GoodIn wsX9_readSecond (wsV RX9 139 RX9 yX9_broken wsX9_broken) := goodIn_app (goodIn_of _ (by decide +kernel)) ggX9_readSecond_X9_broken
set_option maxRecDepth 20000 in
theorem ggX9_readSecond_X9_next : GoodIn wsX9_readSecond wsX9_next := goodIn_r _ [16, 4, 6, 7, 1, 52, 53, 54, 55, 56, 57, 58, 59, 60, 61, 62, 63, 64, 65, 66] (by decide +kernel) (by decide +kernel)
set_option maxRecDepth 20000 in
theorem gX9_readSecond_X9_next : GoodIn wsX9_readSecond (wsV RX9 135 RX9 yX9_next wsX9_next) := goodIn_app (goodIn_of _ (by decide +kernel)) ggX9_readSecond_X9_next
set_option maxRecDepth 20000 in
theorem ggX9_readSecond_X9_space : GoodIn wsX9_readSecond wsX9_space := goodIn_r _ [27] (by decide +kernel) (by decide +kernel)
set_option maxRecDepth 20000 in
theorem gX9_readSecond_X9_space : GoodIn wsX9_readSecond (va_wsS RX9 174 yX9_space wsX9_space) := goodIn_app (goodIn_of _ (by decide +kernel)) ggX9_readSecond_X9_space
set_option maxRecDepth 20000 in
theorem ggX9_readSecond_X9_tone : GoodIn wsX9_readSecond wsX9_tone := goodIn_r _ [46, 5, 52, 53, 54, 55, 56, 57, 58, 59, 60, 61, 62, 63, 64, 65, 66] (by decide +kernel) (by decide +kernel)
set_option maxRecDepth 20000 in
theorem gX9_readSecond_X9_tone : GoodIn wsX9_readSecond (wsV RX9 145 RX9 yX9_tone wsX9_tone) := goodIn_app (goodIn_of _ (by decide +kernel)) ggX9_readSecond_X9_tone
set_option maxRecDepth 20000 in
theorem ggX9_readSecond_X9_set : GoodIn wsX9_readSecond wsX9_set := goodIn_r _ [50, 4, 51, 2, 5, 52, 53, 54, 55, 56, 57, 58, 59, 60, 61, 62, 63, 64, 65, 66] (by decide +kernel) (by decide +kernel)
set_option maxRecDepth 20000 in
theorem gX9_readSecond_X9_set : GoodIn wsX9_readSecond (wsV RX9 168 RX9 yX9_set wsX9_set) := goodIn_app (goodIn_of _ (by decide +kernel)) ggX9_readSecond_X9_set
set_option maxRecDepth 20000 in
theorem ggX9_readSecond_X9_gaps : GoodIn wsX9_readSecond wsX9_gaps := goodIn_r _ [24, 4, 6, 7, 1, 25, 26, 11, 27, 13, 14, 15, 16, 52, 53, 54, 55, 56, 57, 58, 59, 60, 61, 62, 63, 64, 65, 66] (by decide +kernel) (by decide +kernel)
set_option maxRecDepth 20000 in
theorem gX9_readSecond_X9_gaps : GoodIn wsX9_readSecond (wsV RX9 177 RX9 yX9_gaps wsX9_gaps) := goodIn_app (goodIn_of _ (by decide +kernel)) ggX9_readSecond_X9_gaps
theorem dX9_readSecond_0 : decode cX9_readSecond 0 = .ok (.aload_n 0, 1) := by decide +kernel
theorem dX9_readSecond_1 : decode cX9_readSecond 1 = .ok (.getfield 20, 3) := by decide +kernel
theorem dX9_readSecond_4 : decode cX9_readSecond 4 = .ok (.iconst 1, 1) := by decide +kernel
theorem dX9_readSecond_5 : decode cX9_readSecond 5 = .ok (.iaload, 1) := by decide +kernel
theorem dX9_readSecond_6 : decode cX9_readSecond 6 = .ok (.istore_n 1, 1) := by decide +kernel
theorem dX9_readSecond_7 : decode cX9_readSecond 7 = .ok (.aload_n 0, 1) := by decide +kernel
theorem dX9_readSecond_8 : decode cX9_readSecond 8 = .ok (.iconst 2, 1) := by decide +kernel
theorem dX9_readSecond_9 : decode cX9_readSecond 9 = .ok (.invokevirtual 152, 3) := by decide +kernel
theorem dX9_readSecond_12 : decode cX9_readSecond 12 = .ok (.aload_n 0, 1) := by decide +kernel
theorem dX9_readSecond_13 : decode cX9_readSecond 13 = .ok (.aload_n 0, 1) := by decide +kernel
theorem dX9_readSecond_14 : decode cX9_readSecond 14 = .ok (.aload_n 0, 1) := by decide +kernel
theorem dX9_readSecond_15 : decode cX9_readSecond 15 = .ok (.invokevirtual 183, 3) := by decide +kernel
theorem dX9_readSecond_18 : decode cX9_readSecond 18 = .ok (.invokevirtual 159, 3) := by decide +kernel
theorem dX9_readSecond_21 : decode cX9_readSecond 21 = .ok (.putfield 142, 3) := by decide +kernel
theorem dX9_readSecond_24 : decode cX9_readSecond 24 = .ok (.aload_n 0, 1) := by decide +kernel
theorem dX9_readSecond_25 : decode cX9_readSecond 25 = .ok (.aload_n 0, 1) := by decide +kernel
theorem dX9_readSecond_26 : decode cX9_readSecond 26 = .ok (.aload_n 0, 1) := by decide +kernel
theorem dX9_readSecond_27 : decode cX9_readSecond 27 = .ok (.invokevirtual 183, 3) := by decide +kernel
theorem dX9_readSecond_30 : decode cX9_readSecond 30 = .ok (.invokevirtual 159, 3) := by decide +kernel
theorem dX9_readSecond_33 : decode cX9_readSecond 33 = .ok (.putfield 162, 3) := by decide +kernel
theorem dX9_readSecond_36 : decode cX9_readSecond 36 = .ok (.aload_n 0, 1) := by decide +kernel
theorem dX9_readSecond_37 : decode cX9_readSecond 37 = .ok (.invokevirtual 183, 3) := by decide +kernel
theorem dX9_readSecond_40 : decode cX9_readSecond 40 = .ok (.istore_n 2, 1) := by decide +kernel
theorem dX9_readSecond_41 : decode cX9_readSecond 41 = .ok (.aload_n 0, 1) := by decide +kernel
theorem dX9_readSecond_42 : decode cX9_readSecond 42 = .ok (.iload_n 2, 1) := by decide +kernel
theorem dX9_readSecond_43 : decode cX9_readSecond 43 = .ok (.iconst 1, 1) := by decide +kernel
theorem dX9_readSecond_44 : decode cX9_readSecond 44 = .ok (.if_icmp .lt 10, 3) := by decide +kernel
theorem dX9_readSecond_47 : decode cX9_readSecond 47 = .ok (.iload_n 2, 1) := by decide +kernel
theorem dX9_readSecond_48 : decode cX9_readSecond 48 = .ok (.sipush 255, 3) := by decide +kernel
theorem dX9_readSecond_51 : decode cX9_readSecond 51 = .ok (.if_icmp .le 7, 3) := by decide +kernel
theorem dX9_readSecond_54 : decode cX9_readSecond 54 = .ok (.iconst 1, 1) := by decide +kernel
theorem dX9_readSecond_55 : decode cX9_readSecond 55 = .ok (.goto 4, 3) := by decide +kernel
theorem dX9_readSecond_58 : decode cX9_readSecond 58 = .ok (.iconst 0, 1) := by decide +kernel
theorem dX9_readSecond_59 : decode cX9_readSecond 59 = .ok (.invokevirtual 139, 3) := by decide +kernel
theorem dX9_readSecond_62 : decode cX9_readSecond 62 = .ok (.iload_n 1, 1) := by decide +kernel
theorem dX9_readSecond_63 : decode cX9_readSecond 63 = .ok (.bipush 53, 2) := by decide +kernel
theorem dX9_readSecond_65 : decode cX9_readSecond 65 = .ok (.if_icmp .ge 7, 3) := by decide +kernel
theorem dX9_readSecond_68 : decode cX9_readSecond 68 = .ok (.iconst 1, 1) := by decide +kernel
theorem dX9_readSecond_69 : decode cX9_readSecond 69 = .ok (.goto 4, 3) := by decide +kernel
theorem dX9_readSecond_72 : decode cX9_readSecond 72 = .ok (.iconst 0, 1) := by decide +kernel
theorem dX9_readSecond_73 : decode cX9_readSecond 73 = .ok (.istore_n 3, 1) := by decide +kernel
theorem dX9_readSecond_74 : decode cX9_readSecond 74 = .ok (.iload_n 3, 1) := by decide +kernel
theorem dX9_readSecond_75 : decode cX9_readSecond 75 = .ok (.ifCond .ne 22, 3) := by decide +kernel
theorem dX9_readSecond_78 : decode cX9_readSecond 78 = .ok (.aload_n 0, 1) := by decide +kernel
theorem dX9_readSecond_79 : decode cX9_readSecond 79 = .ok (.aload_n 0, 1) := by decide +kernel
theorem dX9_readSecond_80 : decode cX9_readSecond 80 = .ok (.invokevirtual 135, 3) := by decide +kernel
theorem dX9_readSecond_83 : decode cX9_readSecond 83 = .ok (.invokestatic 174, 3) := by decide +kernel
theorem dX9_readSecond_86 : decode cX9_readSecond 86 = .ok (.ifCond .ne 7, 3) := by decide +kernel
theorem dX9_readSecond_89 : decode cX9_readSecond 89 = .ok (.iconst 1, 1) := by decide +kernel
theorem dX9_readSecond_90 : decode cX9_readSecond 90 = .ok (.goto 4, 3) := by decide +kernel
theorem dX9_readSecond_93 : decode cX9_readSecond 93 = .ok (.iconst 0, 1) := by decide +kernel
theorem dX9_readSecond_94 : decode cX9_readSecond 94 = .ok (.invokevirtual 139, 3) := by decide +kernel
theorem dX9_readSecond_97 : decode cX9_readSecond 97 = .ok (.iload_n 1, 1) := by decide +kernel
theorem dX9_readSecond_98 : decode cX9_readSecond 98 = .ok (.bipush 51, 2) := by decide +kernel
theorem dX9_readSecond_100 : decode cX9_readSecond 100 = .ok (.if_icmp .eq 9, 3) := by decide +kernel
theorem dX9_readSecond_103 : decode cX9_readSecond 103 = .ok (.iload_n 1, 1) := by decide +kernel
theorem dX9_readSecond_104 : decode cX9_readSecond 104 = .ok (.bipush 54, 2) := by decide +kernel
theorem dX9_readSecond_106 : decode cX9_readSecond 106 = .ok (.if_icmp .ne 7, 3) := by decide +kernel
theorem dX9_readSecond_109 : decode cX9_readSecond 109 = .ok (.iconst 3, 1) := by decide +kernel
theorem dX9_readSecond_110 : decode cX9_readSecond 110 = .ok (.goto 4, 3) := by decide +kernel
theorem dX9_readSecond_113 : decode cX9_readSecond 113 = .ok (.iconst 1, 1) := by decide +kernel
theorem dX9_readSecond_114 : decode cX9_readSecond 114 = .ok (.istore 4, 2) := by decide +kernel
theorem dX9_readSecond_116 : decode cX9_readSecond 116 = .ok (.iconst 0, 1) := by decide +kernel
theorem dX9_readSecond_117 : decode cX9_readSecond 117 = .ok (.istore 5, 2) := by decide +kernel
theorem dX9_readSecond_119 : decode cX9_readSecond 119 = .ok (.aload_n 0, 1) := by decide +kernel
theorem dX9_readSecond_120 : decode cX9_readSecond 120 = .ok (.getfield 129, 3) := by decide +kernel
theorem dX9_readSecond_123 : decode cX9_readSecond 123 = .ok (.ifCond .ne 162, 3) := by decide +kernel
theorem dX9_readSecond_126 : decode cX9_readSecond 126 = .ok (.iload 5, 2) := by decide +kernel
theorem dX9_readSecond_128 : decode cX9_readSecond 128 = .ok (.aload_n 0, 1) := by decide +kernel
theorem dX9_readSecond_129 : decode cX9_readSecond 129 = .ok (.getfield 142, 3) := by decide +kernel
theorem dX9_readSecond_132 : decode cX9_readSecond 132 = .ok (.aload_n 0, 1) := by decide +kernel
theorem dX9_readSecond_133 : decode cX9_readSecond 133 = .ok (.getfield 162, 3) := by decide +kernel
theorem dX9_readSecond_136 : decode cX9_readSecond 136 = .ok (.imul, 1) := by decide +kernel
theorem dX9_readSecond_137 : decode cX9_readSecond 137 = .ok (.if_icmp .ge 148, 3) := by decide +kernel
theorem dX9_readSecond_140 : decode cX9_readSecond 140 = .ok (.iconst 0, 1) := by decide +kernel
theorem dX9_readSecond_141 : decode cX9_readSecond 141 = .ok (.istore 6, 2) := by decide +kernel
theorem dX9_readSecond_143 : decode cX9_readSecond 143 = .ok (.iload 6, 2) := by decide +kernel
theorem dX9_readSecond_145 : decode cX9_readSecond 145 = .ok (.iload 4, 2) := by decide +kernel
theorem dX9_readSecond_147 : decode cX9_readSecond 147 = .ok (.if_icmp .ge 71, 3) := by decide +kernel
theorem dX9_readSecond_150 : decode cX9_readSecond 150 = .ok (.iload_n 3, 1) := by decide +kernel
theorem dX9_readSecond_151 : decode cX9_readSecond 151 = .ok (.ifCond .eq 10, 3) := by decide +kernel
theorem dX9_readSecond_154 : decode cX9_readSecond 154 = .ok (.aload_n 0, 1) := by decide +kernel
theorem dX9_readSecond_155 : decode cX9_readSecond 155 = .ok (.invokevirtual 183, 3) := by decide +kernel
theorem dX9_readSecond_158 : decode cX9_readSecond 158 = .ok (.goto 7, 3) := by decide +kernel
theorem dX9_readSecond_161 : decode cX9_readSecond 161 = .ok (.aload_n 0, 1) := by decide +kernel
theorem dX9_readSecond_162 : decode cX9_readSecond 162 = .ok (.invokevirtual 135, 3) := by decide +kernel
theorem dX9_readSecond_165 : decode cX9_readSecond 165 = .ok (.istore 7, 2) := by decide +kernel
theorem dX9_readSecond_167 : decode cX9_readSecond 167 = .ok (.aload_n 0, 1) := by decide +kernel
theorem dX9_readSecond_168 : decode cX9_readSecond 168 = .ok (.iload 7, 2) := by decide +kernel
theorem dX9_readSecond_170 : decode cX9_readSecond 170 = .ok (.iload_n 2, 1) := by decide +kernel
theorem dX9_readSecond_171 : decode cX9_readSecond 171 = .ok (.if_icmp .le 7, 3) := by decide +kernel
theorem dX9_readSecond_174 : decode cX9_readSecond 174 = .ok (.iconst 1, 1) := by decide +kernel
theorem dX9_readSecond_175 : decode cX9_readSecond 175 = .ok (.goto 4, 3) := by decide +kernel
theorem dX9_readSecond_178 : decode cX9_readSecond 178 = .ok (.iconst 0, 1) := by decide +kernel
theorem dX9_readSecond_179 : decode cX9_readSecond 179 = .ok (.invokevirtual 139, 3) := by decide +kernel
theorem dX9_readSecond_182 : decode cX9_readSecond 182 = .ok (.aload_n 0, 1) := by decide +kernel
theorem dX9_readSecond_183 : decode cX9_readSecond 183 = .ok (.getfield 35, 3) := by decide +kernel
theorem dX9_readSecond_186 : decode cX9_readSecond 186 = .ok (.iload 6, 2) := by decide +kernel
theorem dX9_readSecond_188 : decode cX9_readSecond 188 = .ok (.aload_n 0, 1) := by decide +kernel
theorem dX9_readSecond_189 : decode cX9_readSecond 189 = .ok (.getfield 129, 3) := by decide +kernel
theorem dX9_readSecond_192 : decode cX9_readSecond 192 = .ok (.ifCond .ne 18, 3) := by decide +kernel
theorem dX9_readSecond_195 : decode cX9_readSecond 195 = .ok (.iload 7, 2) := by decide +kernel
theorem dX9_readSecond_197 : decode cX9_readSecond 197 = .ok (.sipush 255, 3) := by decide +kernel
theorem dX9_readSecond_200 : decode cX9_readSecond 200 = .ok (.imul, 1) := by decide +kernel
theorem dX9_readSecond_201 : decode cX9_readSecond 201 = .ok (.iload_n 2, 1) := by decide +kernel
theorem dX9_readSecond_202 : decode cX9_readSecond 202 = .ok (.iconst 2, 1) := by decide +kernel
theorem dX9_readSecond_203 : decode cX9_readSecond 203 = .ok (.idiv, 1) := by decide +kernel
theorem dX9_readSecond_204 : decode cX9_readSecond 204 = .ok (.iadd, 1) := by decide +kernel
theorem dX9_readSecond_205 : decode cX9_readSecond 205 = .ok (.iload_n 2, 1) := by decide +kernel
theorem dX9_readSecond_206 : decode cX9_readSecond 206 = .ok (.idiv, 1) := by decide +kernel
theorem dX9_readSecond_207 : decode cX9_readSecond 207 = .ok (.goto 4, 3) := by decide +kernel
theorem dX9_readSecond_210 : decode cX9_readSecond 210 = .ok (.iconst 0, 1) := by decide +kernel
theorem dX9_readSecond_211 : decode cX9_readSecond 211 = .ok (.iastore, 1) := by decide +kernel
theorem dX9_readSecond_212 : decode cX9_readSecond 212 = .ok (.iinc 6 1, 3) := by decide +kernel
theorem dX9_readSecond_215 : decode cX9_readSecond 215 = .ok (.goto (-72), 3) := by decide +kernel
theorem dX9_readSecond_218 : decode cX9_readSecond 218 = .ok (.aload_n 0, 1) := by decide +kernel
theorem dX9_readSecond_219 : decode cX9_readSecond 219 = .ok (.aload_n 0, 1) := by decide +kernel
theorem dX9_readSecond_220 : decode cX9_readSecond 220 = .ok (.getfield 35, 3) := by decide +kernel
theorem dX9_readSecond_223 : decode cX9_readSecond 223 = .ok (.iconst 0, 1) := by decide +kernel
theorem dX9_readSecond_224 : decode cX9_readSecond 224 = .ok (.iaload, 1) := by decide +kernel
theorem dX9_readSecond_225 : decode cX9_readSecond 225 = .ok (.iload 4, 2) := by decide +kernel
theorem dX9_readSecond_227 : decode cX9_readSecond 227 = .ok (.iconst 1, 1) := by decide +kernel
theorem dX9_readSecond_228 : decode cX9_readSecond 228 = .ok (.if_icmp .ne 12, 3) := by decide +kernel
theorem dX9_readSecond_231 : decode cX9_readSecond 231 = .ok (.aload_n 0, 1) := by decide +kernel
theorem dX9_readSecond_232 : decode cX9_readSecond 232 = .ok (.getfield 35, 3) := by decide +kernel
theorem dX9_readSecond_235 : decode cX9_readSecond 235 = .ok (.iconst 0, 1) := by decide +kernel
theorem dX9_readSecond_236 : decode cX9_readSecond 236 = .ok (.iaload, 1) := by decide +kernel
theorem dX9_readSecond_237 : decode cX9_readSecond 237 = .ok (.goto 9, 3) := by decide +kernel
theorem dX9_readSecond_240 : decode cX9_readSecond 240 = .ok (.aload_n 0, 1) := by decide +kernel
theorem dX9_readSecond_241 : decode cX9_readSecond 241 = .ok (.getfield 35, 3) := by decide +kernel
theorem dX9_readSecond_244 : decode cX9_readSecond 244 = .ok (.iconst 1, 1) := by decide +kernel
theorem dX9_readSecond_245 : decode cX9_readSecond 245 = .ok (.iaload, 1) := by decide +kernel
theorem dX9_readSecond_246 : decode cX9_readSecond 246 = .ok (.iload 4, 2) := by decide +kernel
theorem dX9_readSecond_248 : decode cX9_readSecond 248 = .ok (.iconst 1, 1) := by decide +kernel
theorem dX9_readSecond_249 : decode cX9_readSecond 249 = .ok (.if_icmp .ne 12, 3) := by decide +kernel
theorem dX9_readSecond_252 : decode cX9_readSecond 252 = .ok (.aload_n 0, 1) := by decide +kernel
theorem dX9_readSecond_253 : decode cX9_readSecond 253 = .ok (.getfield 35, 3) := by decide +kernel
theorem dX9_readSecond_256 : decode cX9_readSecond 256 = .ok (.iconst 0, 1) := by decide +kernel
theorem dX9_readSecond_257 : decode cX9_readSecond 257 = .ok (.iaload, 1) := by decide +kernel
theorem dX9_readSecond_258 : decode cX9_readSecond 258 = .ok (.goto 9, 3) := by decide +kernel
theorem dX9_readSecond_261 : decode cX9_readSecond 261 = .ok (.aload_n 0, 1) := by decide +kernel
theorem dX9_readSecond_262 : decode cX9_readSecond 262 = .ok (.getfield 35, 3) := by decide +kernel
theorem dX9_readSecond_265 : decode cX9_readSecond 265 = .ok (.iconst 2, 1) := by decide +kernel
theorem dX9_readSecond_266 : decode cX9_readSecond 266 = .ok (.iaload, 1) := by decide +kernel
theorem dX9_readSecond_267 : decode cX9_readSecond 267 = .ok (.sipush 255, 3) := by decide +kernel
theorem dX9_readSecond_270 : decode cX9_readSecond 270 = .ok (.invokevirtual 145, 3) := by decide +kernel
theorem dX9_readSecond_273 : decode cX9_readSecond 273 = .ok (.aload_n 0, 1) := by decide +kernel
theorem dX9_readSecond_274 : decode cX9_readSecond 274 = .ok (.iload 5, 2) := by decide +kernel
theorem dX9_readSecond_276 : decode cX9_readSecond 276 = .ok (.invokevirtual 168, 3) := by decide +kernel
theorem dX9_readSecond_279 : decode cX9_readSecond 279 = .ok (.iinc 5 1, 3) := by decide +kernel
theorem dX9_readSecond_282 : decode cX9_readSecond 282 = .ok (.goto (-163), 3) := by decide +kernel
theorem dX9_readSecond_285 : decode cX9_readSecond 285 = .ok (.iload_n 3, 1) := by decide +kernel
theorem dX9_readSecond_286 : decode cX9_readSecond 286 = .ok (.ifCond .eq 8, 3) := by decide +kernel
theorem dX9_readSecond_289 : decode cX9_readSecond 289 = .ok (.aload_n 0, 1) := by decide +kernel
theorem dX9_readSecond_290 : decode cX9_readSecond 290 = .ok (.invokevirtual 177, 3) := by decide +kernel
theorem dX9_readSecond_293 : decode cX9_readSecond 293 = .ok (.pop, 1) := by decide +kernel
theorem dX9_readSecond_294 : decode cX9_readSecond 294 = .ok (.aload_n 0, 1) := by decide +kernel
theorem dX9_readSecond_295 : decode cX9_readSecond 295 = .ok (.aload_n 0, 1) := by decide +kernel
theorem dX9_readSecond_296 : decode cX9_readSecond 296 = .ok (.getfield 132, 3) := by decide +kernel
theorem dX9_readSecond_299 : decode cX9_readSecond 299 = .ok (.aload_n 0, 1) := by decide +kernel
theorem dX9_readSecond_300 : decode cX9_readSecond 300 = .ok (.getfield 57, 3) := by decide +kernel
theorem dX9_readSecond_303 : decode cX9_readSecond 303 = .ok (.if_icmp .ge 7, 3) := by decide +kernel
theorem dX9_readSecond_306 : decode cX9_readSecond 306 = .ok (.iconst 1, 1) := by decide +kernel
theorem dX9_readSecond_307 : decode cX9_readSecond 307 = .ok (.goto 4, 3) := by decide +kernel
theorem dX9_readSecond_310 : decode cX9_readSecond 310 = .ok (.iconst 0, 1) := by decide +kernel
theorem dX9_readSecond_311 : decode cX9_readSecond 311 = .ok (.invokevirtual 139, 3) := by decide +kernel
theorem dX9_readSecond_314 : decode cX9_readSecond 314 = .ok (.return_, 1) := by decide +kernel
set_option maxRecDepth 20000 in
theorem ggX9_colourTone_X9_broken : GoodIn wsX9_colourTone wsX9_broken := goodIn_r _ [8, 2, 14, 15, 16, 17, 18, 19, 20, 21, 22, 23, 24, 25, 26, 27, 28] (by decide +kernel) (by decide +kernel)
set_option maxRecDepth 20000 in
theorem gX9_colourTone_X9_broken : GoodIn wsX9_colourTone (wsV RX9 139 RX9 yX9_broken wsX9_broken) := goodIn_app (goodIn_of _ (by decide +kernel)) ggX9_colourTone_X9_broken
set_option maxRecDepth 20000 in
theorem ggX9_colourTone_X9_tone : GoodIn wsX9_colourTone wsX9_tone := goodIn_r _ [12, 13, 14, 15, 16, 17, 18, 19, 20, 21, 22, 23, 24, 25, 26, 27, 28] (by decide +kernel) (by decide +kernel)
set_option maxRecDepth 20000 in
theorem gX9_colourTone_X9_tone : GoodIn wsX9_colourTone (wsV RX9 145 RX9 yX9_tone wsX9_tone) := goodIn_app (goodIn_of _ (by decide +kernel)) ggX9_colourTone_X9_tone
theorem dX9_colourTone_0 : decode cX9_colourTone 0 = .ok (.aload_n 0, 1) := by decide +kernel
theorem dX9_colourTone_1 : decode cX9_colourTone 1 = .ok (.iload_n 1, 1) := by decide +kernel
theorem dX9_colourTone_2 : decode cX9_colourTone 2 = .ok (.aload_n 0, 1) := by decide +kernel
theorem dX9_colourTone_3 : decode cX9_colourTone 3 = .ok (.getfield 186, 3) := by decide +kernel
theorem dX9_colourTone_6 : decode cX9_colourTone 6 = .ok (.if_icmp .lt 7, 3) := by decide +kernel
theorem dX9_colourTone_9 : decode cX9_colourTone 9 = .ok (.iconst 1, 1) := by decide +kernel
theorem dX9_colourTone_10 : decode cX9_colourTone 10 = .ok (.goto 4, 3) := by decide +kernel
theorem dX9_colourTone_13 : decode cX9_colourTone 13 = .ok (.iconst 0, 1) := by decide +kernel
theorem dX9_colourTone_14 : decode cX9_colourTone 14 = .ok (.invokevirtual 139, 3) := by decide +kernel
theorem dX9_colourTone_17 : decode cX9_colourTone 17 = .ok (.aload_n 0, 1) := by decide +kernel
theorem dX9_colourTone_18 : decode cX9_colourTone 18 = .ok (.getfield 129, 3) := by decide +kernel
theorem dX9_colourTone_21 : decode cX9_colourTone 21 = .ok (.ifCond .ne 38, 3) := by decide +kernel
theorem dX9_colourTone_24 : decode cX9_colourTone 24 = .ok (.aload_n 0, 1) := by decide +kernel
theorem dX9_colourTone_25 : decode cX9_colourTone 25 = .ok (.aload_n 0, 1) := by decide +kernel
theorem dX9_colourTone_26 : decode cX9_colourTone 26 = .ok (.getfield 26, 3) := by decide +kernel
theorem dX9_colourTone_29 : decode cX9_colourTone 29 = .ok (.iconst 4, 1) := by decide +kernel
theorem dX9_colourTone_30 : decode cX9_colourTone 30 = .ok (.iload_n 1, 1) := by decide +kernel
theorem dX9_colourTone_31 : decode cX9_colourTone 31 = .ok (.imul, 1) := by decide +kernel
theorem dX9_colourTone_32 : decode cX9_colourTone 32 = .ok (.iaload, 1) := by decide +kernel
theorem dX9_colourTone_33 : decode cX9_colourTone 33 = .ok (.aload_n 0, 1) := by decide +kernel
theorem dX9_colourTone_34 : decode cX9_colourTone 34 = .ok (.getfield 26, 3) := by decide +kernel
theorem dX9_colourTone_37 : decode cX9_colourTone 37 = .ok (.iconst 4, 1) := by decide +kernel
theorem dX9_colourTone_38 : decode cX9_colourTone 38 = .ok (.iload_n 1, 1) := by decide +kernel
theorem dX9_colourTone_39 : decode cX9_colourTone 39 = .ok (.imul, 1) := by decide +kernel
theorem dX9_colourTone_40 : decode cX9_colourTone 40 = .ok (.iconst 1, 1) := by decide +kernel
theorem dX9_colourTone_41 : decode cX9_colourTone 41 = .ok (.iadd, 1) := by decide +kernel
theorem dX9_colourTone_42 : decode cX9_colourTone 42 = .ok (.iaload, 1) := by decide +kernel
theorem dX9_colourTone_43 : decode cX9_colourTone 43 = .ok (.aload_n 0, 1) := by decide +kernel
theorem dX9_colourTone_44 : decode cX9_colourTone 44 = .ok (.getfield 26, 3) := by decide +kernel
theorem dX9_colourTone_47 : decode cX9_colourTone 47 = .ok (.iconst 4, 1) := by decide +kernel
theorem dX9_colourTone_48 : decode cX9_colourTone 48 = .ok (.iload_n 1, 1) := by decide +kernel
theorem dX9_colourTone_49 : decode cX9_colourTone 49 = .ok (.imul, 1) := by decide +kernel
theorem dX9_colourTone_50 : decode cX9_colourTone 50 = .ok (.iconst 2, 1) := by decide +kernel
theorem dX9_colourTone_51 : decode cX9_colourTone 51 = .ok (.iadd, 1) := by decide +kernel
theorem dX9_colourTone_52 : decode cX9_colourTone 52 = .ok (.iaload, 1) := by decide +kernel
theorem dX9_colourTone_53 : decode cX9_colourTone 53 = .ok (.sipush 255, 3) := by decide +kernel
theorem dX9_colourTone_56 : decode cX9_colourTone 56 = .ok (.invokevirtual 145, 3) := by decide +kernel
theorem dX9_colourTone_59 : decode cX9_colourTone 59 = .ok (.return_, 1) := by decide +kernel
set_option maxRecDepth 20000 in
theorem ggX9_readThird_X9_skip : GoodIn wsX9_readThird wsX9_skip := goodIn_r _ [11, 4, 12, 13, 14, 10, 15, 6, 16, 17, 63, 64, 65, 66, 67, 68, 69, 70, 71, 72, 73, 74, 75, 76, 77] (by decide +kernel) (by decide +kernel)
set_option maxRecDepth 20000 in
theorem gX9_readThird_X9_skip : GoodIn wsX9_readThird (wsV RX9 152 RX9 yX9_skip wsX9_skip) := goodIn_app (goodIn_of _ (by decide +kernel)) ggX9_readThird_X9_skip
set_option maxRecDepth 20000 in
theorem ggX9_readThird_X9_number : GoodIn wsX9_readThird wsX9_number := goodIn_r _ [21, 12, 13, 14, 10, 15, 4, 6, 16, 17, 63, 64, 65, 66, 67, 68, 69, 70, 71, 72, 73, 74, 75, 76, 77] (by decide +kernel) (by decide +kernel)
set_option maxRecDepth 20000 in
theorem gX9_readThird_X9_number : GoodIn wsX9_readThird (wsV RX9 155 RX9 yX9_number wsX9_number) := goodIn_app (goodIn_of _ (by decide +kernel)) ggX9_readThird_X9_number
set_option maxRecDepth 20000 in
theorem ggX9_readThird_X9_must : GoodIn wsX9_readThird wsX9_must := goodIn_r _ [25, 26, 27, 28, 10, 29, 4, 63, 64, 65, 66, 67, 68, 69, 70, 71, 72, 73, 74, 75, 76, 77] (by decide +kernel) (by decide +kernel)
set_option maxRecDepth 20000 in
theorem gX9_readThird_X9_must : GoodIn wsX9_readThird (wsV RX9 171 RX9 yX9_must wsX9_must) := goodIn_app (goodIn_of _ (by decide +kernel)) ggX9_readThird_X9_must
set_option maxRecDepth 20000 in
theorem ggX9_readThird_X9_sideOf : GoodIn wsX9_readThird wsX9_sideOf := goodIn_r _ [33, 34, 35, 10, 36, 26, 27, 28, 29, 4, 63, 64, 65, 66, 67, 68, 69, 70, 71, 72, 73, 74, 75, 76, 77] (by decide +kernel) (by decide +kernel)
set_option maxRecDepth 20000 in
theorem gX9_readThird_X9_sideOf : GoodIn wsX9_readThird (wsV RX9 159 RX9 yX9_sideOf wsX9_sideOf) := goodIn_app (goodIn_of _ (by decide +kernel)) ggX9_readThird_X9_sideOf
set_option maxRecDepth 20000 in
theorem ggX9_readThird_X9_broken : GoodIn wsX9_readThird wsX9_broken := goodIn_r _ [29, 4, 63, 64, 65, 66, 67, 68, 69, 70, 71, 72, 73, 74, 75, 76, 77] (by decide +kernel) (by decide +kernel)
set_option maxRecDepth 20000 in
theorem gX9_readThird_X9_broken : GoodIn wsX9_readThird (wsV RX9 139 RX9 yX9_broken wsX9_broken) := goodIn_app (goodIn_of _ (by decide +kernel)) ggX9_readThird_X9_broken
set_option maxRecDepth 20000 in
theorem ggX9_readThird_X9_next : GoodIn wsX9_readThird wsX9_next := goodIn_r _ [15, 4, 6, 16, 17, 63, 64, 65, 66, 67, 68, 69, 70, 71, 72, 73, 74, 75, 76, 77] (by decide +kernel) (by decide +kernel)
set_option maxRecDepth 20000 in
theorem gX9_readThird_X9_next : GoodIn wsX9_readThird (wsV RX9 135 RX9 yX9_next wsX9_next) := goodIn_app (goodIn_of _ (by decide +kernel)) ggX9_readThird_X9_next
set_option maxRecDepth 20000 in
theorem ggX9_readThird_X9_pieces : GoodIn wsX9_readThird wsX9_pieces := goodIn_r _ [40, 2, 4, 1, 3, 41, 42, 43, 10, 44, 26, 27, 28, 29, 45, 46, 47, 48, 5, 49, 50, 51, 52, 53, 54, 55, 56, 57, 58, 12, 13, 14, 15, 6, 16, 17, 7, 8, 9, 11, 63, 64, 65, 66, 67, 68, 69, 70, 71, 72, 73, 74, 75, 76, 77] (by decide +kernel) (by decide +kernel)
set_option maxRecDepth 20000 in
theorem gX9_readThird_X9_pieces : GoodIn wsX9_readThird (wsV RX9 189 RX9 yX9_pieces wsX9_pieces) := goodIn_app (goodIn_of _ (by decide +kernel)) ggX9_readThird_X9_pieces
set_option maxRecDepth 20000 in
theorem ggX9_readThird_X9_plain : GoodIn wsX9_readThird wsX9_plain := goodIn_r _ [62, 2, 4, 1, 12, 13, 14, 10, 15, 6, 16, 17, 45, 46, 47, 48, 3, 5, 26, 27, 28, 29, 49, 50, 51, 52, 53, 54, 55, 56, 57, 58, 7, 8, 9, 11, 63, 64, 65, 66, 67, 68, 69, 70, 71, 72, 73, 74, 75, 76, 77] (by decide +kernel) (by decide +kernel)
set_option maxRecDepth 20000 in
theorem gX9_readThird_X9_plain : GoodIn wsX9_readThird (wsV RX9 192 RX9 yX9_plain wsX9_plain) := goodIn_app (goodIn_of _ (by decide +kernel)) ggX9_readThird_X9_plain
theorem dX9_readThird_0 : decode cX9_readThird 0 = .ok (.aload_n 0, 1) := by decide +kernel
theorem dX9_readThird_1 : decode cX9_readThird 1 = .ok (.bipush 10, 2) := by decide +kernel
theorem dX9_readThird_3 : decode cX9_readThird 3 = .ok (.invokevirtual 152, 3) := by decide +kernel
theorem dX9_readThird_6 : decode cX9_readThird 6 = .ok (.aload_n 0, 1) := by decide +kernel
theorem dX9_readThird_7 : decode cX9_readThird 7 = .ok (.iconst 4, 1) := by decide +kernel
theorem dX9_readThird_8 : decode cX9_readThird 8 = .ok (.iconst 0, 1) := by decide +kernel
theorem dX9_readThird_9 : decode cX9_readThird 9 = .ok (.invokevirtual 155, 3) := by decide +kernel
theorem dX9_readThird_12 : decode cX9_readThird 12 = .ok (.istore_n 1, 1) := by decide +kernel
theorem dX9_readThird_13 : decode cX9_readThird 13 = .ok (.aload_n 0, 1) := by decide +kernel
theorem dX9_readThird_14 : decode cX9_readThird 14 = .ok (.aload_n 0, 1) := by decide +kernel
theorem dX9_readThird_15 : decode cX9_readThird 15 = .ok (.iconst 4, 1) := by decide +kernel
theorem dX9_readThird_16 : decode cX9_readThird 16 = .ok (.iconst 0, 1) := by decide +kernel
theorem dX9_readThird_17 : decode cX9_readThird 17 = .ok (.invokevirtual 155, 3) := by decide +kernel
theorem dX9_readThird_20 : decode cX9_readThird 20 = .ok (.bipush 40, 2) := by decide +kernel
theorem dX9_readThird_22 : decode cX9_readThird 22 = .ok (.invokevirtual 171, 3) := by decide +kernel
theorem dX9_readThird_25 : decode cX9_readThird 25 = .ok (.aload_n 0, 1) := by decide +kernel
theorem dX9_readThird_26 : decode cX9_readThird 26 = .ok (.aload_n 0, 1) := by decide +kernel
theorem dX9_readThird_27 : decode cX9_readThird 27 = .ok (.aload_n 0, 1) := by decide +kernel
theorem dX9_readThird_28 : decode cX9_readThird 28 = .ok (.iconst 4, 1) := by decide +kernel
theorem dX9_readThird_29 : decode cX9_readThird 29 = .ok (.iconst 0, 1) := by decide +kernel
theorem dX9_readThird_30 : decode cX9_readThird 30 = .ok (.invokevirtual 155, 3) := by decide +kernel
theorem dX9_readThird_33 : decode cX9_readThird 33 = .ok (.invokevirtual 159, 3) := by decide +kernel
theorem dX9_readThird_36 : decode cX9_readThird 36 = .ok (.putfield 142, 3) := by decide +kernel
theorem dX9_readThird_39 : decode cX9_readThird 39 = .ok (.aload_n 0, 1) := by decide +kernel
theorem dX9_readThird_40 : decode cX9_readThird 40 = .ok (.iconst 4, 1) := by decide +kernel
theorem dX9_readThird_41 : decode cX9_readThird 41 = .ok (.iconst 0, 1) := by decide +kernel
theorem dX9_readThird_42 : decode cX9_readThird 42 = .ok (.invokevirtual 155, 3) := by decide +kernel
theorem dX9_readThird_45 : decode cX9_readThird 45 = .ok (.istore_n 2, 1) := by decide +kernel
theorem dX9_readThird_46 : decode cX9_readThird 46 = .ok (.aload_n 0, 1) := by decide +kernel
theorem dX9_readThird_47 : decode cX9_readThird 47 = .ok (.aload_n 0, 1) := by decide +kernel
theorem dX9_readThird_48 : decode cX9_readThird 48 = .ok (.iload_n 2, 1) := by decide +kernel
theorem dX9_readThird_49 : decode cX9_readThird 49 = .ok (.ifCond .ge 8, 3) := by decide +kernel
theorem dX9_readThird_52 : decode cX9_readThird 52 = .ok (.iload_n 2, 1) := by decide +kernel
theorem dX9_readThird_53 : decode cX9_readThird 53 = .ok (.ineg, 1) := by decide +kernel
theorem dX9_readThird_54 : decode cX9_readThird 54 = .ok (.goto 4, 3) := by decide +kernel
theorem dX9_readThird_57 : decode cX9_readThird 57 = .ok (.iload_n 2, 1) := by decide +kernel
theorem dX9_readThird_58 : decode cX9_readThird 58 = .ok (.invokevirtual 159, 3) := by decide +kernel
theorem dX9_readThird_61 : decode cX9_readThird 61 = .ok (.putfield 162, 3) := by decide +kernel
theorem dX9_readThird_64 : decode cX9_readThird 64 = .ok (.aload_n 0, 1) := by decide +kernel
theorem dX9_readThird_65 : decode cX9_readThird 65 = .ok (.aload_n 0, 1) := by decide +kernel
theorem dX9_readThird_66 : decode cX9_readThird 66 = .ok (.iconst 2, 1) := by decide +kernel
theorem dX9_readThird_67 : decode cX9_readThird 67 = .ok (.iconst 0, 1) := by decide +kernel
theorem dX9_readThird_68 : decode cX9_readThird 68 = .ok (.invokevirtual 155, 3) := by decide +kernel
theorem dX9_readThird_71 : decode cX9_readThird 71 = .ok (.iconst 1, 1) := by decide +kernel
theorem dX9_readThird_72 : decode cX9_readThird 72 = .ok (.invokevirtual 171, 3) := by decide +kernel
theorem dX9_readThird_75 : decode cX9_readThird 75 = .ok (.aload_n 0, 1) := by decide +kernel
theorem dX9_readThird_76 : decode cX9_readThird 76 = .ok (.iconst 2, 1) := by decide +kernel
theorem dX9_readThird_77 : decode cX9_readThird 77 = .ok (.iconst 0, 1) := by decide +kernel
theorem dX9_readThird_78 : decode cX9_readThird 78 = .ok (.invokevirtual 155, 3) := by decide +kernel
theorem dX9_readThird_81 : decode cX9_readThird 81 = .ok (.istore_n 3, 1) := by decide +kernel
theorem dX9_readThird_82 : decode cX9_readThird 82 = .ok (.aload_n 0, 1) := by decide +kernel
theorem dX9_readThird_83 : decode cX9_readThird 83 = .ok (.iload_n 3, 1) := by decide +kernel
theorem dX9_readThird_84 : decode cX9_readThird 84 = .ok (.bipush 8, 2) := by decide +kernel
theorem dX9_readThird_86 : decode cX9_readThird 86 = .ok (.if_icmp .eq 13, 3) := by decide +kernel
theorem dX9_readThird_89 : decode cX9_readThird 89 = .ok (.iload_n 3, 1) := by decide +kernel
theorem dX9_readThird_90 : decode cX9_readThird 90 = .ok (.bipush 24, 2) := by decide +kernel
theorem dX9_readThird_92 : decode cX9_readThird 92 = .ok (.if_icmp .eq 7, 3) := by decide +kernel
theorem dX9_readThird_95 : decode cX9_readThird 95 = .ok (.iconst 1, 1) := by decide +kernel
theorem dX9_readThird_96 : decode cX9_readThird 96 = .ok (.goto 4, 3) := by decide +kernel
theorem dX9_readThird_99 : decode cX9_readThird 99 = .ok (.iconst 0, 1) := by decide +kernel
theorem dX9_readThird_100 : decode cX9_readThird 100 = .ok (.invokevirtual 139, 3) := by decide +kernel
theorem dX9_readThird_103 : decode cX9_readThird 103 = .ok (.aload_n 0, 1) := by decide +kernel
theorem dX9_readThird_104 : decode cX9_readThird 104 = .ok (.iconst 4, 1) := by decide +kernel
theorem dX9_readThird_105 : decode cX9_readThird 105 = .ok (.iconst 0, 1) := by decide +kernel
theorem dX9_readThird_106 : decode cX9_readThird 106 = .ok (.invokevirtual 155, 3) := by decide +kernel
theorem dX9_readThird_109 : decode cX9_readThird 109 = .ok (.istore 4, 2) := by decide +kernel
theorem dX9_readThird_111 : decode cX9_readThird 111 = .ok (.aload_n 0, 1) := by decide +kernel
theorem dX9_readThird_112 : decode cX9_readThird 112 = .ok (.iload 4, 2) := by decide +kernel
theorem dX9_readThird_114 : decode cX9_readThird 114 = .ok (.ifCond .eq 23, 3) := by decide +kernel
theorem dX9_readThird_117 : decode cX9_readThird 117 = .ok (.iload 4, 2) := by decide +kernel
theorem dX9_readThird_119 : decode cX9_readThird 119 = .ok (.iconst 1, 1) := by decide +kernel
theorem dX9_readThird_120 : decode cX9_readThird 120 = .ok (.if_icmp .ne 13, 3) := by decide +kernel
theorem dX9_readThird_123 : decode cX9_readThird 123 = .ok (.iload_n 3, 1) := by decide +kernel
theorem dX9_readThird_124 : decode cX9_readThird 124 = .ok (.bipush 8, 2) := by decide +kernel
theorem dX9_readThird_126 : decode cX9_readThird 126 = .ok (.if_icmp .ne 7, 3) := by decide +kernel
theorem dX9_readThird_129 : decode cX9_readThird 129 = .ok (.iload_n 2, 1) := by decide +kernel
theorem dX9_readThird_130 : decode cX9_readThird 130 = .ok (.ifCond .ge 7, 3) := by decide +kernel
theorem dX9_readThird_133 : decode cX9_readThird 133 = .ok (.iconst 1, 1) := by decide +kernel
theorem dX9_readThird_134 : decode cX9_readThird 134 = .ok (.goto 4, 3) := by decide +kernel
theorem dX9_readThird_137 : decode cX9_readThird 137 = .ok (.iconst 0, 1) := by decide +kernel
theorem dX9_readThird_138 : decode cX9_readThird 138 = .ok (.invokevirtual 139, 3) := by decide +kernel
theorem dX9_readThird_141 : decode cX9_readThird 141 = .ok (.aload_n 0, 1) := by decide +kernel
theorem dX9_readThird_142 : decode cX9_readThird 142 = .ok (.bipush 12, 2) := by decide +kernel
theorem dX9_readThird_144 : decode cX9_readThird 144 = .ok (.invokevirtual 152, 3) := by decide +kernel
theorem dX9_readThird_147 : decode cX9_readThird 147 = .ok (.aload_n 0, 1) := by decide +kernel
theorem dX9_readThird_148 : decode cX9_readThird 148 = .ok (.aload_n 0, 1) := by decide +kernel
theorem dX9_readThird_149 : decode cX9_readThird 149 = .ok (.iconst 4, 1) := by decide +kernel
theorem dX9_readThird_150 : decode cX9_readThird 150 = .ok (.iconst 0, 1) := by decide +kernel
theorem dX9_readThird_151 : decode cX9_readThird 151 = .ok (.invokevirtual 155, 3) := by decide +kernel
theorem dX9_readThird_154 : decode cX9_readThird 154 = .ok (.putfield 186, 3) := by decide +kernel
theorem dX9_readThird_157 : decode cX9_readThird 157 = .ok (.aload_n 0, 1) := by decide +kernel
theorem dX9_readThird_158 : decode cX9_readThird 158 = .ok (.iload_n 3, 1) := by decide +kernel
theorem dX9_readThird_159 : decode cX9_readThird 159 = .ok (.bipush 8, 2) := by decide +kernel
theorem dX9_readThird_161 : decode cX9_readThird 161 = .ok (.if_icmp .ne 28, 3) := by decide +kernel
theorem dX9_readThird_164 : decode cX9_readThird 164 = .ok (.aload_n 0, 1) := by decide +kernel
theorem dX9_readThird_165 : decode cX9_readThird 165 = .ok (.getfield 186, 3) := by decide +kernel
theorem dX9_readThird_168 : decode cX9_readThird 168 = .ok (.iconst 1, 1) := by decide +kernel
theorem dX9_readThird_169 : decode cX9_readThird 169 = .ok (.if_icmp .lt 12, 3) := by decide +kernel
theorem dX9_readThird_172 : decode cX9_readThird 172 = .ok (.aload_n 0, 1) := by decide +kernel
theorem dX9_readThird_173 : decode cX9_readThird 173 = .ok (.getfield 186, 3) := by decide +kernel
theorem dX9_readThird_176 : decode cX9_readThird 176 = .ok (.bipush 64, 2) := by decide +kernel
theorem dX9_readThird_178 : decode cX9_readThird 178 = .ok (.if_icmp .le 7, 3) := by decide +kernel
theorem dX9_readThird_181 : decode cX9_readThird 181 = .ok (.iconst 1, 1) := by decide +kernel
theorem dX9_readThird_182 : decode cX9_readThird 182 = .ok (.goto 19, 3) := by decide +kernel
theorem dX9_readThird_185 : decode cX9_readThird 185 = .ok (.iconst 0, 1) := by decide +kernel
theorem dX9_readThird_186 : decode cX9_readThird 186 = .ok (.goto 15, 3) := by decide +kernel
theorem dX9_readThird_189 : decode cX9_readThird 189 = .ok (.aload_n 0, 1) := by decide +kernel
theorem dX9_readThird_190 : decode cX9_readThird 190 = .ok (.getfield 186, 3) := by decide +kernel
theorem dX9_readThird_193 : decode cX9_readThird 193 = .ok (.ifCond .eq 7, 3) := by decide +kernel
theorem dX9_readThird_196 : decode cX9_readThird 196 = .ok (.iconst 1, 1) := by decide +kernel
theorem dX9_readThird_197 : decode cX9_readThird 197 = .ok (.goto 4, 3) := by decide +kernel
theorem dX9_readThird_200 : decode cX9_readThird 200 = .ok (.iconst 0, 1) := by decide +kernel
theorem dX9_readThird_201 : decode cX9_readThird 201 = .ok (.invokevirtual 139, 3) := by decide +kernel
theorem dX9_readThird_204 : decode cX9_readThird 204 = .ok (.aload_n 0, 1) := by decide +kernel
theorem dX9_readThird_205 : decode cX9_readThird 205 = .ok (.iconst 4, 1) := by decide +kernel
theorem dX9_readThird_206 : decode cX9_readThird 206 = .ok (.invokevirtual 152, 3) := by decide +kernel
theorem dX9_readThird_209 : decode cX9_readThird 209 = .ok (.iconst 0, 1) := by decide +kernel
theorem dX9_readThird_210 : decode cX9_readThird 210 = .ok (.istore 5, 2) := by decide +kernel
theorem dX9_readThird_212 : decode cX9_readThird 212 = .ok (.aload_n 0, 1) := by decide +kernel
theorem dX9_readThird_213 : decode cX9_readThird 213 = .ok (.getfield 129, 3) := by decide +kernel
theorem dX9_readThird_216 : decode cX9_readThird 216 = .ok (.ifCond .ne 53, 3) := by decide +kernel
theorem dX9_readThird_219 : decode cX9_readThird 219 = .ok (.iload 5, 2) := by decide +kernel
theorem dX9_readThird_221 : decode cX9_readThird 221 = .ok (.aload_n 0, 1) := by decide +kernel
theorem dX9_readThird_222 : decode cX9_readThird 222 = .ok (.getfield 186, 3) := by decide +kernel
theorem dX9_readThird_225 : decode cX9_readThird 225 = .ok (.if_icmp .ge 44, 3) := by decide +kernel
theorem dX9_readThird_228 : decode cX9_readThird 228 = .ok (.iconst 2, 1) := by decide +kernel
theorem dX9_readThird_229 : decode cX9_readThird 229 = .ok (.istore 6, 2) := by decide +kernel
theorem dX9_readThird_231 : decode cX9_readThird 231 = .ok (.iload 6, 2) := by decide +kernel
theorem dX9_readThird_233 : decode cX9_readThird 233 = .ok (.ifCond .lt 25, 3) := by decide +kernel
theorem dX9_readThird_236 : decode cX9_readThird 236 = .ok (.aload_n 0, 1) := by decide +kernel
theorem dX9_readThird_237 : decode cX9_readThird 237 = .ok (.getfield 26, 3) := by decide +kernel
theorem dX9_readThird_240 : decode cX9_readThird 240 = .ok (.iconst 4, 1) := by decide +kernel
theorem dX9_readThird_241 : decode cX9_readThird 241 = .ok (.iload 5, 2) := by decide +kernel
theorem dX9_readThird_243 : decode cX9_readThird 243 = .ok (.imul, 1) := by decide +kernel
theorem dX9_readThird_244 : decode cX9_readThird 244 = .ok (.iload 6, 2) := by decide +kernel
theorem dX9_readThird_246 : decode cX9_readThird 246 = .ok (.iadd, 1) := by decide +kernel
theorem dX9_readThird_247 : decode cX9_readThird 247 = .ok (.aload_n 0, 1) := by decide +kernel
theorem dX9_readThird_248 : decode cX9_readThird 248 = .ok (.invokevirtual 135, 3) := by decide +kernel
theorem dX9_readThird_251 : decode cX9_readThird 251 = .ok (.iastore, 1) := by decide +kernel
theorem dX9_readThird_252 : decode cX9_readThird 252 = .ok (.iinc 6 (-1), 3) := by decide +kernel
theorem dX9_readThird_255 : decode cX9_readThird 255 = .ok (.goto (-24), 3) := by decide +kernel
theorem dX9_readThird_258 : decode cX9_readThird 258 = .ok (.aload_n 0, 1) := by decide +kernel
theorem dX9_readThird_259 : decode cX9_readThird 259 = .ok (.invokevirtual 135, 3) := by decide +kernel
theorem dX9_readThird_262 : decode cX9_readThird 262 = .ok (.pop, 1) := by decide +kernel
theorem dX9_readThird_263 : decode cX9_readThird 263 = .ok (.iinc 5 1, 3) := by decide +kernel
theorem dX9_readThird_266 : decode cX9_readThird 266 = .ok (.goto (-54), 3) := by decide +kernel
theorem dX9_readThird_269 : decode cX9_readThird 269 = .ok (.aload_n 0, 1) := by decide +kernel
theorem dX9_readThird_270 : decode cX9_readThird 270 = .ok (.iload_n 1, 1) := by decide +kernel
theorem dX9_readThird_271 : decode cX9_readThird 271 = .ok (.aload_n 0, 1) := by decide +kernel
theorem dX9_readThird_272 : decode cX9_readThird 272 = .ok (.getfield 132, 3) := by decide +kernel
theorem dX9_readThird_275 : decode cX9_readThird 275 = .ok (.if_icmp .lt 10, 3) := by decide +kernel
theorem dX9_readThird_278 : decode cX9_readThird 278 = .ok (.iload_n 1, 1) := by decide +kernel
theorem dX9_readThird_279 : decode cX9_readThird 279 = .ok (.sipush 800, 3) := by decide +kernel
theorem dX9_readThird_282 : decode cX9_readThird 282 = .ok (.if_icmp .le 7, 3) := by decide +kernel
theorem dX9_readThird_285 : decode cX9_readThird 285 = .ok (.iconst 1, 1) := by decide +kernel
theorem dX9_readThird_286 : decode cX9_readThird 286 = .ok (.goto 4, 3) := by decide +kernel
theorem dX9_readThird_289 : decode cX9_readThird 289 = .ok (.iconst 0, 1) := by decide +kernel
theorem dX9_readThird_290 : decode cX9_readThird 290 = .ok (.invokevirtual 139, 3) := by decide +kernel
theorem dX9_readThird_293 : decode cX9_readThird 293 = .ok (.aload_n 0, 1) := by decide +kernel
theorem dX9_readThird_294 : decode cX9_readThird 294 = .ok (.getfield 129, 3) := by decide +kernel
theorem dX9_readThird_297 : decode cX9_readThird 297 = .ok (.ifCond .ne 13, 3) := by decide +kernel
theorem dX9_readThird_300 : decode cX9_readThird 300 = .ok (.aload_n 0, 1) := by decide +kernel
theorem dX9_readThird_301 : decode cX9_readThird 301 = .ok (.iload_n 1, 1) := by decide +kernel
theorem dX9_readThird_302 : decode cX9_readThird 302 = .ok (.aload_n 0, 1) := by decide +kernel
theorem dX9_readThird_303 : decode cX9_readThird 303 = .ok (.getfield 132, 3) := by decide +kernel
theorem dX9_readThird_306 : decode cX9_readThird 306 = .ok (.isub, 1) := by decide +kernel
theorem dX9_readThird_307 : decode cX9_readThird 307 = .ok (.invokevirtual 152, 3) := by decide +kernel
theorem dX9_readThird_310 : decode cX9_readThird 310 = .ok (.iload 4, 2) := by decide +kernel
theorem dX9_readThird_312 : decode cX9_readThird 312 = .ok (.iconst 1, 1) := by decide +kernel
theorem dX9_readThird_313 : decode cX9_readThird 313 = .ok (.if_icmp .ne 10, 3) := by decide +kernel
theorem dX9_readThird_316 : decode cX9_readThird 316 = .ok (.aload_n 0, 1) := by decide +kernel
theorem dX9_readThird_317 : decode cX9_readThird 317 = .ok (.invokevirtual 189, 3) := by decide +kernel
theorem dX9_readThird_320 : decode cX9_readThird 320 = .ok (.goto 17, 3) := by decide +kernel
theorem dX9_readThird_323 : decode cX9_readThird 323 = .ok (.aload_n 0, 1) := by decide +kernel
theorem dX9_readThird_324 : decode cX9_readThird 324 = .ok (.iload_n 3, 1) := by decide +kernel
theorem dX9_readThird_325 : decode cX9_readThird 325 = .ok (.iload_n 2, 1) := by decide +kernel
theorem dX9_readThird_326 : decode cX9_readThird 326 = .ok (.ifCond .le 7, 3) := by decide +kernel
theorem dX9_readThird_329 : decode cX9_readThird 329 = .ok (.iconst 1, 1) := by decide +kernel
theorem dX9_readThird_330 : decode cX9_readThird 330 = .ok (.goto 4, 3) := by decide +kernel
theorem dX9_readThird_333 : decode cX9_readThird 333 = .ok (.iconst 0, 1) := by decide +kernel
theorem dX9_readThird_334 : decode cX9_readThird 334 = .ok (.invokevirtual 192, 3) := by decide +kernel
theorem dX9_readThird_337 : decode cX9_readThird 337 = .ok (.return_, 1) := by decide +kernel
set_option maxRecDepth 20000 in
theorem ggX9_plain_X9_next : GoodIn wsX9_plain wsX9_next := goodIn_r _ [8, 2, 9, 10, 11, 36, 37, 38, 39, 40, 41, 42, 43, 44, 45, 46, 47, 48, 49, 50] (by decide +kernel) (by decide +kernel)
set_option maxRecDepth 20000 in
theorem gX9_plain_X9_next : GoodIn wsX9_plain (wsV RX9 135 RX9 yX9_next wsX9_next) := goodIn_app (goodIn_of _ (by decide +kernel)) ggX9_plain_X9_next
set_option maxRecDepth 20000 in
theorem ggX9_plain_X9_colourTone : GoodIn wsX9_plain wsX9_colourTone := goodIn_r _ [15, 16, 2, 17, 18, 19, 20, 7, 21, 22, 23, 24, 25, 26, 36, 37, 38, 39, 40, 41, 42, 43, 44, 45, 46, 47, 48, 49, 50] (by decide +kernel) (by decide +kernel)
set_option maxRecDepth 20000 in
theorem gX9_plain_X9_colourTone : GoodIn wsX9_plain (wsV RX9 196 RX9 yX9_colourTone wsX9_colourTone) := goodIn_app (goodIn_of _ (by decide +kernel)) ggX9_plain_X9_colourTone
set_option maxRecDepth 20000 in
theorem ggX9_plain_X9_tone : GoodIn wsX9_plain wsX9_tone := goodIn_r _ [25, 26, 36, 37, 38, 39, 40, 41, 42, 43, 44, 45, 46, 47, 48, 49, 50] (by decide +kernel) (by decide +kernel)
set_option maxRecDepth 20000 in
theorem gX9_plain_X9_tone : GoodIn wsX9_plain (wsV RX9 145 RX9 yX9_tone wsX9_tone) := goodIn_app (goodIn_of _ (by decide +kernel)) ggX9_plain_X9_tone
set_option maxRecDepth 20000 in
theorem ggX9_plain_X9_set : GoodIn wsX9_plain wsX9_set := goodIn_r _ [30, 2, 31, 3, 26, 36, 37, 38, 39, 40, 41, 42, 43, 44, 45, 46, 47, 48, 49, 50] (by decide +kernel) (by decide +kernel)
set_option maxRecDepth 20000 in
theorem gX9_plain_X9_set : GoodIn wsX9_plain (wsV RX9 168 RX9 yX9_set wsX9_set) := goodIn_app (goodIn_of _ (by decide +kernel)) ggX9_plain_X9_set
set_option maxRecDepth 20000 in
theorem ggX9_plain_X9_skip : GoodIn wsX9_plain wsX9_skip := goodIn_r _ [35, 2, 4, 5, 6, 7, 8, 9, 10, 11, 36, 37, 38, 39, 40, 41, 42, 43, 44, 45, 46, 47, 48, 49, 50] (by decide +kernel) (by decide +kernel)
set_option maxRecDepth 20000 in
theorem gX9_plain_X9_skip : GoodIn wsX9_plain (wsV RX9 152 RX9 yX9_skip wsX9_skip) := goodIn_app (goodIn_of _ (by decide +kernel)) ggX9_plain_X9_skip
theorem dX9_plain_0 : decode cX9_plain 0 = .ok (.iconst 0, 1) := by decide +kernel
theorem dX9_plain_1 : decode cX9_plain 1 = .ok (.istore_n 3, 1) := by decide +kernel
theorem dX9_plain_2 : decode cX9_plain 2 = .ok (.iload_n 3, 1) := by decide +kernel
theorem dX9_plain_3 : decode cX9_plain 3 = .ok (.aload_n 0, 1) := by decide +kernel
theorem dX9_plain_4 : decode cX9_plain 4 = .ok (.getfield 162, 3) := by decide +kernel
theorem dX9_plain_7 : decode cX9_plain 7 = .ok (.if_icmp .ge 145, 3) := by decide +kernel
theorem dX9_plain_10 : decode cX9_plain 10 = .ok (.aload_n 0, 1) := by decide +kernel
theorem dX9_plain_11 : decode cX9_plain 11 = .ok (.getfield 129, 3) := by decide +kernel
theorem dX9_plain_14 : decode cX9_plain 14 = .ok (.ifCond .ne 138, 3) := by decide +kernel
theorem dX9_plain_17 : decode cX9_plain 17 = .ok (.iload_n 2, 1) := by decide +kernel
theorem dX9_plain_18 : decode cX9_plain 18 = .ok (.ifCond .eq 14, 3) := by decide +kernel
theorem dX9_plain_21 : decode cX9_plain 21 = .ok (.aload_n 0, 1) := by decide +kernel
theorem dX9_plain_22 : decode cX9_plain 22 = .ok (.getfield 162, 3) := by decide +kernel
theorem dX9_plain_25 : decode cX9_plain 25 = .ok (.iconst 1, 1) := by decide +kernel
theorem dX9_plain_26 : decode cX9_plain 26 = .ok (.isub, 1) := by decide +kernel
theorem dX9_plain_27 : decode cX9_plain 27 = .ok (.iload_n 3, 1) := by decide +kernel
theorem dX9_plain_28 : decode cX9_plain 28 = .ok (.isub, 1) := by decide +kernel
theorem dX9_plain_29 : decode cX9_plain 29 = .ok (.goto 4, 3) := by decide +kernel
theorem dX9_plain_32 : decode cX9_plain 32 = .ok (.iload_n 3, 1) := by decide +kernel
theorem dX9_plain_33 : decode cX9_plain 33 = .ok (.istore 4, 2) := by decide +kernel
theorem dX9_plain_35 : decode cX9_plain 35 = .ok (.iconst 0, 1) := by decide +kernel
theorem dX9_plain_36 : decode cX9_plain 36 = .ok (.istore 5, 2) := by decide +kernel
theorem dX9_plain_38 : decode cX9_plain 38 = .ok (.iload 5, 2) := by decide +kernel
theorem dX9_plain_40 : decode cX9_plain 40 = .ok (.aload_n 0, 1) := by decide +kernel
theorem dX9_plain_41 : decode cX9_plain 41 = .ok (.getfield 142, 3) := by decide +kernel
theorem dX9_plain_44 : decode cX9_plain 44 = .ok (.if_icmp .ge 74, 3) := by decide +kernel
theorem dX9_plain_47 : decode cX9_plain 47 = .ok (.aload_n 0, 1) := by decide +kernel
theorem dX9_plain_48 : decode cX9_plain 48 = .ok (.getfield 129, 3) := by decide +kernel
theorem dX9_plain_51 : decode cX9_plain 51 = .ok (.ifCond .ne 67, 3) := by decide +kernel
theorem dX9_plain_54 : decode cX9_plain 54 = .ok (.iload_n 1, 1) := by decide +kernel
theorem dX9_plain_55 : decode cX9_plain 55 = .ok (.bipush 8, 2) := by decide +kernel
theorem dX9_plain_57 : decode cX9_plain 57 = .ok (.if_icmp .ne 14, 3) := by decide +kernel
theorem dX9_plain_60 : decode cX9_plain 60 = .ok (.aload_n 0, 1) := by decide +kernel
theorem dX9_plain_61 : decode cX9_plain 61 = .ok (.aload_n 0, 1) := by decide +kernel
theorem dX9_plain_62 : decode cX9_plain 62 = .ok (.invokevirtual 135, 3) := by decide +kernel
theorem dX9_plain_65 : decode cX9_plain 65 = .ok (.invokevirtual 196, 3) := by decide +kernel
theorem dX9_plain_68 : decode cX9_plain 68 = .ok (.goto 30, 3) := by decide +kernel
theorem dX9_plain_71 : decode cX9_plain 71 = .ok (.aload_n 0, 1) := by decide +kernel
theorem dX9_plain_72 : decode cX9_plain 72 = .ok (.invokevirtual 135, 3) := by decide +kernel
theorem dX9_plain_75 : decode cX9_plain 75 = .ok (.istore 6, 2) := by decide +kernel
theorem dX9_plain_77 : decode cX9_plain 77 = .ok (.aload_n 0, 1) := by decide +kernel
theorem dX9_plain_78 : decode cX9_plain 78 = .ok (.invokevirtual 135, 3) := by decide +kernel
theorem dX9_plain_81 : decode cX9_plain 81 = .ok (.istore 7, 2) := by decide +kernel
theorem dX9_plain_83 : decode cX9_plain 83 = .ok (.aload_n 0, 1) := by decide +kernel
theorem dX9_plain_84 : decode cX9_plain 84 = .ok (.aload_n 0, 1) := by decide +kernel
theorem dX9_plain_85 : decode cX9_plain 85 = .ok (.invokevirtual 135, 3) := by decide +kernel
theorem dX9_plain_88 : decode cX9_plain 88 = .ok (.iload 7, 2) := by decide +kernel
theorem dX9_plain_90 : decode cX9_plain 90 = .ok (.iload 6, 2) := by decide +kernel
theorem dX9_plain_92 : decode cX9_plain 92 = .ok (.sipush 255, 3) := by decide +kernel
theorem dX9_plain_95 : decode cX9_plain 95 = .ok (.invokevirtual 145, 3) := by decide +kernel
theorem dX9_plain_98 : decode cX9_plain 98 = .ok (.aload_n 0, 1) := by decide +kernel
theorem dX9_plain_99 : decode cX9_plain 99 = .ok (.aload_n 0, 1) := by decide +kernel
theorem dX9_plain_100 : decode cX9_plain 100 = .ok (.getfield 142, 3) := by decide +kernel
theorem dX9_plain_103 : decode cX9_plain 103 = .ok (.iload 4, 2) := by decide +kernel
theorem dX9_plain_105 : decode cX9_plain 105 = .ok (.imul, 1) := by decide +kernel
theorem dX9_plain_106 : decode cX9_plain 106 = .ok (.iload 5, 2) := by decide +kernel
theorem dX9_plain_108 : decode cX9_plain 108 = .ok (.iadd, 1) := by decide +kernel
theorem dX9_plain_109 : decode cX9_plain 109 = .ok (.invokevirtual 168, 3) := by decide +kernel
theorem dX9_plain_112 : decode cX9_plain 112 = .ok (.iinc 5 1, 3) := by decide +kernel
theorem dX9_plain_115 : decode cX9_plain 115 = .ok (.goto (-77), 3) := by decide +kernel
theorem dX9_plain_118 : decode cX9_plain 118 = .ok (.aload_n 0, 1) := by decide +kernel
theorem dX9_plain_119 : decode cX9_plain 119 = .ok (.iload_n 1, 1) := by decide +kernel
theorem dX9_plain_120 : decode cX9_plain 120 = .ok (.bipush 8, 2) := by decide +kernel
theorem dX9_plain_122 : decode cX9_plain 122 = .ok (.if_icmp .ne 15, 3) := by decide +kernel
theorem dX9_plain_125 : decode cX9_plain 125 = .ok (.bipush 8, 2) := by decide +kernel
theorem dX9_plain_127 : decode cX9_plain 127 = .ok (.aload_n 0, 1) := by decide +kernel
theorem dX9_plain_128 : decode cX9_plain 128 = .ok (.getfield 142, 3) := by decide +kernel
theorem dX9_plain_131 : decode cX9_plain 131 = .ok (.isub, 1) := by decide +kernel
theorem dX9_plain_132 : decode cX9_plain 132 = .ok (.iconst 4, 1) := by decide +kernel
theorem dX9_plain_133 : decode cX9_plain 133 = .ok (.irem, 1) := by decide +kernel
theorem dX9_plain_134 : decode cX9_plain 134 = .ok (.goto 9, 3) := by decide +kernel
theorem dX9_plain_137 : decode cX9_plain 137 = .ok (.aload_n 0, 1) := by decide +kernel
theorem dX9_plain_138 : decode cX9_plain 138 = .ok (.getfield 142, 3) := by decide +kernel
theorem dX9_plain_141 : decode cX9_plain 141 = .ok (.iconst 4, 1) := by decide +kernel
theorem dX9_plain_142 : decode cX9_plain 142 = .ok (.irem, 1) := by decide +kernel
theorem dX9_plain_143 : decode cX9_plain 143 = .ok (.invokevirtual 152, 3) := by decide +kernel
theorem dX9_plain_146 : decode cX9_plain 146 = .ok (.iinc 3 1, 3) := by decide +kernel
theorem dX9_plain_149 : decode cX9_plain 149 = .ok (.goto (-147), 3) := by decide +kernel
theorem dX9_plain_152 : decode cX9_plain 152 = .ok (.return_, 1) := by decide +kernel
set_option maxRecDepth 20000 in
theorem ggX9_dab_X9_broken : GoodIn wsX9_dab wsX9_broken := goodIn_r _ [8, 3, 25, 26, 27, 28, 29, 30, 31, 32, 33, 34, 35, 36, 37, 38, 39] (by decide +kernel) (by decide +kernel)
set_option maxRecDepth 20000 in
theorem gX9_dab_X9_broken : GoodIn wsX9_dab (wsV RX9 139 RX9 yX9_broken wsX9_broken) := goodIn_app (goodIn_of _ (by decide +kernel)) ggX9_dab_X9_broken
set_option maxRecDepth 20000 in
theorem ggX9_dab_X9_colourTone : GoodIn wsX9_dab wsX9_colourTone := goodIn_r _ [12, 13, 3, 14, 4, 5, 6, 7, 8, 15, 16, 17, 18, 19, 25, 26, 27, 28, 29, 30, 31, 32, 33, 34, 35, 36, 37, 38, 39] (by decide +kernel) (by decide +kernel)
set_option maxRecDepth 20000 in
theorem gX9_dab_X9_colourTone : GoodIn wsX9_dab (wsV RX9 196 RX9 yX9_colourTone wsX9_colourTone) := goodIn_app (goodIn_of _ (by decide +kernel)) ggX9_dab_X9_colourTone
set_option maxRecDepth 20000 in
theorem ggX9_dab_X9_set : GoodIn wsX9_dab wsX9_set := goodIn_r _ [23, 3, 24, 1, 19, 25, 26, 27, 28, 29, 30, 31, 32, 33, 34, 35, 36, 37, 38, 39] (by decide +kernel) (by decide +kernel)
set_option maxRecDepth 20000 in
theorem gX9_dab_X9_set : GoodIn wsX9_dab (wsV RX9 168 RX9 yX9_set wsX9_set) := goodIn_app (goodIn_of _ (by decide +kernel)) ggX9_dab_X9_set
theorem dX9_dab_0 : decode cX9_dab 0 = .ok (.aload_n 0, 1) := by decide +kernel
theorem dX9_dab_1 : decode cX9_dab 1 = .ok (.iload_n 1, 1) := by decide +kernel
theorem dX9_dab_2 : decode cX9_dab 2 = .ok (.aload_n 0, 1) := by decide +kernel
theorem dX9_dab_3 : decode cX9_dab 3 = .ok (.getfield 142, 3) := by decide +kernel
theorem dX9_dab_6 : decode cX9_dab 6 = .ok (.if_icmp .ge 11, 3) := by decide +kernel
theorem dX9_dab_9 : decode cX9_dab 9 = .ok (.iload_n 2, 1) := by decide +kernel
theorem dX9_dab_10 : decode cX9_dab 10 = .ok (.aload_n 0, 1) := by decide +kernel
theorem dX9_dab_11 : decode cX9_dab 11 = .ok (.getfield 162, 3) := by decide +kernel
theorem dX9_dab_14 : decode cX9_dab 14 = .ok (.if_icmp .lt 7, 3) := by decide +kernel
theorem dX9_dab_17 : decode cX9_dab 17 = .ok (.iconst 1, 1) := by decide +kernel
theorem dX9_dab_18 : decode cX9_dab 18 = .ok (.goto 4, 3) := by decide +kernel
theorem dX9_dab_21 : decode cX9_dab 21 = .ok (.iconst 0, 1) := by decide +kernel
theorem dX9_dab_22 : decode cX9_dab 22 = .ok (.invokevirtual 139, 3) := by decide +kernel
theorem dX9_dab_25 : decode cX9_dab 25 = .ok (.aload_n 0, 1) := by decide +kernel
theorem dX9_dab_26 : decode cX9_dab 26 = .ok (.iload_n 3, 1) := by decide +kernel
theorem dX9_dab_27 : decode cX9_dab 27 = .ok (.invokevirtual 196, 3) := by decide +kernel
theorem dX9_dab_30 : decode cX9_dab 30 = .ok (.aload_n 0, 1) := by decide +kernel
theorem dX9_dab_31 : decode cX9_dab 31 = .ok (.getfield 129, 3) := by decide +kernel
theorem dX9_dab_34 : decode cX9_dab 34 = .ok (.ifCond .ne 22, 3) := by decide +kernel
theorem dX9_dab_37 : decode cX9_dab 37 = .ok (.aload_n 0, 1) := by decide +kernel
theorem dX9_dab_38 : decode cX9_dab 38 = .ok (.aload_n 0, 1) := by decide +kernel
theorem dX9_dab_39 : decode cX9_dab 39 = .ok (.getfield 142, 3) := by decide +kernel
theorem dX9_dab_42 : decode cX9_dab 42 = .ok (.aload_n 0, 1) := by decide +kernel
theorem dX9_dab_43 : decode cX9_dab 43 = .ok (.getfield 162, 3) := by decide +kernel
theorem dX9_dab_46 : decode cX9_dab 46 = .ok (.iconst 1, 1) := by decide +kernel
theorem dX9_dab_47 : decode cX9_dab 47 = .ok (.isub, 1) := by decide +kernel
theorem dX9_dab_48 : decode cX9_dab 48 = .ok (.iload_n 2, 1) := by decide +kernel
theorem dX9_dab_49 : decode cX9_dab 49 = .ok (.isub, 1) := by decide +kernel
theorem dX9_dab_50 : decode cX9_dab 50 = .ok (.imul, 1) := by decide +kernel
theorem dX9_dab_51 : decode cX9_dab 51 = .ok (.iload_n 1, 1) := by decide +kernel
theorem dX9_dab_52 : decode cX9_dab 52 = .ok (.iadd, 1) := by decide +kernel
theorem dX9_dab_53 : decode cX9_dab 53 = .ok (.invokevirtual 168, 3) := by decide +kernel
theorem dX9_dab_56 : decode cX9_dab 56 = .ok (.return_, 1) := by decide +kernel
set_option maxRecDepth 20000 in
theorem ggX9_pieces_X9_dab : GoodIn wsX9_pieces wsX9_dab := goodIn_r _ [9, 3, 1, 2, 10, 11, 12, 8, 13, 14, 15, 16, 17, 4, 18, 19, 20, 21, 22, 23, 24, 25, 26, 27, 28, 40, 41, 42, 43, 44, 45, 46, 47, 48, 49, 50, 51, 52, 53, 54] (by decide +kernel) (by decide +kernel)
set_option maxRecDepth 20000 in
theorem gX9_pieces_X9_dab : GoodIn wsX9_pieces (wsV RX9 199 RX9 yX9_dab wsX9_dab) := goodIn_app (goodIn_of _ (by decide +kernel)) ggX9_pieces_X9_dab
set_option maxRecDepth 20000 in
theorem ggX9_pieces_X9_next : GoodIn wsX9_pieces wsX9_next := goodIn_r _ [32, 2, 33, 34, 35, 40, 41, 42, 43, 44, 45, 46, 47, 48, 49, 50, 51, 52, 53, 54] (by decide +kernel) (by decide +kernel)
set_option maxRecDepth 20000 in
theorem gX9_pieces_X9_next : GoodIn wsX9_pieces (wsV RX9 135 RX9 yX9_next wsX9_next) := goodIn_app (goodIn_of _ (by decide +kernel)) ggX9_pieces_X9_next
set_option maxRecDepth 20000 in
theorem ggX9_pieces_X9_broken : GoodIn wsX9_pieces wsX9_broken := goodIn_r _ [13, 2, 40, 41, 42, 43, 44, 45, 46, 47, 48, 49, 50, 51, 52, 53, 54] (by decide +kernel) (by decide +kernel)
set_option maxRecDepth 20000 in
theorem gX9_pieces_X9_broken : GoodIn wsX9_pieces (wsV RX9 139 RX9 yX9_broken wsX9_broken) := goodIn_app (goodIn_of _ (by decide +kernel)) ggX9_pieces_X9_broken
set_option maxRecDepth 20000 in
theorem ggX9_pieces_X9_skip : GoodIn wsX9_pieces wsX9_skip := goodIn_r _ [39, 2, 29, 30, 31, 8, 32, 33, 34, 35, 40, 41, 42, 43, 44, 45, 46, 47, 48, 49, 50, 51, 52, 53, 54] (by decide +kernel) (by decide +kernel)
set_option maxRecDepth 20000 in
theorem gX9_pieces_X9_skip : GoodIn wsX9_pieces (wsV RX9 152 RX9 yX9_skip wsX9_skip) := goodIn_app (goodIn_of _ (by decide +kernel)) ggX9_pieces_X9_skip
theorem dX9_pieces_0 : decode cX9_pieces 0 = .ok (.iconst 0, 1) := by decide +kernel
theorem dX9_pieces_1 : decode cX9_pieces 1 = .ok (.istore_n 1, 1) := by decide +kernel
theorem dX9_pieces_2 : decode cX9_pieces 2 = .ok (.iload_n 1, 1) := by decide +kernel
theorem dX9_pieces_3 : decode cX9_pieces 3 = .ok (.aload_n 0, 1) := by decide +kernel
theorem dX9_pieces_4 : decode cX9_pieces 4 = .ok (.getfield 162, 3) := by decide +kernel
theorem dX9_pieces_7 : decode cX9_pieces 7 = .ok (.if_icmp .ge 39, 3) := by decide +kernel
theorem dX9_pieces_10 : decode cX9_pieces 10 = .ok (.aload_n 0, 1) := by decide +kernel
theorem dX9_pieces_11 : decode cX9_pieces 11 = .ok (.getfield 129, 3) := by decide +kernel
theorem dX9_pieces_14 : decode cX9_pieces 14 = .ok (.ifCond .ne 32, 3) := by decide +kernel
theorem dX9_pieces_17 : decode cX9_pieces 17 = .ok (.iconst 0, 1) := by decide +kernel
theorem dX9_pieces_18 : decode cX9_pieces 18 = .ok (.istore_n 2, 1) := by decide +kernel
theorem dX9_pieces_19 : decode cX9_pieces 19 = .ok (.iload_n 2, 1) := by decide +kernel
theorem dX9_pieces_20 : decode cX9_pieces 20 = .ok (.aload_n 0, 1) := by decide +kernel
theorem dX9_pieces_21 : decode cX9_pieces 21 = .ok (.getfield 142, 3) := by decide +kernel
theorem dX9_pieces_24 : decode cX9_pieces 24 = .ok (.if_icmp .ge 16, 3) := by decide +kernel
theorem dX9_pieces_27 : decode cX9_pieces 27 = .ok (.aload_n 0, 1) := by decide +kernel
theorem dX9_pieces_28 : decode cX9_pieces 28 = .ok (.iload_n 2, 1) := by decide +kernel
theorem dX9_pieces_29 : decode cX9_pieces 29 = .ok (.iload_n 1, 1) := by decide +kernel
theorem dX9_pieces_30 : decode cX9_pieces 30 = .ok (.iconst 0, 1) := by decide +kernel
theorem dX9_pieces_31 : decode cX9_pieces 31 = .ok (.invokevirtual 199, 3) := by decide +kernel
theorem dX9_pieces_34 : decode cX9_pieces 34 = .ok (.iinc 2 1, 3) := by decide +kernel
theorem dX9_pieces_37 : decode cX9_pieces 37 = .ok (.goto (-18), 3) := by decide +kernel
theorem dX9_pieces_40 : decode cX9_pieces 40 = .ok (.iinc 1 1, 3) := by decide +kernel
theorem dX9_pieces_43 : decode cX9_pieces 43 = .ok (.goto (-41), 3) := by decide +kernel
theorem dX9_pieces_46 : decode cX9_pieces 46 = .ok (.iconst 0, 1) := by decide +kernel
theorem dX9_pieces_47 : decode cX9_pieces 47 = .ok (.istore_n 1, 1) := by decide +kernel
theorem dX9_pieces_48 : decode cX9_pieces 48 = .ok (.iconst 0, 1) := by decide +kernel
theorem dX9_pieces_49 : decode cX9_pieces 49 = .ok (.istore_n 2, 1) := by decide +kernel
theorem dX9_pieces_50 : decode cX9_pieces 50 = .ok (.iconst 1, 1) := by decide +kernel
theorem dX9_pieces_51 : decode cX9_pieces 51 = .ok (.istore_n 3, 1) := by decide +kernel
theorem dX9_pieces_52 : decode cX9_pieces 52 = .ok (.iload_n 3, 1) := by decide +kernel
theorem dX9_pieces_53 : decode cX9_pieces 53 = .ok (.ifCond .eq 247, 3) := by decide +kernel
theorem dX9_pieces_56 : decode cX9_pieces 56 = .ok (.aload_n 0, 1) := by decide +kernel
theorem dX9_pieces_57 : decode cX9_pieces 57 = .ok (.getfield 129, 3) := by decide +kernel
theorem dX9_pieces_60 : decode cX9_pieces 60 = .ok (.ifCond .ne 240, 3) := by decide +kernel
theorem dX9_pieces_63 : decode cX9_pieces 63 = .ok (.aload_n 0, 1) := by decide +kernel
theorem dX9_pieces_64 : decode cX9_pieces 64 = .ok (.invokevirtual 135, 3) := by decide +kernel
theorem dX9_pieces_67 : decode cX9_pieces 67 = .ok (.istore 4, 2) := by decide +kernel
theorem dX9_pieces_69 : decode cX9_pieces 69 = .ok (.aload_n 0, 1) := by decide +kernel
theorem dX9_pieces_70 : decode cX9_pieces 70 = .ok (.invokevirtual 135, 3) := by decide +kernel
theorem dX9_pieces_73 : decode cX9_pieces 73 = .ok (.istore 5, 2) := by decide +kernel
theorem dX9_pieces_75 : decode cX9_pieces 75 = .ok (.iload 4, 2) := by decide +kernel
theorem dX9_pieces_77 : decode cX9_pieces 77 = .ok (.ifCond .le 83, 3) := by decide +kernel
theorem dX9_pieces_80 : decode cX9_pieces 80 = .ok (.aload_n 0, 1) := by decide +kernel
theorem dX9_pieces_81 : decode cX9_pieces 81 = .ok (.iload_n 1, 1) := by decide +kernel
theorem dX9_pieces_82 : decode cX9_pieces 82 = .ok (.iload 4, 2) := by decide +kernel
theorem dX9_pieces_84 : decode cX9_pieces 84 = .ok (.iadd, 1) := by decide +kernel
theorem dX9_pieces_85 : decode cX9_pieces 85 = .ok (.aload_n 0, 1) := by decide +kernel
theorem dX9_pieces_86 : decode cX9_pieces 86 = .ok (.getfield 142, 3) := by decide +kernel
theorem dX9_pieces_89 : decode cX9_pieces 89 = .ok (.if_icmp .le 7, 3) := by decide +kernel
theorem dX9_pieces_92 : decode cX9_pieces 92 = .ok (.iconst 1, 1) := by decide +kernel
theorem dX9_pieces_93 : decode cX9_pieces 93 = .ok (.goto 4, 3) := by decide +kernel
theorem dX9_pieces_96 : decode cX9_pieces 96 = .ok (.iconst 0, 1) := by decide +kernel
theorem dX9_pieces_97 : decode cX9_pieces 97 = .ok (.invokevirtual 139, 3) := by decide +kernel
theorem dX9_pieces_100 : decode cX9_pieces 100 = .ok (.aload_n 0, 1) := by decide +kernel
theorem dX9_pieces_101 : decode cX9_pieces 101 = .ok (.iload 5, 2) := by decide +kernel
theorem dX9_pieces_103 : decode cX9_pieces 103 = .ok (.aload_n 0, 1) := by decide +kernel
theorem dX9_pieces_104 : decode cX9_pieces 104 = .ok (.getfield 186, 3) := by decide +kernel
theorem dX9_pieces_107 : decode cX9_pieces 107 = .ok (.if_icmp .lt 7, 3) := by decide +kernel
theorem dX9_pieces_110 : decode cX9_pieces 110 = .ok (.iconst 1, 1) := by decide +kernel
theorem dX9_pieces_111 : decode cX9_pieces 111 = .ok (.goto 4, 3) := by decide +kernel
theorem dX9_pieces_114 : decode cX9_pieces 114 = .ok (.iconst 0, 1) := by decide +kernel
theorem dX9_pieces_115 : decode cX9_pieces 115 = .ok (.invokevirtual 139, 3) := by decide +kernel
theorem dX9_pieces_118 : decode cX9_pieces 118 = .ok (.iconst 0, 1) := by decide +kernel
theorem dX9_pieces_119 : decode cX9_pieces 119 = .ok (.istore 6, 2) := by decide +kernel
theorem dX9_pieces_121 : decode cX9_pieces 121 = .ok (.iload 6, 2) := by decide +kernel
theorem dX9_pieces_123 : decode cX9_pieces 123 = .ok (.iload 4, 2) := by decide +kernel
theorem dX9_pieces_125 : decode cX9_pieces 125 = .ok (.if_icmp .ge 27, 3) := by decide +kernel
theorem dX9_pieces_128 : decode cX9_pieces 128 = .ok (.aload_n 0, 1) := by decide +kernel
theorem dX9_pieces_129 : decode cX9_pieces 129 = .ok (.getfield 129, 3) := by decide +kernel
theorem dX9_pieces_132 : decode cX9_pieces 132 = .ok (.ifCond .ne 20, 3) := by decide +kernel
theorem dX9_pieces_135 : decode cX9_pieces 135 = .ok (.aload_n 0, 1) := by decide +kernel
theorem dX9_pieces_136 : decode cX9_pieces 136 = .ok (.iload_n 1, 1) := by decide +kernel
theorem dX9_pieces_137 : decode cX9_pieces 137 = .ok (.iload 6, 2) := by decide +kernel
theorem dX9_pieces_139 : decode cX9_pieces 139 = .ok (.iadd, 1) := by decide +kernel
theorem dX9_pieces_140 : decode cX9_pieces 140 = .ok (.iload_n 2, 1) := by decide +kernel
theorem dX9_pieces_141 : decode cX9_pieces 141 = .ok (.iload 5, 2) := by decide +kernel
theorem dX9_pieces_143 : decode cX9_pieces 143 = .ok (.invokevirtual 199, 3) := by decide +kernel
theorem dX9_pieces_146 : decode cX9_pieces 146 = .ok (.iinc 6 1, 3) := by decide +kernel
theorem dX9_pieces_149 : decode cX9_pieces 149 = .ok (.goto (-28), 3) := by decide +kernel
theorem dX9_pieces_152 : decode cX9_pieces 152 = .ok (.iload_n 1, 1) := by decide +kernel
theorem dX9_pieces_153 : decode cX9_pieces 153 = .ok (.iload 4, 2) := by decide +kernel
theorem dX9_pieces_155 : decode cX9_pieces 155 = .ok (.iadd, 1) := by decide +kernel
theorem dX9_pieces_156 : decode cX9_pieces 156 = .ok (.istore_n 1, 1) := by decide +kernel
theorem dX9_pieces_157 : decode cX9_pieces 157 = .ok (.goto 115, 3) := by decide +kernel
theorem dX9_pieces_160 : decode cX9_pieces 160 = .ok (.iload 5, 2) := by decide +kernel
theorem dX9_pieces_162 : decode cX9_pieces 162 = .ok (.ifCond .ne 12, 3) := by decide +kernel
theorem dX9_pieces_165 : decode cX9_pieces 165 = .ok (.iconst 0, 1) := by decide +kernel
theorem dX9_pieces_166 : decode cX9_pieces 166 = .ok (.istore_n 1, 1) := by decide +kernel
theorem dX9_pieces_167 : decode cX9_pieces 167 = .ok (.iload_n 2, 1) := by decide +kernel
theorem dX9_pieces_168 : decode cX9_pieces 168 = .ok (.iconst 1, 1) := by decide +kernel
theorem dX9_pieces_169 : decode cX9_pieces 169 = .ok (.iadd, 1) := by decide +kernel
theorem dX9_pieces_170 : decode cX9_pieces 170 = .ok (.istore_n 2, 1) := by decide +kernel
theorem dX9_pieces_171 : decode cX9_pieces 171 = .ok (.goto 101, 3) := by decide +kernel
theorem dX9_pieces_174 : decode cX9_pieces 174 = .ok (.iload 5, 2) := by decide +kernel
theorem dX9_pieces_176 : decode cX9_pieces 176 = .ok (.iconst 1, 1) := by decide +kernel
theorem dX9_pieces_177 : decode cX9_pieces 177 = .ok (.if_icmp .ne 19, 3) := by decide +kernel
theorem dX9_pieces_180 : decode cX9_pieces 180 = .ok (.aload_n 0, 1) := by decide +kernel
theorem dX9_pieces_181 : decode cX9_pieces 181 = .ok (.getfield 129, 3) := by decide +kernel
theorem dX9_pieces_184 : decode cX9_pieces 184 = .ok (.ifCond .eq 7, 3) := by decide +kernel
theorem dX9_pieces_187 : decode cX9_pieces 187 = .ok (.iconst 1, 1) := by decide +kernel
theorem dX9_pieces_188 : decode cX9_pieces 188 = .ok (.goto 4, 3) := by decide +kernel
theorem dX9_pieces_191 : decode cX9_pieces 191 = .ok (.iconst 0, 1) := by decide +kernel
theorem dX9_pieces_192 : decode cX9_pieces 192 = .ok (.istore_n 3, 1) := by decide +kernel
theorem dX9_pieces_193 : decode cX9_pieces 193 = .ok (.goto 79, 3) := by decide +kernel
theorem dX9_pieces_196 : decode cX9_pieces 196 = .ok (.iload 5, 2) := by decide +kernel
theorem dX9_pieces_198 : decode cX9_pieces 198 = .ok (.iconst 2, 1) := by decide +kernel
theorem dX9_pieces_199 : decode cX9_pieces 199 = .ok (.if_icmp .ne 20, 3) := by decide +kernel
theorem dX9_pieces_202 : decode cX9_pieces 202 = .ok (.iload_n 1, 1) := by decide +kernel
theorem dX9_pieces_203 : decode cX9_pieces 203 = .ok (.aload_n 0, 1) := by decide +kernel
theorem dX9_pieces_204 : decode cX9_pieces 204 = .ok (.invokevirtual 135, 3) := by decide +kernel
theorem dX9_pieces_207 : decode cX9_pieces 207 = .ok (.iadd, 1) := by decide +kernel
theorem dX9_pieces_208 : decode cX9_pieces 208 = .ok (.istore_n 1, 1) := by decide +kernel
theorem dX9_pieces_209 : decode cX9_pieces 209 = .ok (.iload_n 2, 1) := by decide +kernel
theorem dX9_pieces_210 : decode cX9_pieces 210 = .ok (.aload_n 0, 1) := by decide +kernel
theorem dX9_pieces_211 : decode cX9_pieces 211 = .ok (.invokevirtual 135, 3) := by decide +kernel
theorem dX9_pieces_214 : decode cX9_pieces 214 = .ok (.iadd, 1) := by decide +kernel
theorem dX9_pieces_215 : decode cX9_pieces 215 = .ok (.istore_n 2, 1) := by decide +kernel
theorem dX9_pieces_216 : decode cX9_pieces 216 = .ok (.goto 56, 3) := by decide +kernel
theorem dX9_pieces_219 : decode cX9_pieces 219 = .ok (.iconst 0, 1) := by decide +kernel
theorem dX9_pieces_220 : decode cX9_pieces 220 = .ok (.istore 6, 2) := by decide +kernel
theorem dX9_pieces_222 : decode cX9_pieces 222 = .ok (.iload 6, 2) := by decide +kernel
theorem dX9_pieces_224 : decode cX9_pieces 224 = .ok (.iload 5, 2) := by decide +kernel
theorem dX9_pieces_226 : decode cX9_pieces 226 = .ok (.if_icmp .ge 33, 3) := by decide +kernel
theorem dX9_pieces_229 : decode cX9_pieces 229 = .ok (.aload_n 0, 1) := by decide +kernel
theorem dX9_pieces_230 : decode cX9_pieces 230 = .ok (.getfield 129, 3) := by decide +kernel
theorem dX9_pieces_233 : decode cX9_pieces 233 = .ok (.ifCond .ne 26, 3) := by decide +kernel
theorem dX9_pieces_236 : decode cX9_pieces 236 = .ok (.aload_n 0, 1) := by decide +kernel
theorem dX9_pieces_237 : decode cX9_pieces 237 = .ok (.invokevirtual 135, 3) := by decide +kernel
theorem dX9_pieces_240 : decode cX9_pieces 240 = .ok (.istore 7, 2) := by decide +kernel
theorem dX9_pieces_242 : decode cX9_pieces 242 = .ok (.aload_n 0, 1) := by decide +kernel
theorem dX9_pieces_243 : decode cX9_pieces 243 = .ok (.iload_n 1, 1) := by decide +kernel
theorem dX9_pieces_244 : decode cX9_pieces 244 = .ok (.iload 6, 2) := by decide +kernel
theorem dX9_pieces_246 : decode cX9_pieces 246 = .ok (.iadd, 1) := by decide +kernel
theorem dX9_pieces_247 : decode cX9_pieces 247 = .ok (.iload_n 2, 1) := by decide +kernel
theorem dX9_pieces_248 : decode cX9_pieces 248 = .ok (.iload 7, 2) := by decide +kernel
theorem dX9_pieces_250 : decode cX9_pieces 250 = .ok (.invokevirtual 199, 3) := by decide +kernel
theorem dX9_pieces_253 : decode cX9_pieces 253 = .ok (.iinc 6 1, 3) := by decide +kernel
theorem dX9_pieces_256 : decode cX9_pieces 256 = .ok (.goto (-34), 3) := by decide +kernel
theorem dX9_pieces_259 : decode cX9_pieces 259 = .ok (.iload_n 1, 1) := by decide +kernel
theorem dX9_pieces_260 : decode cX9_pieces 260 = .ok (.iload 5, 2) := by decide +kernel
theorem dX9_pieces_262 : decode cX9_pieces 262 = .ok (.iadd, 1) := by decide +kernel
theorem dX9_pieces_263 : decode cX9_pieces 263 = .ok (.istore_n 1, 1) := by decide +kernel
theorem dX9_pieces_264 : decode cX9_pieces 264 = .ok (.aload_n 0, 1) := by decide +kernel
theorem dX9_pieces_265 : decode cX9_pieces 265 = .ok (.iload 5, 2) := by decide +kernel
theorem dX9_pieces_267 : decode cX9_pieces 267 = .ok (.iconst 2, 1) := by decide +kernel
theorem dX9_pieces_268 : decode cX9_pieces 268 = .ok (.irem, 1) := by decide +kernel
theorem dX9_pieces_269 : decode cX9_pieces 269 = .ok (.invokevirtual 152, 3) := by decide +kernel
theorem dX9_pieces_272 : decode cX9_pieces 272 = .ok (.aload_n 0, 1) := by decide +kernel
theorem dX9_pieces_273 : decode cX9_pieces 273 = .ok (.iload_n 1, 1) := by decide +kernel
theorem dX9_pieces_274 : decode cX9_pieces 274 = .ok (.aload_n 0, 1) := by decide +kernel
theorem dX9_pieces_275 : decode cX9_pieces 275 = .ok (.getfield 142, 3) := by decide +kernel
theorem dX9_pieces_278 : decode cX9_pieces 278 = .ok (.if_icmp .gt 11, 3) := by decide +kernel
theorem dX9_pieces_281 : decode cX9_pieces 281 = .ok (.iload_n 2, 1) := by decide +kernel
theorem dX9_pieces_282 : decode cX9_pieces 282 = .ok (.aload_n 0, 1) := by decide +kernel
theorem dX9_pieces_283 : decode cX9_pieces 283 = .ok (.getfield 162, 3) := by decide +kernel
theorem dX9_pieces_286 : decode cX9_pieces 286 = .ok (.if_icmp .le 7, 3) := by decide +kernel
theorem dX9_pieces_289 : decode cX9_pieces 289 = .ok (.iconst 1, 1) := by decide +kernel
theorem dX9_pieces_290 : decode cX9_pieces 290 = .ok (.goto 4, 3) := by decide +kernel
theorem dX9_pieces_293 : decode cX9_pieces 293 = .ok (.iconst 0, 1) := by decide +kernel
theorem dX9_pieces_294 : decode cX9_pieces 294 = .ok (.invokevirtual 139, 3) := by decide +kernel
theorem dX9_pieces_297 : decode cX9_pieces 297 = .ok (.goto (-245), 3) := by decide +kernel
theorem dX9_pieces_300 : decode cX9_pieces 300 = .ok (.return_, 1) := by decide +kernel
set_option maxRecDepth 20000 in
theorem ggX9_readFourth_X9_next : GoodIn wsX9_readFourth wsX9_next := goodIn_r _ [8, 3, 9, 10, 11, 45, 46, 47, 48, 49, 50, 51, 52, 53, 54, 55, 56, 57, 58, 59] (by decide +kernel) (by decide +kernel)
set_option maxRecDepth 20000 in
theorem gX9_readFourth_X9_next : GoodIn wsX9_readFourth (wsV RX9 135 RX9 yX9_next wsX9_next) := goodIn_app (goodIn_of _ (by decide +kernel)) ggX9_readFourth_X9_next
set_option maxRecDepth 20000 in
theorem ggX9_readFourth_X9_skip : GoodIn wsX9_readFourth wsX9_skip := goodIn_r _ [15, 3, 4, 5, 6, 7, 8, 9, 10, 11, 45, 46, 47, 48, 49, 50, 51, 52, 53, 54, 55, 56, 57, 58, 59] (by decide +kernel) (by decide +kernel)
set_option maxRecDepth 20000 in
theorem gX9_readFourth_X9_skip : GoodIn wsX9_readFourth (wsV RX9 152 RX9 yX9_skip wsX9_skip) := goodIn_app (goodIn_of _ (by decide +kernel)) ggX9_readFourth_X9_skip
set_option maxRecDepth 20000 in
theorem ggX9_readFourth_X9_number : GoodIn wsX9_readFourth wsX9_number := goodIn_r _ [19, 4, 5, 6, 7, 8, 3, 9, 10, 11, 45, 46, 47, 48, 49, 50, 51, 52, 53, 54, 55, 56, 57, 58, 59] (by decide +kernel) (by decide +kernel)
set_option maxRecDepth 20000 in
theorem gX9_readFourth_X9_number : GoodIn wsX9_readFourth (wsV RX9 155 RX9 yX9_number wsX9_number) := goodIn_app (goodIn_of _ (by decide +kernel)) ggX9_readFourth_X9_number
set_option maxRecDepth 20000 in
theorem ggX9_readFourth_X9_sideOf : GoodIn wsX9_readFourth wsX9_sideOf := goodIn_r _ [23, 24, 25, 7, 26, 27, 28, 29, 30, 3, 45, 46, 47, 48, 49, 50, 51, 52, 53, 54, 55, 56, 57, 58, 59] (by decide +kernel) (by decide +kernel)
set_option maxRecDepth 20000 in
theorem gX9_readFourth_X9_sideOf : GoodIn wsX9_readFourth (wsV RX9 159 RX9 yX9_sideOf wsX9_sideOf) := goodIn_app (goodIn_of _ (by decide +kernel)) ggX9_readFourth_X9_sideOf
set_option maxRecDepth 20000 in
theorem ggX9_readFourth_X9_broken : GoodIn wsX9_readFourth wsX9_broken := goodIn_r _ [30, 3, 45, 46, 47, 48, 49, 50, 51, 52, 53, 54, 55, 56, 57, 58, 59] (by decide +kernel) (by decide +kernel)
set_option maxRecDepth 20000 in
theorem gX9_readFourth_X9_broken : GoodIn wsX9_readFourth (wsV RX9 139 RX9 yX9_broken wsX9_broken) := goodIn_app (goodIn_of _ (by decide +kernel)) ggX9_readFourth_X9_broken
set_option maxRecDepth 20000 in
theorem ggX9_readFourth_X9_sample : GoodIn wsX9_readFourth wsX9_sample := goodIn_r _ [34, 4, 5, 6, 7, 8, 3, 9, 10, 11, 35, 36, 37, 38, 39, 45, 46, 47, 48, 49, 50, 51, 52, 53, 54, 55, 56, 57, 58, 59] (by decide +kernel) (by decide +kernel)
set_option maxRecDepth 20000 in
theorem gX9_readFourth_X9_sample : GoodIn wsX9_readFourth (wsV RX9 202 RX9 yX9_sample wsX9_sample) := goodIn_app (goodIn_of _ (by decide +kernel)) ggX9_readFourth_X9_sample
set_option maxRecDepth 20000 in
theorem ggX9_readFourth_X9_set : GoodIn wsX9_readFourth wsX9_set := goodIn_r _ [43, 3, 44, 1, 39, 45, 46, 47, 48, 49, 50, 51, 52, 53, 54, 55, 56, 57, 58, 59] (by decide +kernel) (by decide +kernel)
set_option maxRecDepth 20000 in
theorem gX9_readFourth_X9_set : GoodIn wsX9_readFourth (wsV RX9 168 RX9 yX9_set wsX9_set) := goodIn_app (goodIn_of _ (by decide +kernel)) ggX9_readFourth_X9_set
theorem dX9_readFourth_0 : decode cX9_readFourth 0 = .ok (.aload_n 0, 1) := by decide +kernel
theorem dX9_readFourth_1 : decode cX9_readFourth 1 = .ok (.invokevirtual 135, 3) := by decide +kernel
theorem dX9_readFourth_4 : decode cX9_readFourth 4 = .ok (.istore_n 1, 1) := by decide +kernel
theorem dX9_readFourth_5 : decode cX9_readFourth 5 = .ok (.aload_n 0, 1) := by decide +kernel
theorem dX9_readFourth_6 : decode cX9_readFourth 6 = .ok (.invokevirtual 135, 3) := by decide +kernel
theorem dX9_readFourth_9 : decode cX9_readFourth 9 = .ok (.pop, 1) := by decide +kernel
theorem dX9_readFourth_10 : decode cX9_readFourth 10 = .ok (.aload_n 0, 1) := by decide +kernel
theorem dX9_readFourth_11 : decode cX9_readFourth 11 = .ok (.invokevirtual 135, 3) := by decide +kernel
theorem dX9_readFourth_14 : decode cX9_readFourth 14 = .ok (.istore_n 2, 1) := by decide +kernel
theorem dX9_readFourth_15 : decode cX9_readFourth 15 = .ok (.aload_n 0, 1) := by decide +kernel
theorem dX9_readFourth_16 : decode cX9_readFourth 16 = .ok (.bipush 9, 2) := by decide +kernel
theorem dX9_readFourth_18 : decode cX9_readFourth 18 = .ok (.invokevirtual 152, 3) := by decide +kernel
theorem dX9_readFourth_21 : decode cX9_readFourth 21 = .ok (.aload_n 0, 1) := by decide +kernel
theorem dX9_readFourth_22 : decode cX9_readFourth 22 = .ok (.aload_n 0, 1) := by decide +kernel
theorem dX9_readFourth_23 : decode cX9_readFourth 23 = .ok (.aload_n 0, 1) := by decide +kernel
theorem dX9_readFourth_24 : decode cX9_readFourth 24 = .ok (.iconst 2, 1) := by decide +kernel
theorem dX9_readFourth_25 : decode cX9_readFourth 25 = .ok (.iconst 0, 1) := by decide +kernel
theorem dX9_readFourth_26 : decode cX9_readFourth 26 = .ok (.invokevirtual 155, 3) := by decide +kernel
theorem dX9_readFourth_29 : decode cX9_readFourth 29 = .ok (.invokevirtual 159, 3) := by decide +kernel
theorem dX9_readFourth_32 : decode cX9_readFourth 32 = .ok (.putfield 142, 3) := by decide +kernel
theorem dX9_readFourth_35 : decode cX9_readFourth 35 = .ok (.aload_n 0, 1) := by decide +kernel
theorem dX9_readFourth_36 : decode cX9_readFourth 36 = .ok (.aload_n 0, 1) := by decide +kernel
theorem dX9_readFourth_37 : decode cX9_readFourth 37 = .ok (.aload_n 0, 1) := by decide +kernel
theorem dX9_readFourth_38 : decode cX9_readFourth 38 = .ok (.iconst 2, 1) := by decide +kernel
theorem dX9_readFourth_39 : decode cX9_readFourth 39 = .ok (.iconst 0, 1) := by decide +kernel
theorem dX9_readFourth_40 : decode cX9_readFourth 40 = .ok (.invokevirtual 155, 3) := by decide +kernel
theorem dX9_readFourth_43 : decode cX9_readFourth 43 = .ok (.invokevirtual 159, 3) := by decide +kernel
theorem dX9_readFourth_46 : decode cX9_readFourth 46 = .ok (.putfield 162, 3) := by decide +kernel
theorem dX9_readFourth_49 : decode cX9_readFourth 49 = .ok (.aload_n 0, 1) := by decide +kernel
theorem dX9_readFourth_50 : decode cX9_readFourth 50 = .ok (.invokevirtual 135, 3) := by decide +kernel
theorem dX9_readFourth_53 : decode cX9_readFourth 53 = .ok (.bipush 8, 2) := by decide +kernel
theorem dX9_readFourth_55 : decode cX9_readFourth 55 = .ok (.idiv, 1) := by decide +kernel
theorem dX9_readFourth_56 : decode cX9_readFourth 56 = .ok (.istore_n 3, 1) := by decide +kernel
theorem dX9_readFourth_57 : decode cX9_readFourth 57 = .ok (.aload_n 0, 1) := by decide +kernel
theorem dX9_readFourth_58 : decode cX9_readFourth 58 = .ok (.invokevirtual 135, 3) := by decide +kernel
theorem dX9_readFourth_61 : decode cX9_readFourth 61 = .ok (.istore 4, 2) := by decide +kernel
theorem dX9_readFourth_63 : decode cX9_readFourth 63 = .ok (.aload_n 0, 1) := by decide +kernel
theorem dX9_readFourth_64 : decode cX9_readFourth 64 = .ok (.iload 4, 2) := by decide +kernel
theorem dX9_readFourth_66 : decode cX9_readFourth 66 = .ok (.bipush 16, 2) := by decide +kernel
theorem dX9_readFourth_68 : decode cX9_readFourth 68 = .ok (.irem, 1) := by decide +kernel
theorem dX9_readFourth_69 : decode cX9_readFourth 69 = .ok (.iload_n 3, 1) := by decide +kernel
theorem dX9_readFourth_70 : decode cX9_readFourth 70 = .ok (.iconst 4, 1) := by decide +kernel
theorem dX9_readFourth_71 : decode cX9_readFourth 71 = .ok (.if_icmp .ne 8, 3) := by decide +kernel
theorem dX9_readFourth_74 : decode cX9_readFourth 74 = .ok (.bipush 8, 2) := by decide +kernel
theorem dX9_readFourth_76 : decode cX9_readFourth 76 = .ok (.goto 4, 3) := by decide +kernel
theorem dX9_readFourth_79 : decode cX9_readFourth 79 = .ok (.iconst 0, 1) := by decide +kernel
theorem dX9_readFourth_80 : decode cX9_readFourth 80 = .ok (.if_icmp .ne 10, 3) := by decide +kernel
theorem dX9_readFourth_83 : decode cX9_readFourth 83 = .ok (.iload 4, 2) := by decide +kernel
theorem dX9_readFourth_85 : decode cX9_readFourth 85 = .ok (.bipush 63, 2) := by decide +kernel
theorem dX9_readFourth_87 : decode cX9_readFourth 87 = .ok (.if_icmp .le 7, 3) := by decide +kernel
theorem dX9_readFourth_90 : decode cX9_readFourth 90 = .ok (.iconst 1, 1) := by decide +kernel
theorem dX9_readFourth_91 : decode cX9_readFourth 91 = .ok (.goto 4, 3) := by decide +kernel
theorem dX9_readFourth_94 : decode cX9_readFourth 94 = .ok (.iconst 0, 1) := by decide +kernel
theorem dX9_readFourth_95 : decode cX9_readFourth 95 = .ok (.invokevirtual 139, 3) := by decide +kernel
theorem dX9_readFourth_98 : decode cX9_readFourth 98 = .ok (.aload_n 0, 1) := by decide +kernel
theorem dX9_readFourth_99 : decode cX9_readFourth 99 = .ok (.iload_n 1, 1) := by decide +kernel
theorem dX9_readFourth_100 : decode cX9_readFourth 100 = .ok (.invokevirtual 152, 3) := by decide +kernel
theorem dX9_readFourth_103 : decode cX9_readFourth 103 = .ok (.aload_n 0, 1) := by decide +kernel
theorem dX9_readFourth_104 : decode cX9_readFourth 104 = .ok (.getfield 142, 3) := by decide +kernel
theorem dX9_readFourth_107 : decode cX9_readFourth 107 = .ok (.aload_n 0, 1) := by decide +kernel
theorem dX9_readFourth_108 : decode cX9_readFourth 108 = .ok (.getfield 162, 3) := by decide +kernel
theorem dX9_readFourth_111 : decode cX9_readFourth 111 = .ok (.imul, 1) := by decide +kernel
theorem dX9_readFourth_112 : decode cX9_readFourth 112 = .ok (.istore 5, 2) := by decide +kernel
theorem dX9_readFourth_114 : decode cX9_readFourth 114 = .ok (.iconst 0, 1) := by decide +kernel
theorem dX9_readFourth_115 : decode cX9_readFourth 115 = .ok (.istore 6, 2) := by decide +kernel
theorem dX9_readFourth_117 : decode cX9_readFourth 117 = .ok (.aload_n 0, 1) := by decide +kernel
theorem dX9_readFourth_118 : decode cX9_readFourth 118 = .ok (.getfield 129, 3) := by decide +kernel
theorem dX9_readFourth_121 : decode cX9_readFourth 121 = .ok (.ifCond .ne 203, 3) := by decide +kernel
theorem dX9_readFourth_124 : decode cX9_readFourth 124 = .ok (.iload 6, 2) := by decide +kernel
theorem dX9_readFourth_126 : decode cX9_readFourth 126 = .ok (.iload 5, 2) := by decide +kernel
theorem dX9_readFourth_128 : decode cX9_readFourth 128 = .ok (.if_icmp .ge 196, 3) := by decide +kernel
theorem dX9_readFourth_131 : decode cX9_readFourth 131 = .ok (.iload_n 2, 1) := by decide +kernel
theorem dX9_readFourth_132 : decode cX9_readFourth 132 = .ok (.bipush 9, 2) := by decide +kernel
theorem dX9_readFourth_134 : decode cX9_readFourth 134 = .ok (.if_icmp .le 10, 3) := by decide +kernel
theorem dX9_readFourth_137 : decode cX9_readFourth 137 = .ok (.aload_n 0, 1) := by decide +kernel
theorem dX9_readFourth_138 : decode cX9_readFourth 138 = .ok (.invokevirtual 135, 3) := by decide +kernel
theorem dX9_readFourth_141 : decode cX9_readFourth 141 = .ok (.goto 6, 3) := by decide +kernel
theorem dX9_readFourth_144 : decode cX9_readFourth 144 = .ok (.sipush 128, 3) := by decide +kernel
theorem dX9_readFourth_147 : decode cX9_readFourth 147 = .ok (.istore 7, 2) := by decide +kernel
theorem dX9_readFourth_149 : decode cX9_readFourth 149 = .ok (.iload 7, 2) := by decide +kernel
theorem dX9_readFourth_151 : decode cX9_readFourth 151 = .ok (.bipush 127, 2) := by decide +kernel
theorem dX9_readFourth_153 : decode cX9_readFourth 153 = .ok (.if_icmp .le 11, 3) := by decide +kernel
theorem dX9_readFourth_156 : decode cX9_readFourth 156 = .ok (.iload 7, 2) := by decide +kernel
theorem dX9_readFourth_158 : decode cX9_readFourth 158 = .ok (.bipush 127, 2) := by decide +kernel
theorem dX9_readFourth_160 : decode cX9_readFourth 160 = .ok (.isub, 1) := by decide +kernel
theorem dX9_readFourth_161 : decode cX9_readFourth 161 = .ok (.goto 7, 3) := by decide +kernel
theorem dX9_readFourth_164 : decode cX9_readFourth 164 = .ok (.iload 7, 2) := by decide +kernel
theorem dX9_readFourth_166 : decode cX9_readFourth 166 = .ok (.iconst 1, 1) := by decide +kernel
theorem dX9_readFourth_167 : decode cX9_readFourth 167 = .ok (.iadd, 1) := by decide +kernel
theorem dX9_readFourth_168 : decode cX9_readFourth 168 = .ok (.istore 8, 2) := by decide +kernel
theorem dX9_readFourth_170 : decode cX9_readFourth 170 = .ok (.aload_n 0, 1) := by decide +kernel
theorem dX9_readFourth_171 : decode cX9_readFourth 171 = .ok (.iload 8, 2) := by decide +kernel
theorem dX9_readFourth_173 : decode cX9_readFourth 173 = .ok (.iload 5, 2) := by decide +kernel
theorem dX9_readFourth_175 : decode cX9_readFourth 175 = .ok (.iload 6, 2) := by decide +kernel
theorem dX9_readFourth_177 : decode cX9_readFourth 177 = .ok (.isub, 1) := by decide +kernel
theorem dX9_readFourth_178 : decode cX9_readFourth 178 = .ok (.if_icmp .le 7, 3) := by decide +kernel
theorem dX9_readFourth_181 : decode cX9_readFourth 181 = .ok (.iconst 1, 1) := by decide +kernel
theorem dX9_readFourth_182 : decode cX9_readFourth 182 = .ok (.goto 4, 3) := by decide +kernel
theorem dX9_readFourth_185 : decode cX9_readFourth 185 = .ok (.iconst 0, 1) := by decide +kernel
theorem dX9_readFourth_186 : decode cX9_readFourth 186 = .ok (.invokevirtual 139, 3) := by decide +kernel
theorem dX9_readFourth_189 : decode cX9_readFourth 189 = .ok (.iconst 0, 1) := by decide +kernel
theorem dX9_readFourth_190 : decode cX9_readFourth 190 = .ok (.istore 9, 2) := by decide +kernel
theorem dX9_readFourth_192 : decode cX9_readFourth 192 = .ok (.iload 9, 2) := by decide +kernel
theorem dX9_readFourth_194 : decode cX9_readFourth 194 = .ok (.iload 8, 2) := by decide +kernel
theorem dX9_readFourth_196 : decode cX9_readFourth 196 = .ok (.if_icmp .ge 125, 3) := by decide +kernel
theorem dX9_readFourth_199 : decode cX9_readFourth 199 = .ok (.aload_n 0, 1) := by decide +kernel
theorem dX9_readFourth_200 : decode cX9_readFourth 200 = .ok (.getfield 129, 3) := by decide +kernel
theorem dX9_readFourth_203 : decode cX9_readFourth 203 = .ok (.ifCond .ne 118, 3) := by decide +kernel
theorem dX9_readFourth_206 : decode cX9_readFourth 206 = .ok (.iload 9, 2) := by decide +kernel
theorem dX9_readFourth_208 : decode cX9_readFourth 208 = .ok (.ifCond .eq 11, 3) := by decide +kernel
theorem dX9_readFourth_211 : decode cX9_readFourth 211 = .ok (.iload 7, 2) := by decide +kernel
theorem dX9_readFourth_213 : decode cX9_readFourth 213 = .ok (.sipush 128, 3) := by decide +kernel
theorem dX9_readFourth_216 : decode cX9_readFourth 216 = .ok (.if_icmp .ge 8, 3) := by decide +kernel
theorem dX9_readFourth_219 : decode cX9_readFourth 219 = .ok (.aload_n 0, 1) := by decide +kernel
theorem dX9_readFourth_220 : decode cX9_readFourth 220 = .ok (.iload_n 3, 1) := by decide +kernel
theorem dX9_readFourth_221 : decode cX9_readFourth 221 = .ok (.invokevirtual 202, 3) := by decide +kernel
theorem dX9_readFourth_224 : decode cX9_readFourth 224 = .ok (.iload 4, 2) := by decide +kernel
theorem dX9_readFourth_226 : decode cX9_readFourth 226 = .ok (.bipush 16, 2) := by decide +kernel
theorem dX9_readFourth_228 : decode cX9_readFourth 228 = .ok (.idiv, 1) := by decide +kernel
theorem dX9_readFourth_229 : decode cX9_readFourth 229 = .ok (.iconst 2, 1) := by decide +kernel
theorem dX9_readFourth_230 : decode cX9_readFourth 230 = .ok (.irem, 1) := by decide +kernel
theorem dX9_readFourth_231 : decode cX9_readFourth 231 = .ok (.iconst 1, 1) := by decide +kernel
theorem dX9_readFourth_232 : decode cX9_readFourth 232 = .ok (.if_icmp .ne 20, 3) := by decide +kernel
theorem dX9_readFourth_235 : decode cX9_readFourth 235 = .ok (.aload_n 0, 1) := by decide +kernel
theorem dX9_readFourth_236 : decode cX9_readFourth 236 = .ok (.getfield 142, 3) := by decide +kernel
theorem dX9_readFourth_239 : decode cX9_readFourth 239 = .ok (.iconst 1, 1) := by decide +kernel
theorem dX9_readFourth_240 : decode cX9_readFourth 240 = .ok (.isub, 1) := by decide +kernel
theorem dX9_readFourth_241 : decode cX9_readFourth 241 = .ok (.iload 6, 2) := by decide +kernel
theorem dX9_readFourth_243 : decode cX9_readFourth 243 = .ok (.aload_n 0, 1) := by decide +kernel
theorem dX9_readFourth_244 : decode cX9_readFourth 244 = .ok (.getfield 142, 3) := by decide +kernel
theorem dX9_readFourth_247 : decode cX9_readFourth 247 = .ok (.irem, 1) := by decide +kernel
theorem dX9_readFourth_248 : decode cX9_readFourth 248 = .ok (.isub, 1) := by decide +kernel
theorem dX9_readFourth_249 : decode cX9_readFourth 249 = .ok (.goto 10, 3) := by decide +kernel
theorem dX9_readFourth_252 : decode cX9_readFourth 252 = .ok (.iload 6, 2) := by decide +kernel
theorem dX9_readFourth_254 : decode cX9_readFourth 254 = .ok (.aload_n 0, 1) := by decide +kernel
theorem dX9_readFourth_255 : decode cX9_readFourth 255 = .ok (.getfield 142, 3) := by decide +kernel
theorem dX9_readFourth_258 : decode cX9_readFourth 258 = .ok (.irem, 1) := by decide +kernel
theorem dX9_readFourth_259 : decode cX9_readFourth 259 = .ok (.istore 10, 2) := by decide +kernel
theorem dX9_readFourth_261 : decode cX9_readFourth 261 = .ok (.iload 4, 2) := by decide +kernel
theorem dX9_readFourth_263 : decode cX9_readFourth 263 = .ok (.bipush 32, 2) := by decide +kernel
theorem dX9_readFourth_265 : decode cX9_readFourth 265 = .ok (.idiv, 1) := by decide +kernel
theorem dX9_readFourth_266 : decode cX9_readFourth 266 = .ok (.iconst 2, 1) := by decide +kernel
theorem dX9_readFourth_267 : decode cX9_readFourth 267 = .ok (.irem, 1) := by decide +kernel
theorem dX9_readFourth_268 : decode cX9_readFourth 268 = .ok (.iconst 1, 1) := by decide +kernel
theorem dX9_readFourth_269 : decode cX9_readFourth 269 = .ok (.if_icmp .ne 13, 3) := by decide +kernel
theorem dX9_readFourth_272 : decode cX9_readFourth 272 = .ok (.iload 6, 2) := by decide +kernel
theorem dX9_readFourth_274 : decode cX9_readFourth 274 = .ok (.aload_n 0, 1) := by decide +kernel
theorem dX9_readFourth_275 : decode cX9_readFourth 275 = .ok (.getfield 142, 3) := by decide +kernel
theorem dX9_readFourth_278 : decode cX9_readFourth 278 = .ok (.idiv, 1) := by decide +kernel
theorem dX9_readFourth_279 : decode cX9_readFourth 279 = .ok (.goto 17, 3) := by decide +kernel
theorem dX9_readFourth_282 : decode cX9_readFourth 282 = .ok (.aload_n 0, 1) := by decide +kernel
theorem dX9_readFourth_283 : decode cX9_readFourth 283 = .ok (.getfield 162, 3) := by decide +kernel
theorem dX9_readFourth_286 : decode cX9_readFourth 286 = .ok (.iconst 1, 1) := by decide +kernel
theorem dX9_readFourth_287 : decode cX9_readFourth 287 = .ok (.isub, 1) := by decide +kernel
theorem dX9_readFourth_288 : decode cX9_readFourth 288 = .ok (.iload 6, 2) := by decide +kernel
theorem dX9_readFourth_290 : decode cX9_readFourth 290 = .ok (.aload_n 0, 1) := by decide +kernel
theorem dX9_readFourth_291 : decode cX9_readFourth 291 = .ok (.getfield 142, 3) := by decide +kernel
theorem dX9_readFourth_294 : decode cX9_readFourth 294 = .ok (.idiv, 1) := by decide +kernel
theorem dX9_readFourth_295 : decode cX9_readFourth 295 = .ok (.isub, 1) := by decide +kernel
theorem dX9_readFourth_296 : decode cX9_readFourth 296 = .ok (.istore 11, 2) := by decide +kernel
theorem dX9_readFourth_298 : decode cX9_readFourth 298 = .ok (.aload_n 0, 1) := by decide +kernel
theorem dX9_readFourth_299 : decode cX9_readFourth 299 = .ok (.aload_n 0, 1) := by decide +kernel
theorem dX9_readFourth_300 : decode cX9_readFourth 300 = .ok (.getfield 142, 3) := by decide +kernel
theorem dX9_readFourth_303 : decode cX9_readFourth 303 = .ok (.iload 11, 2) := by decide +kernel
theorem dX9_readFourth_305 : decode cX9_readFourth 305 = .ok (.imul, 1) := by decide +kernel
theorem dX9_readFourth_306 : decode cX9_readFourth 306 = .ok (.iload 10, 2) := by decide +kernel
theorem dX9_readFourth_308 : decode cX9_readFourth 308 = .ok (.iadd, 1) := by decide +kernel
theorem dX9_readFourth_309 : decode cX9_readFourth 309 = .ok (.invokevirtual 168, 3) := by decide +kernel
theorem dX9_readFourth_312 : decode cX9_readFourth 312 = .ok (.iinc 6 1, 3) := by decide +kernel
theorem dX9_readFourth_315 : decode cX9_readFourth 315 = .ok (.iinc 9 1, 3) := by decide +kernel
theorem dX9_readFourth_318 : decode cX9_readFourth 318 = .ok (.goto (-126), 3) := by decide +kernel
theorem dX9_readFourth_321 : decode cX9_readFourth 321 = .ok (.goto (-204), 3) := by decide +kernel
theorem dX9_readFourth_324 : decode cX9_readFourth 324 = .ok (.return_, 1) := by decide +kernel
set_option maxRecDepth 20000 in
theorem ggX9_sample_X9_next : GoodIn wsX9_sample wsX9_next := goodIn_r _ [5, 6, 7, 8, 9, 15, 16, 17, 18, 19, 20, 21, 22, 23, 24, 25, 26, 27, 28, 29] (by decide +kernel) (by decide +kernel)
set_option maxRecDepth 20000 in
theorem gX9_sample_X9_next : GoodIn wsX9_sample (wsV RX9 135 RX9 yX9_next wsX9_next) := goodIn_app (goodIn_of _ (by decide +kernel)) ggX9_sample_X9_next
set_option maxRecDepth 20000 in
theorem ggX9_sample_X9_tone : GoodIn wsX9_sample wsX9_tone := goodIn_r _ [13, 14, 15, 16, 17, 18, 19, 20, 21, 22, 23, 24, 25, 26, 27, 28, 29] (by decide +kernel) (by decide +kernel)
set_option maxRecDepth 20000 in
theorem gX9_sample_X9_tone : GoodIn wsX9_sample (wsV RX9 145 RX9 yX9_tone wsX9_tone) := goodIn_app (goodIn_of _ (by decide +kernel)) ggX9_sample_X9_tone
theorem dX9_sample_0 : decode cX9_sample 0 = .ok (.aload_n 0, 1) := by decide +kernel
theorem dX9_sample_1 : decode cX9_sample 1 = .ok (.invokevirtual 135, 3) := by decide +kernel
theorem dX9_sample_4 : decode cX9_sample 4 = .ok (.istore_n 2, 1) := by decide +kernel
theorem dX9_sample_5 : decode cX9_sample 5 = .ok (.iload_n 1, 1) := by decide +kernel
theorem dX9_sample_6 : decode cX9_sample 6 = .ok (.iconst 1, 1) := by decide +kernel
theorem dX9_sample_7 : decode cX9_sample 7 = .ok (.if_icmp .le 10, 3) := by decide +kernel
theorem dX9_sample_10 : decode cX9_sample 10 = .ok (.aload_n 0, 1) := by decide +kernel
theorem dX9_sample_11 : decode cX9_sample 11 = .ok (.invokevirtual 135, 3) := by decide +kernel
theorem dX9_sample_14 : decode cX9_sample 14 = .ok (.goto 4, 3) := by decide +kernel
theorem dX9_sample_17 : decode cX9_sample 17 = .ok (.iload_n 2, 1) := by decide +kernel
theorem dX9_sample_18 : decode cX9_sample 18 = .ok (.istore_n 3, 1) := by decide +kernel
theorem dX9_sample_19 : decode cX9_sample 19 = .ok (.iload_n 1, 1) := by decide +kernel
theorem dX9_sample_20 : decode cX9_sample 20 = .ok (.iconst 1, 1) := by decide +kernel
theorem dX9_sample_21 : decode cX9_sample 21 = .ok (.if_icmp .le 10, 3) := by decide +kernel
theorem dX9_sample_24 : decode cX9_sample 24 = .ok (.aload_n 0, 1) := by decide +kernel
theorem dX9_sample_25 : decode cX9_sample 25 = .ok (.invokevirtual 135, 3) := by decide +kernel
theorem dX9_sample_28 : decode cX9_sample 28 = .ok (.goto 4, 3) := by decide +kernel
theorem dX9_sample_31 : decode cX9_sample 31 = .ok (.iload_n 2, 1) := by decide +kernel
theorem dX9_sample_32 : decode cX9_sample 32 = .ok (.istore 4, 2) := by decide +kernel
theorem dX9_sample_34 : decode cX9_sample 34 = .ok (.aload_n 0, 1) := by decide +kernel
theorem dX9_sample_35 : decode cX9_sample 35 = .ok (.iload 4, 2) := by decide +kernel
theorem dX9_sample_37 : decode cX9_sample 37 = .ok (.iload_n 3, 1) := by decide +kernel
theorem dX9_sample_38 : decode cX9_sample 38 = .ok (.iload_n 2, 1) := by decide +kernel
theorem dX9_sample_39 : decode cX9_sample 39 = .ok (.iload_n 1, 1) := by decide +kernel
theorem dX9_sample_40 : decode cX9_sample 40 = .ok (.iconst 4, 1) := by decide +kernel
theorem dX9_sample_41 : decode cX9_sample 41 = .ok (.if_icmp .ne 10, 3) := by decide +kernel
theorem dX9_sample_44 : decode cX9_sample 44 = .ok (.aload_n 0, 1) := by decide +kernel
theorem dX9_sample_45 : decode cX9_sample 45 = .ok (.invokevirtual 135, 3) := by decide +kernel
theorem dX9_sample_48 : decode cX9_sample 48 = .ok (.goto 6, 3) := by decide +kernel
theorem dX9_sample_51 : decode cX9_sample 51 = .ok (.sipush 255, 3) := by decide +kernel
theorem dX9_sample_54 : decode cX9_sample 54 = .ok (.invokevirtual 145, 3) := by decide +kernel
theorem dX9_sample_57 : decode cX9_sample 57 = .ok (.return_, 1) := by decide +kernel
set_option maxRecDepth 20000 in
theorem ggX9_decode_X9_sniff : GoodIn wsX9_decode wsX9_sniff := goodIn_r _ [11, 12, 13, 14, 15, 16, 10, 17, 130, 131, 132, 133, 134, 135, 136, 137, 138, 139, 140, 141, 142, 143, 144] (by decide +kernel) (by decide +kernel)
set_option maxRecDepth 20000 in
theorem gX9_decode_X9_sniff : GoodIn wsX9_decode (wsV RX9 205 RX9 yX9_sniff wsX9_sniff) := goodIn_app (goodIn_of _ (by decide +kernel)) ggX9_decode_X9_sniff
set_option maxRecDepth 20000 in
theorem ggX9_decode_X9_readFirst : GoodIn wsX9_decode wsX9_readFirst := goodIn_r _ [21, 3, 5, 2, 22, 1, 12, 23, 24, 25, 10, 26, 27, 28, 29, 30, 13, 31, 32, 33, 34, 35, 36, 37, 38, 39, 40, 41, 42, 43, 44, 45, 46, 47, 48, 49, 50, 51, 52, 53, 54, 55, 56, 57, 58, 59, 60, 61, 62, 63, 64, 65, 66, 67, 68, 69, 70, 71, 72, 73, 74, 75, 130, 131, 132, 133, 134, 135, 136, 137, 138, 139, 140, 141, 142, 143, 144] (by decide +kernel) (by decide +kernel)
set_option maxRecDepth 20000 in
theorem gX9_decode_X9_readFirst : GoodIn wsX9_decode (wsV RX9 208 RX9 yX9_readFirst wsX9_readFirst) := goodIn_app (goodIn_of _ (by decide +kernel)) ggX9_decode_X9_readFirst
set_option maxRecDepth 20000 in
theorem ggX9_decode_X9_readSecond : GoodIn wsX9_decode wsX9_readSecond := goodIn_r _ [79, 13, 3, 5, 2, 55, 1, 12, 23, 24, 25, 10, 26, 27, 28, 29, 30, 80, 81, 82, 83, 84, 85, 86, 87, 88, 89, 90, 91, 92, 93, 94, 42, 43, 44, 45, 35, 36, 37, 38, 39, 40, 41, 51, 52, 53, 54, 67, 68, 69, 70, 71, 130, 131, 132, 133, 134, 135, 136, 137, 138, 139, 140, 141, 142, 143, 144] (by decide +kernel) (by decide +kernel)
set_option maxRecDepth 20000 in
theorem gX9_decode_X9_readSecond : GoodIn wsX9_decode (wsV RX9 211 RX9 yX9_readSecond wsX9_readSecond) := goodIn_app (goodIn_of _ (by decide +kernel)) ggX9_decode_X9_readSecond
set_option maxRecDepth 20000 in
theorem ggX9_decode_X9_readThird : GoodIn wsX9_decode wsX9_readThird := goodIn_r _ [98, 3, 5, 99, 2, 100, 1, 23, 24, 25, 10, 26, 27, 28, 29, 30, 12, 13, 31, 32, 33, 34, 72, 73, 74, 75, 42, 43, 44, 45, 35, 36, 37, 38, 39, 40, 41, 101, 102, 103, 104, 105, 106, 107, 108, 109, 110, 111, 112, 51, 52, 53, 54, 55, 67, 68, 69, 70, 71, 113, 114, 115, 116, 130, 131, 132, 133, 134, 135, 136, 137, 138, 139, 140, 141, 142, 143, 144] (by decide +kernel) (by decide +kernel)
set_option maxRecDepth 20000 in
theorem gX9_decode_X9_readThird : GoodIn wsX9_decode (wsV RX9 214 RX9 yX9_readThird wsX9_readThird) := goodIn_app (goodIn_of _ (by decide +kernel)) ggX9_decode_X9_readThird
set_option maxRecDepth 20000 in
theorem ggX9_decode_X9_readFourth : GoodIn wsX9_decode wsX9_readFourth := goodIn_r _ [120, 3, 5, 2, 27, 28, 29, 10, 30, 1, 12, 13, 23, 24, 25, 26, 31, 32, 33, 34, 35, 36, 37, 38, 39, 40, 41, 42, 43, 44, 45, 121, 122, 123, 124, 51, 52, 53, 54, 55, 67, 68, 69, 70, 71, 130, 131, 132, 133, 134, 135, 136, 137, 138, 139, 140, 141, 142, 143, 144] (by decide +kernel) (by decide +kernel)
set_option maxRecDepth 20000 in
theorem gX9_decode_X9_readFourth : GoodIn wsX9_decode (wsV RX9 217 RX9 yX9_readFourth wsX9_readFourth) := goodIn_app (goodIn_of _ (by decide +kernel)) ggX9_decode_X9_readFourth
set_option maxRecDepth 20000 in
theorem ggX9_decode_X9_copyBack : GoodIn wsX9_decode wsX9_copyBack := goodIn_r _ [128, 129, 71, 130, 131, 132, 133, 134, 135, 136, 137, 138, 139, 140, 141, 142, 143, 144] (by decide +kernel) (by decide +kernel)
set_option maxRecDepth 20000 in
theorem gX9_decode_X9_copyBack : GoodIn wsX9_decode (wsV RX9 46 RX9 yX9_copyBack wsX9_copyBack) := goodIn_app (goodIn_of _ (by decide +kernel)) ggX9_decode_X9_copyBack
theorem dX9_decode_0 : decode cX9_decode 0 = .ok (.aload_n 0, 1) := by decide +kernel
theorem dX9_decode_1 : decode cX9_decode 1 = .ok (.invokevirtual 205, 3) := by decide +kernel
theorem dX9_decode_4 : decode cX9_decode 4 = .ok (.istore_n 1, 1) := by decide +kernel
theorem dX9_decode_5 : decode cX9_decode 5 = .ok (.iload_n 1, 1) := by decide +kernel
theorem dX9_decode_6 : decode cX9_decode 6 = .ok (.ifCond .ge 5, 3) := by decide +kernel
theorem dX9_decode_9 : decode cX9_decode 9 = .ok (.iconst (-1), 1) := by decide +kernel
theorem dX9_decode_10 : decode cX9_decode 10 = .ok (.ireturn, 1) := by decide +kernel
theorem dX9_decode_11 : decode cX9_decode 11 = .ok (.aload_n 0, 1) := by decide +kernel
theorem dX9_decode_12 : decode cX9_decode 12 = .ok (.iconst 0, 1) := by decide +kernel
theorem dX9_decode_13 : decode cX9_decode 13 = .ok (.putfield 132, 3) := by decide +kernel
theorem dX9_decode_16 : decode cX9_decode 16 = .ok (.aload_n 0, 1) := by decide +kernel
theorem dX9_decode_17 : decode cX9_decode 17 = .ok (.iconst 0, 1) := by decide +kernel
theorem dX9_decode_18 : decode cX9_decode 18 = .ok (.putfield 129, 3) := by decide +kernel
theorem dX9_decode_21 : decode cX9_decode 21 = .ok (.iload_n 1, 1) := by decide +kernel
theorem dX9_decode_22 : decode cX9_decode 22 = .ok (.ifCond .ne 10, 3) := by decide +kernel
theorem dX9_decode_25 : decode cX9_decode 25 = .ok (.aload_n 0, 1) := by decide +kernel
theorem dX9_decode_26 : decode cX9_decode 26 = .ok (.invokevirtual 208, 3) := by decide +kernel
theorem dX9_decode_29 : decode cX9_decode 29 = .ok (.goto 31, 3) := by decide +kernel
theorem dX9_decode_32 : decode cX9_decode 32 = .ok (.iload_n 1, 1) := by decide +kernel
theorem dX9_decode_33 : decode cX9_decode 33 = .ok (.iconst 1, 1) := by decide +kernel
theorem dX9_decode_34 : decode cX9_decode 34 = .ok (.if_icmp .ne 10, 3) := by decide +kernel
theorem dX9_decode_37 : decode cX9_decode 37 = .ok (.aload_n 0, 1) := by decide +kernel
theorem dX9_decode_38 : decode cX9_decode 38 = .ok (.invokevirtual 211, 3) := by decide +kernel
theorem dX9_decode_41 : decode cX9_decode 41 = .ok (.goto 19, 3) := by decide +kernel
theorem dX9_decode_44 : decode cX9_decode 44 = .ok (.iload_n 1, 1) := by decide +kernel
theorem dX9_decode_45 : decode cX9_decode 45 = .ok (.iconst 2, 1) := by decide +kernel
theorem dX9_decode_46 : decode cX9_decode 46 = .ok (.if_icmp .ne 10, 3) := by decide +kernel
theorem dX9_decode_49 : decode cX9_decode 49 = .ok (.aload_n 0, 1) := by decide +kernel
theorem dX9_decode_50 : decode cX9_decode 50 = .ok (.invokevirtual 214, 3) := by decide +kernel
theorem dX9_decode_53 : decode cX9_decode 53 = .ok (.goto 7, 3) := by decide +kernel
theorem dX9_decode_56 : decode cX9_decode 56 = .ok (.aload_n 0, 1) := by decide +kernel
theorem dX9_decode_57 : decode cX9_decode 57 = .ok (.invokevirtual 217, 3) := by decide +kernel
theorem dX9_decode_60 : decode cX9_decode 60 = .ok (.aload_n 0, 1) := by decide +kernel
theorem dX9_decode_61 : decode cX9_decode 61 = .ok (.getfield 129, 3) := by decide +kernel
theorem dX9_decode_64 : decode cX9_decode 64 = .ok (.ifCond .eq 8, 3) := by decide +kernel
theorem dX9_decode_67 : decode cX9_decode 67 = .ok (.aload_n 0, 1) := by decide +kernel
theorem dX9_decode_68 : decode cX9_decode 68 = .ok (.getfield 129, 3) := by decide +kernel
theorem dX9_decode_71 : decode cX9_decode 71 = .ok (.ireturn, 1) := by decide +kernel
theorem dX9_decode_72 : decode cX9_decode 72 = .ok (.aload_n 0, 1) := by decide +kernel
theorem dX9_decode_73 : decode cX9_decode 73 = .ok (.aload_n 0, 1) := by decide +kernel
theorem dX9_decode_74 : decode cX9_decode 74 = .ok (.getfield 142, 3) := by decide +kernel
theorem dX9_decode_77 : decode cX9_decode 77 = .ok (.putfield 7, 3) := by decide +kernel
theorem dX9_decode_80 : decode cX9_decode 80 = .ok (.aload_n 0, 1) := by decide +kernel
theorem dX9_decode_81 : decode cX9_decode 81 = .ok (.aload_n 0, 1) := by decide +kernel
theorem dX9_decode_82 : decode cX9_decode 82 = .ok (.getfield 162, 3) := by decide +kernel
theorem dX9_decode_85 : decode cX9_decode 85 = .ok (.putfield 13, 3) := by decide +kernel
theorem dX9_decode_88 : decode cX9_decode 88 = .ok (.aload_n 0, 1) := by decide +kernel
theorem dX9_decode_89 : decode cX9_decode 89 = .ok (.invokevirtual 46, 3) := by decide +kernel
theorem dX9_decode_92 : decode cX9_decode 92 = .ok (.iload_n 1, 1) := by decide +kernel
theorem dX9_decode_93 : decode cX9_decode 93 = .ok (.ireturn, 1) := by decide +kernel
theorem dJ7_fill_53178_0 : decode cJ7_fill_53178 0 = .ok (.iconst 0, 1) := by decide +kernel
theorem dJ7_fill_53178_1 : decode cJ7_fill_53178 1 = .ok (.istore_n 2, 1) := by decide +kernel
theorem dJ7_fill_53178_2 : decode cJ7_fill_53178 2 = .ok (.aload_n 0, 1) := by decide +kernel
theorem dJ7_fill_53178_3 : decode cJ7_fill_53178 3 = .ok (.arraylength, 1) := by decide +kernel
theorem dJ7_fill_53178_4 : decode cJ7_fill_53178 4 = .ok (.istore_n 3, 1) := by decide +kernel
theorem dJ7_fill_53178_5 : decode cJ7_fill_53178 5 = .ok (.iload_n 2, 1) := by decide +kernel
theorem dJ7_fill_53178_6 : decode cJ7_fill_53178 6 = .ok (.iload_n 3, 1) := by decide +kernel
theorem dJ7_fill_53178_7 : decode cJ7_fill_53178 7 = .ok (.if_icmp .ge 13, 3) := by decide +kernel
theorem dJ7_fill_53178_10 : decode cJ7_fill_53178 10 = .ok (.aload_n 0, 1) := by decide +kernel
theorem dJ7_fill_53178_11 : decode cJ7_fill_53178 11 = .ok (.iload_n 2, 1) := by decide +kernel
theorem dJ7_fill_53178_12 : decode cJ7_fill_53178 12 = .ok (.iload_n 1, 1) := by decide +kernel
theorem dJ7_fill_53178_13 : decode cJ7_fill_53178 13 = .ok (.iastore, 1) := by decide +kernel
theorem dJ7_fill_53178_14 : decode cJ7_fill_53178 14 = .ok (.iinc 2 1, 3) := by decide +kernel
theorem dJ7_fill_53178_17 : decode cJ7_fill_53178 17 = .ok (.goto (-12), 3) := by decide +kernel
theorem dJ7_fill_53178_20 : decode cJ7_fill_53178 20 = .ok (.return_, 1) := by decide +kernel
theorem dL_law_0 : decode cL_law 0 = .ok (.new 7, 3) := by decide +kernel
theorem dL_law_3 : decode cL_law 3 = .ok (.dup, 1) := by decide +kernel
theorem dL_law_4 : decode cL_law 4 = .ok (.invokespecial 9, 3) := by decide +kernel
theorem dL_law_7 : decode cL_law 7 = .ok (.astore_n 1, 1) := by decide +kernel
theorem dL_law_8 : decode cL_law 8 = .ok (.new 10, 3) := by decide +kernel
theorem dL_law_11 : decode cL_law 11 = .ok (.dup, 1) := by decide +kernel
theorem dL_law_12 : decode cL_law 12 = .ok (.invokespecial 12, 3) := by decide +kernel
theorem dL_law_15 : decode cL_law 15 = .ok (.astore_n 2, 1) := by decide +kernel
theorem dL_law_16 : decode cL_law 16 = .ok (.iconst 0, 1) := by decide +kernel
theorem dL_law_17 : decode cL_law 17 = .ok (.istore_n 3, 1) := by decide +kernel
theorem dL_law_18 : decode cL_law 18 = .ok (.iload_n 3, 1) := by decide +kernel
theorem dL_law_19 : decode cL_law 19 = .ok (.aload_n 0, 1) := by decide +kernel
theorem dL_law_20 : decode cL_law 20 = .ok (.arraylength, 1) := by decide +kernel
theorem dL_law_21 : decode cL_law 21 = .ok (.iconst 4, 1) := by decide +kernel
theorem dL_law_22 : decode cL_law 22 = .ok (.isub, 1) := by decide +kernel
theorem dL_law_23 : decode cL_law 23 = .ok (.if_icmp .gt 419, 3) := by decide +kernel
theorem dL_law_26 : decode cL_law 26 = .ok (.aload_n 0, 1) := by decide +kernel
theorem dL_law_27 : decode cL_law 27 = .ok (.iload_n 3, 1) := by decide +kernel
theorem dL_law_28 : decode cL_law 28 = .ok (.iaload, 1) := by decide +kernel
theorem dL_law_29 : decode cL_law 29 = .ok (.bipush 15, 2) := by decide +kernel
theorem dL_law_31 : decode cL_law 31 = .ok (.iand, 1) := by decide +kernel
theorem dL_law_32 : decode cL_law 32 = .ok (.tableswitch 404 0 13 #[72, 105, 148, 181, 194, 207, 230, 253, 276, 309, 322, 345, 358, 391], 72) := by decide +kernel
theorem dL_law_104 : decode cL_law 104 = .ok (.aload_n 1, 1) := by decide +kernel
theorem dL_law_105 : decode cL_law 105 = .ok (.aload_n 0, 1) := by decide +kernel
theorem dL_law_106 : decode cL_law 106 = .ok (.iload_n 3, 1) := by decide +kernel
theorem dL_law_107 : decode cL_law 107 = .ok (.iconst 1, 1) := by decide +kernel
theorem dL_law_108 : decode cL_law 108 = .ok (.iadd, 1) := by decide +kernel
theorem dL_law_109 : decode cL_law 109 = .ok (.iaload, 1) := by decide +kernel
theorem dL_law_110 : decode cL_law 110 = .ok (.aload_n 0, 1) := by decide +kernel
theorem dL_law_111 : decode cL_law 111 = .ok (.iload_n 3, 1) := by decide +kernel
theorem dL_law_112 : decode cL_law 112 = .ok (.iconst 2, 1) := by decide +kernel
theorem dL_law_113 : decode cL_law 113 = .ok (.iadd, 1) := by decide +kernel
theorem dL_law_114 : decode cL_law 114 = .ok (.iaload, 1) := by decide +kernel
theorem dL_law_115 : decode cL_law 115 = .ok (.invokevirtual 13, 3) := by decide +kernel
theorem dL_law_118 : decode cL_law 118 = .ok (.aload_n 2, 1) := by decide +kernel
theorem dL_law_119 : decode cL_law 119 = .ok (.aload_n 0, 1) := by decide +kernel
theorem dL_law_120 : decode cL_law 120 = .ok (.iload_n 3, 1) := by decide +kernel
theorem dL_law_121 : decode cL_law 121 = .ok (.iconst 1, 1) := by decide +kernel
theorem dL_law_122 : decode cL_law 122 = .ok (.iadd, 1) := by decide +kernel
theorem dL_law_123 : decode cL_law 123 = .ok (.iaload, 1) := by decide +kernel
theorem dL_law_124 : decode cL_law 124 = .ok (.aload_n 0, 1) := by decide +kernel
theorem dL_law_125 : decode cL_law 125 = .ok (.iload_n 3, 1) := by decide +kernel
theorem dL_law_126 : decode cL_law 126 = .ok (.iconst 2, 1) := by decide +kernel
theorem dL_law_127 : decode cL_law 127 = .ok (.iadd, 1) := by decide +kernel
theorem dL_law_128 : decode cL_law 128 = .ok (.iaload, 1) := by decide +kernel
theorem dL_law_129 : decode cL_law 129 = .ok (.invokevirtual 17, 3) := by decide +kernel
theorem dL_law_132 : decode cL_law 132 = .ok (.if_icmp .eq 304, 3) := by decide +kernel
theorem dL_law_135 : decode cL_law 135 = .ok (.iconst 0, 1) := by decide +kernel
theorem dL_law_136 : decode cL_law 136 = .ok (.ireturn, 1) := by decide +kernel
theorem dL_law_137 : decode cL_law 137 = .ok (.aload_n 1, 1) := by decide +kernel
theorem dL_law_138 : decode cL_law 138 = .ok (.aload_n 0, 1) := by decide +kernel
theorem dL_law_139 : decode cL_law 139 = .ok (.iload_n 3, 1) := by decide +kernel
theorem dL_law_140 : decode cL_law 140 = .ok (.iconst 1, 1) := by decide +kernel
theorem dL_law_141 : decode cL_law 141 = .ok (.iadd, 1) := by decide +kernel
theorem dL_law_142 : decode cL_law 142 = .ok (.iaload, 1) := by decide +kernel
theorem dL_law_143 : decode cL_law 143 = .ok (.aload_n 0, 1) := by decide +kernel
theorem dL_law_144 : decode cL_law 144 = .ok (.iload_n 3, 1) := by decide +kernel
theorem dL_law_145 : decode cL_law 145 = .ok (.iconst 2, 1) := by decide +kernel
theorem dL_law_146 : decode cL_law 146 = .ok (.iadd, 1) := by decide +kernel
theorem dL_law_147 : decode cL_law 147 = .ok (.iaload, 1) := by decide +kernel
theorem dL_law_148 : decode cL_law 148 = .ok (.aload_n 0, 1) := by decide +kernel
theorem dL_law_149 : decode cL_law 149 = .ok (.iload_n 3, 1) := by decide +kernel
theorem dL_law_150 : decode cL_law 150 = .ok (.iconst 3, 1) := by decide +kernel
theorem dL_law_151 : decode cL_law 151 = .ok (.iadd, 1) := by decide +kernel
theorem dL_law_152 : decode cL_law 152 = .ok (.iaload, 1) := by decide +kernel
theorem dL_law_153 : decode cL_law 153 = .ok (.invokevirtual 18, 3) := by decide +kernel
theorem dL_law_156 : decode cL_law 156 = .ok (.aload_n 2, 1) := by decide +kernel
theorem dL_law_157 : decode cL_law 157 = .ok (.aload_n 0, 1) := by decide +kernel
theorem dL_law_158 : decode cL_law 158 = .ok (.iload_n 3, 1) := by decide +kernel
theorem dL_law_159 : decode cL_law 159 = .ok (.iconst 1, 1) := by decide +kernel
theorem dL_law_160 : decode cL_law 160 = .ok (.iadd, 1) := by decide +kernel
theorem dL_law_161 : decode cL_law 161 = .ok (.iaload, 1) := by decide +kernel
