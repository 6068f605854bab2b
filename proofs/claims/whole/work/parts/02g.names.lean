theorem dX11_readsItem_47 : decode cX11_readsItem 47 = .ok (.bipush 113, 2) := by decide +kernel
theorem dX11_readsItem_49 : decode cX11_readsItem 49 = .ok (.if_icmp .eq 5, 3) := by decide +kernel
theorem dX11_readsItem_52 : decode cX11_readsItem 52 = .ok (.iconst 0, 1) := by decide +kernel
theorem dX11_readsItem_53 : decode cX11_readsItem 53 = .ok (.ireturn, 1) := by decide +kernel
theorem dX11_readsItem_54 : decode cX11_readsItem 54 = .ok (.aload_n 0, 1) := by decide +kernel
theorem dX11_readsItem_55 : decode cX11_readsItem 55 = .ok (.dup, 1) := by decide +kernel
theorem dX11_readsItem_56 : decode cX11_readsItem 56 = .ok (.getfield 104, 3) := by decide +kernel
theorem dX11_readsItem_59 : decode cX11_readsItem 59 = .ok (.iconst 1, 1) := by decide +kernel
theorem dX11_readsItem_60 : decode cX11_readsItem 60 = .ok (.iadd, 1) := by decide +kernel
theorem dX11_readsItem_61 : decode cX11_readsItem 61 = .ok (.putfield 104, 3) := by decide +kernel
theorem dX11_readsItem_64 : decode cX11_readsItem 64 = .ok (.aload_n 0, 1) := by decide +kernel
theorem dX11_readsItem_65 : decode cX11_readsItem 65 = .ok (.iload_n 1, 1) := by decide +kernel
theorem dX11_readsItem_66 : decode cX11_readsItem 66 = .ok (.iconst (-1), 1) := by decide +kernel
theorem dX11_readsItem_67 : decode cX11_readsItem 67 = .ok (.iconst (-1), 1) := by decide +kernel
theorem dX11_readsItem_68 : decode cX11_readsItem 68 = .ok (.invokevirtual 123, 3) := by decide +kernel
theorem dX11_readsItem_71 : decode cX11_readsItem 71 = .ok (.ifCond .ne 5, 3) := by decide +kernel
theorem dX11_readsItem_74 : decode cX11_readsItem 74 = .ok (.iconst 0, 1) := by decide +kernel
theorem dX11_readsItem_75 : decode cX11_readsItem 75 = .ok (.ireturn, 1) := by decide +kernel
theorem dX11_readsItem_76 : decode cX11_readsItem 76 = .ok (.aload_n 0, 1) := by decide +kernel
theorem dX11_readsItem_77 : decode cX11_readsItem 77 = .ok (.getfield 110, 3) := by decide +kernel
theorem dX11_readsItem_80 : decode cX11_readsItem 80 = .ok (.istore_n 3, 1) := by decide +kernel
theorem dX11_readsItem_81 : decode cX11_readsItem 81 = .ok (.iload_n 2, 1) := by decide +kernel
theorem dX11_readsItem_82 : decode cX11_readsItem 82 = .ok (.bipush 105, 2) := by decide +kernel
theorem dX11_readsItem_84 : decode cX11_readsItem 84 = .ok (.if_icmp .ne 16, 3) := by decide +kernel
theorem dX11_readsItem_87 : decode cX11_readsItem 87 = .ok (.aload_n 0, 1) := by decide +kernel
theorem dX11_readsItem_88 : decode cX11_readsItem 88 = .ok (.iload_n 3, 1) := by decide +kernel
theorem dX11_readsItem_89 : decode cX11_readsItem 89 = .ok (.iconst 2, 1) := by decide +kernel
theorem dX11_readsItem_90 : decode cX11_readsItem 90 = .ok (.bipush (-9), 2) := by decide +kernel
theorem dX11_readsItem_92 : decode cX11_readsItem 92 = .ok (.bipush (-9), 2) := by decide +kernel
theorem dX11_readsItem_94 : decode cX11_readsItem 94 = .ok (.iconst 0, 1) := by decide +kernel
theorem dX11_readsItem_95 : decode cX11_readsItem 95 = .ok (.invokevirtual 119, 3) := by decide +kernel
theorem dX11_readsItem_98 : decode cX11_readsItem 98 = .ok (.iconst 1, 1) := by decide +kernel
theorem dX11_readsItem_99 : decode cX11_readsItem 99 = .ok (.ireturn, 1) := by decide +kernel
theorem dX11_readsItem_100 : decode cX11_readsItem 100 = .ok (.aload_n 0, 1) := by decide +kernel
theorem dX11_readsItem_101 : decode cX11_readsItem 101 = .ok (.iload_n 1, 1) := by decide +kernel
theorem dX11_readsItem_102 : decode cX11_readsItem 102 = .ok (.iload_n 3, 1) := by decide +kernel
theorem dX11_readsItem_103 : decode cX11_readsItem 103 = .ok (.iconst (-1), 1) := by decide +kernel
theorem dX11_readsItem_104 : decode cX11_readsItem 104 = .ok (.invokevirtual 123, 3) := by decide +kernel
theorem dX11_readsItem_107 : decode cX11_readsItem 107 = .ok (.ifCond .ne 5, 3) := by decide +kernel
theorem dX11_readsItem_110 : decode cX11_readsItem 110 = .ok (.iconst 0, 1) := by decide +kernel
theorem dX11_readsItem_111 : decode cX11_readsItem 111 = .ok (.ireturn, 1) := by decide +kernel
theorem dX11_readsItem_112 : decode cX11_readsItem 112 = .ok (.aload_n 0, 1) := by decide +kernel
theorem dX11_readsItem_113 : decode cX11_readsItem 113 = .ok (.getfield 110, 3) := by decide +kernel
theorem dX11_readsItem_116 : decode cX11_readsItem 116 = .ok (.istore 4, 2) := by decide +kernel
theorem dX11_readsItem_118 : decode cX11_readsItem 118 = .ok (.iload_n 2, 1) := by decide +kernel
theorem dX11_readsItem_119 : decode cX11_readsItem 119 = .ok (.bipush 107, 2) := by decide +kernel
theorem dX11_readsItem_121 : decode cX11_readsItem 121 = .ok (.if_icmp .ne 16, 3) := by decide +kernel
theorem dX11_readsItem_124 : decode cX11_readsItem 124 = .ok (.aload_n 0, 1) := by decide +kernel
theorem dX11_readsItem_125 : decode cX11_readsItem 125 = .ok (.iload_n 3, 1) := by decide +kernel
theorem dX11_readsItem_126 : decode cX11_readsItem 126 = .ok (.iconst 0, 1) := by decide +kernel
theorem dX11_readsItem_127 : decode cX11_readsItem 127 = .ok (.iload 4, 2) := by decide +kernel
theorem dX11_readsItem_129 : decode cX11_readsItem 129 = .ok (.bipush (-9), 2) := by decide +kernel
theorem dX11_readsItem_131 : decode cX11_readsItem 131 = .ok (.iconst 0, 1) := by decide +kernel
theorem dX11_readsItem_132 : decode cX11_readsItem 132 = .ok (.invokevirtual 119, 3) := by decide +kernel
theorem dX11_readsItem_135 : decode cX11_readsItem 135 = .ok (.iconst 1, 1) := by decide +kernel
theorem dX11_readsItem_136 : decode cX11_readsItem 136 = .ok (.ireturn, 1) := by decide +kernel
theorem dX11_readsItem_137 : decode cX11_readsItem 137 = .ok (.iload_n 2, 1) := by decide +kernel
theorem dX11_readsItem_138 : decode cX11_readsItem 138 = .ok (.bipush 113, 2) := by decide +kernel
theorem dX11_readsItem_140 : decode cX11_readsItem 140 = .ok (.if_icmp .ne 31, 3) := by decide +kernel
theorem dX11_readsItem_143 : decode cX11_readsItem 143 = .ok (.aload_n 0, 1) := by decide +kernel
theorem dX11_readsItem_144 : decode cX11_readsItem 144 = .ok (.getfield 38, 3) := by decide +kernel
theorem dX11_readsItem_147 : decode cX11_readsItem 147 = .ok (.iload_n 3, 1) := by decide +kernel
theorem dX11_readsItem_148 : decode cX11_readsItem 148 = .ok (.dup2, 1) := by decide +kernel
theorem dX11_readsItem_149 : decode cX11_readsItem 149 = .ok (.iaload, 1) := by decide +kernel
theorem dX11_readsItem_150 : decode cX11_readsItem 150 = .ok (.iconst 1, 1) := by decide +kernel
theorem dX11_readsItem_151 : decode cX11_readsItem 151 = .ok (.iload 4, 2) := by decide +kernel
theorem dX11_readsItem_153 : decode cX11_readsItem 153 = .ok (.ishl, 1) := by decide +kernel
theorem dX11_readsItem_154 : decode cX11_readsItem 154 = .ok (.ior, 1) := by decide +kernel
theorem dX11_readsItem_155 : decode cX11_readsItem 155 = .ok (.iastore, 1) := by decide +kernel
theorem dX11_readsItem_156 : decode cX11_readsItem 156 = .ok (.aload_n 0, 1) := by decide +kernel
theorem dX11_readsItem_157 : decode cX11_readsItem 157 = .ok (.getfield 38, 3) := by decide +kernel
theorem dX11_readsItem_160 : decode cX11_readsItem 160 = .ok (.iload 4, 2) := by decide +kernel
theorem dX11_readsItem_162 : decode cX11_readsItem 162 = .ok (.dup2, 1) := by decide +kernel
theorem dX11_readsItem_163 : decode cX11_readsItem 163 = .ok (.iaload, 1) := by decide +kernel
theorem dX11_readsItem_164 : decode cX11_readsItem 164 = .ok (.iconst 1, 1) := by decide +kernel
theorem dX11_readsItem_165 : decode cX11_readsItem 165 = .ok (.iload_n 3, 1) := by decide +kernel
theorem dX11_readsItem_166 : decode cX11_readsItem 166 = .ok (.ishl, 1) := by decide +kernel
theorem dX11_readsItem_167 : decode cX11_readsItem 167 = .ok (.ior, 1) := by decide +kernel
theorem dX11_readsItem_168 : decode cX11_readsItem 168 = .ok (.iastore, 1) := by decide +kernel
theorem dX11_readsItem_169 : decode cX11_readsItem 169 = .ok (.iconst 1, 1) := by decide +kernel
theorem dX11_readsItem_170 : decode cX11_readsItem 170 = .ok (.ireturn, 1) := by decide +kernel
theorem dX11_readsItem_171 : decode cX11_readsItem 171 = .ok (.iload_n 2, 1) := by decide +kernel
theorem dX11_readsItem_172 : decode cX11_readsItem 172 = .ok (.bipush 108, 2) := by decide +kernel
theorem dX11_readsItem_174 : decode cX11_readsItem 174 = .ok (.if_icmp .eq 9, 3) := by decide +kernel
theorem dX11_readsItem_177 : decode cX11_readsItem 177 = .ok (.iload_n 2, 1) := by decide +kernel
theorem dX11_readsItem_178 : decode cX11_readsItem 178 = .ok (.bipush 115, 2) := by decide +kernel
theorem dX11_readsItem_180 : decode cX11_readsItem 180 = .ok (.if_icmp .ne 17, 3) := by decide +kernel
theorem dX11_readsItem_183 : decode cX11_readsItem 183 = .ok (.aload_n 0, 1) := by decide +kernel
theorem dX11_readsItem_184 : decode cX11_readsItem 184 = .ok (.iload_n 1, 1) := by decide +kernel
theorem dX11_readsItem_185 : decode cX11_readsItem 185 = .ok (.iconst 0, 1) := by decide +kernel
theorem dX11_readsItem_186 : decode cX11_readsItem 186 = .ok (.bipush 9, 2) := by decide +kernel
theorem dX11_readsItem_188 : decode cX11_readsItem 188 = .ok (.invokevirtual 116, 3) := by decide +kernel
theorem dX11_readsItem_191 : decode cX11_readsItem 191 = .ok (.ifCond .eq 17, 3) := by decide +kernel
theorem dX11_readsItem_194 : decode cX11_readsItem 194 = .ok (.goto 16, 3) := by decide +kernel
theorem dX11_readsItem_197 : decode cX11_readsItem 197 = .ok (.aload_n 0, 1) := by decide +kernel
theorem dX11_readsItem_198 : decode cX11_readsItem 198 = .ok (.iload_n 1, 1) := by decide +kernel
theorem dX11_readsItem_199 : decode cX11_readsItem 199 = .ok (.iload_n 3, 1) := by decide +kernel
theorem dX11_readsItem_200 : decode cX11_readsItem 200 = .ok (.iload 4, 2) := by decide +kernel
theorem dX11_readsItem_202 : decode cX11_readsItem 202 = .ok (.invokevirtual 123, 3) := by decide +kernel
theorem dX11_readsItem_205 : decode cX11_readsItem 205 = .ok (.ifCond .ne 5, 3) := by decide +kernel
theorem dX11_readsItem_208 : decode cX11_readsItem 208 = .ok (.iconst 0, 1) := by decide +kernel
theorem dX11_readsItem_209 : decode cX11_readsItem 209 = .ok (.ireturn, 1) := by decide +kernel
theorem dX11_readsItem_210 : decode cX11_readsItem 210 = .ok (.iload_n 2, 1) := by decide +kernel
theorem dX11_readsItem_211 : decode cX11_readsItem 211 = .ok (.bipush 108, 2) := by decide +kernel
theorem dX11_readsItem_213 : decode cX11_readsItem 213 = .ok (.if_icmp .eq 9, 3) := by decide +kernel
theorem dX11_readsItem_216 : decode cX11_readsItem 216 = .ok (.iload_n 2, 1) := by decide +kernel
theorem dX11_readsItem_217 : decode cX11_readsItem 217 = .ok (.bipush 115, 2) := by decide +kernel
theorem dX11_readsItem_219 : decode cX11_readsItem 219 = .ok (.if_icmp .ne 30, 3) := by decide +kernel
theorem dX11_readsItem_222 : decode cX11_readsItem 222 = .ok (.aload_n 0, 1) := by decide +kernel
theorem dX11_readsItem_223 : decode cX11_readsItem 223 = .ok (.iload_n 3, 1) := by decide +kernel
theorem dX11_readsItem_224 : decode cX11_readsItem 224 = .ok (.iload_n 2, 1) := by decide +kernel
theorem dX11_readsItem_225 : decode cX11_readsItem 225 = .ok (.bipush 108, 2) := by decide +kernel
theorem dX11_readsItem_227 : decode cX11_readsItem 227 = .ok (.if_icmp .ne 7, 3) := by decide +kernel
theorem dX11_readsItem_230 : decode cX11_readsItem 230 = .ok (.iconst 3, 1) := by decide +kernel
theorem dX11_readsItem_231 : decode cX11_readsItem 231 = .ok (.goto 4, 3) := by decide +kernel
theorem dX11_readsItem_234 : decode cX11_readsItem 234 = .ok (.iconst 4, 1) := by decide +kernel
theorem dX11_readsItem_235 : decode cX11_readsItem 235 = .ok (.iload 4, 2) := by decide +kernel
theorem dX11_readsItem_237 : decode cX11_readsItem 237 = .ok (.bipush (-9), 2) := by decide +kernel
theorem dX11_readsItem_239 : decode cX11_readsItem 239 = .ok (.aload_n 0, 1) := by decide +kernel
theorem dX11_readsItem_240 : decode cX11_readsItem 240 = .ok (.getfield 110, 3) := by decide +kernel
theorem dX11_readsItem_243 : decode cX11_readsItem 243 = .ok (.invokevirtual 119, 3) := by decide +kernel
theorem dX11_readsItem_246 : decode cX11_readsItem 246 = .ok (.goto 26, 3) := by decide +kernel
theorem dX11_readsItem_249 : decode cX11_readsItem 249 = .ok (.aload_n 0, 1) := by decide +kernel
theorem dX11_readsItem_250 : decode cX11_readsItem 250 = .ok (.iload_n 3, 1) := by decide +kernel
theorem dX11_readsItem_251 : decode cX11_readsItem 251 = .ok (.iload_n 2, 1) := by decide +kernel
theorem dX11_readsItem_252 : decode cX11_readsItem 252 = .ok (.bipush 116, 2) := by decide +kernel
theorem dX11_readsItem_254 : decode cX11_readsItem 254 = .ok (.if_icmp .ne 7, 3) := by decide +kernel
theorem dX11_readsItem_257 : decode cX11_readsItem 257 = .ok (.iconst 1, 1) := by decide +kernel
theorem dX11_readsItem_258 : decode cX11_readsItem 258 = .ok (.goto 4, 3) := by decide +kernel
theorem dX11_readsItem_261 : decode cX11_readsItem 261 = .ok (.iconst 5, 1) := by decide +kernel
theorem dX11_readsItem_262 : decode cX11_readsItem 262 = .ok (.iload 4, 2) := by decide +kernel
theorem dX11_readsItem_264 : decode cX11_readsItem 264 = .ok (.aload_n 0, 1) := by decide +kernel
theorem dX11_readsItem_265 : decode cX11_readsItem 265 = .ok (.getfield 110, 3) := by decide +kernel
theorem dX11_readsItem_268 : decode cX11_readsItem 268 = .ok (.iconst 0, 1) := by decide +kernel
theorem dX11_readsItem_269 : decode cX11_readsItem 269 = .ok (.invokevirtual 119, 3) := by decide +kernel
theorem dX11_readsItem_272 : decode cX11_readsItem 272 = .ok (.iconst 1, 1) := by decide +kernel
theorem dX11_readsItem_273 : decode cX11_readsItem 273 = .ok (.ireturn, 1) := by decide +kernel
set_option maxRecDepth 20000 in
theorem ggX11_faultOf_X11_byteAt : GoodIn wsX11_faultOf wsX11_byteAt := goodIn_r _ [8, 3, 9, 36, 37, 38, 39, 40, 41, 42, 43, 44, 45, 46, 47, 48, 49, 50, 51, 52, 53, 54, 55, 56, 57, 58, 59, 60, 61, 62, 63, 64, 65, 66] (by decide +kernel) (by decide +kernel)
set_option maxRecDepth 20000 in
theorem gX11_faultOf_X11_byteAt : GoodIn wsX11_faultOf (wsV RX11 107 RX11 yX11_byteAt wsX11_byteAt) := goodIn_app (goodIn_of _ (by decide +kernel)) ggX11_faultOf_X11_byteAt
set_option maxRecDepth 20000 in
theorem ggX11_faultOf_X11_readsCells : GoodIn wsX11_faultOf wsX11_readsCells := goodIn_r _ [13, 1, 14, 2, 15, 4, 5, 6, 7, 8, 3, 9, 16, 17, 18, 19, 20, 21, 22, 23, 24, 25, 26, 27, 36, 37, 38, 39, 40, 41, 42, 43, 44, 45, 46, 47, 48, 49, 50, 51, 52, 53, 54, 55, 56, 57, 58, 59, 60, 61, 62, 63, 64, 65, 66] (by decide +kernel) (by decide +kernel)
set_option maxRecDepth 20000 in
theorem gX11_faultOf_X11_readsCells : GoodIn wsX11_faultOf (wsV RX11 126 RX11 yX11_readsCells wsX11_readsCells) := goodIn_app (goodIn_of _ (by decide +kernel)) ggX11_faultOf_X11_readsCells
set_option maxRecDepth 20000 in
theorem ggX11_faultOf_X11_readsItem : GoodIn wsX11_faultOf wsX11_readsItem := goodIn_r _ [31, 1, 14, 15, 4, 5, 6, 7, 8, 3, 9, 32, 33, 34, 35, 2, 20, 21, 22, 23, 24, 25, 26, 27, 16, 17, 18, 19, 36, 37, 38, 39, 40, 41, 42, 43, 44, 45, 46, 47, 48, 49, 50, 51, 52, 53, 54, 55, 56, 57, 58, 59, 60, 61, 62, 63, 64, 65, 66] (by decide +kernel) (by decide +kernel)
set_option maxRecDepth 20000 in
theorem gX11_faultOf_X11_readsItem : GoodIn wsX11_faultOf (wsV RX11 129 RX11 yX11_readsItem wsX11_readsItem) := goodIn_app (goodIn_of _ (by decide +kernel)) ggX11_faultOf_X11_readsItem
theorem dX11_faultOf_0 : decode cX11_faultOf 0 = .ok (.aload_n 0, 1) := by decide +kernel
theorem dX11_faultOf_1 : decode cX11_faultOf 1 = .ok (.iconst 0, 1) := by decide +kernel
theorem dX11_faultOf_2 : decode cX11_faultOf 2 = .ok (.putfield 104, 3) := by decide +kernel
theorem dX11_faultOf_5 : decode cX11_faultOf 5 = .ok (.aload_n 0, 1) := by decide +kernel
theorem dX11_faultOf_6 : decode cX11_faultOf 6 = .ok (.iconst 0, 1) := by decide +kernel
theorem dX11_faultOf_7 : decode cX11_faultOf 7 = .ok (.putfield 113, 3) := by decide +kernel
theorem dX11_faultOf_10 : decode cX11_faultOf 10 = .ok (.aload_n 0, 1) := by decide +kernel
theorem dX11_faultOf_11 : decode cX11_faultOf 11 = .ok (.getfield 104, 3) := by decide +kernel
theorem dX11_faultOf_14 : decode cX11_faultOf 14 = .ok (.aload_n 0, 1) := by decide +kernel
theorem dX11_faultOf_15 : decode cX11_faultOf 15 = .ok (.getfield 22, 3) := by decide +kernel
theorem dX11_faultOf_18 : decode cX11_faultOf 18 = .ok (.iload_n 1, 1) := by decide +kernel
theorem dX11_faultOf_19 : decode cX11_faultOf 19 = .ok (.iaload, 1) := by decide +kernel
theorem dX11_faultOf_20 : decode cX11_faultOf 20 = .ok (.if_icmp .ge 61, 3) := by decide +kernel
theorem dX11_faultOf_23 : decode cX11_faultOf 23 = .ok (.aload_n 0, 1) := by decide +kernel
theorem dX11_faultOf_24 : decode cX11_faultOf 24 = .ok (.iload_n 1, 1) := by decide +kernel
theorem dX11_faultOf_25 : decode cX11_faultOf 25 = .ok (.aload_n 0, 1) := by decide +kernel
theorem dX11_faultOf_26 : decode cX11_faultOf 26 = .ok (.getfield 104, 3) := by decide +kernel
theorem dX11_faultOf_29 : decode cX11_faultOf 29 = .ok (.invokevirtual 107, 3) := by decide +kernel
theorem dX11_faultOf_32 : decode cX11_faultOf 32 = .ok (.bipush 32, 2) := by decide +kernel
theorem dX11_faultOf_34 : decode cX11_faultOf 34 = .ok (.if_icmp .ne 16, 3) := by decide +kernel
theorem dX11_faultOf_37 : decode cX11_faultOf 37 = .ok (.aload_n 0, 1) := by decide +kernel
theorem dX11_faultOf_38 : decode cX11_faultOf 38 = .ok (.dup, 1) := by decide +kernel
theorem dX11_faultOf_39 : decode cX11_faultOf 39 = .ok (.getfield 104, 3) := by decide +kernel
theorem dX11_faultOf_42 : decode cX11_faultOf 42 = .ok (.iconst 1, 1) := by decide +kernel
theorem dX11_faultOf_43 : decode cX11_faultOf 43 = .ok (.iadd, 1) := by decide +kernel
theorem dX11_faultOf_44 : decode cX11_faultOf 44 = .ok (.putfield 104, 3) := by decide +kernel
theorem dX11_faultOf_47 : decode cX11_faultOf 47 = .ok (.goto (-37), 3) := by decide +kernel
theorem dX11_faultOf_50 : decode cX11_faultOf 50 = .ok (.aload_n 0, 1) := by decide +kernel
theorem dX11_faultOf_51 : decode cX11_faultOf 51 = .ok (.getfield 113, 3) := by decide +kernel
theorem dX11_faultOf_54 : decode cX11_faultOf 54 = .ok (.ifCond .ne 14, 3) := by decide +kernel
theorem dX11_faultOf_57 : decode cX11_faultOf 57 = .ok (.aload_n 0, 1) := by decide +kernel
theorem dX11_faultOf_58 : decode cX11_faultOf 58 = .ok (.iload_n 1, 1) := by decide +kernel
theorem dX11_faultOf_59 : decode cX11_faultOf 59 = .ok (.invokevirtual 126, 3) := by decide +kernel
theorem dX11_faultOf_62 : decode cX11_faultOf 62 = .ok (.ifCond .eq 14, 3) := by decide +kernel
theorem dX11_faultOf_65 : decode cX11_faultOf 65 = .ok (.goto (-55), 3) := by decide +kernel
theorem dX11_faultOf_68 : decode cX11_faultOf 68 = .ok (.aload_n 0, 1) := by decide +kernel
theorem dX11_faultOf_69 : decode cX11_faultOf 69 = .ok (.iload_n 1, 1) := by decide +kernel
theorem dX11_faultOf_70 : decode cX11_faultOf 70 = .ok (.invokevirtual 129, 3) := by decide +kernel
theorem dX11_faultOf_73 : decode cX11_faultOf 73 = .ok (.ifCond .ne (-63), 3) := by decide +kernel
theorem dX11_faultOf_76 : decode cX11_faultOf 76 = .ok (.aload_n 0, 1) := by decide +kernel
theorem dX11_faultOf_77 : decode cX11_faultOf 77 = .ok (.getfield 104, 3) := by decide +kernel
theorem dX11_faultOf_80 : decode cX11_faultOf 80 = .ok (.ireturn, 1) := by decide +kernel
theorem dX11_faultOf_81 : decode cX11_faultOf 81 = .ok (.aload_n 0, 1) := by decide +kernel
theorem dX11_faultOf_82 : decode cX11_faultOf 82 = .ok (.getfield 113, 3) := by decide +kernel
theorem dX11_faultOf_85 : decode cX11_faultOf 85 = .ok (.ifCond .ne 12, 3) := by decide +kernel
theorem dX11_faultOf_88 : decode cX11_faultOf 88 = .ok (.aload_n 0, 1) := by decide +kernel
theorem dX11_faultOf_89 : decode cX11_faultOf 89 = .ok (.getfield 22, 3) := by decide +kernel
theorem dX11_faultOf_92 : decode cX11_faultOf 92 = .ok (.iload_n 1, 1) := by decide +kernel
theorem dX11_faultOf_93 : decode cX11_faultOf 93 = .ok (.iaload, 1) := by decide +kernel
theorem dX11_faultOf_94 : decode cX11_faultOf 94 = .ok (.goto 5, 3) := by decide +kernel
theorem dX11_faultOf_97 : decode cX11_faultOf 97 = .ok (.bipush (-9), 2) := by decide +kernel
theorem dX11_faultOf_99 : decode cX11_faultOf 99 = .ok (.ireturn, 1) := by decide +kernel
set_option maxRecDepth 20000 in
theorem ggX11_fault_X11_isText : GoodIn wsX11_fault wsX11_isText := goodIn_r _ [5, 6, 7, 4, 8] (by decide +kernel) (by decide +kernel)
set_option maxRecDepth 20000 in
theorem gX11_fault_X11_isText : GoodIn wsX11_fault (va_wsS RX11 101 yX11_isText wsX11_isText) := goodIn_app (goodIn_of _ (by decide +kernel)) ggX11_fault_X11_isText
set_option maxRecDepth 20000 in
theorem ggX11_fault_X11_meets : GoodIn wsX11_fault wsX11_meets := goodIn_r _ [12, 13, 14, 49, 50, 51, 52, 53, 54, 55, 56, 57, 58, 59, 60, 61, 62, 63, 64, 65, 66, 67, 68, 69, 70, 71, 72, 73, 74, 75, 76, 77, 78, 79] (by decide +kernel) (by decide +kernel)
set_option maxRecDepth 20000 in
theorem gX11_fault_X11_meets : GoodIn wsX11_fault (wsV RX11 90 RX11 yX11_meets wsX11_meets) := goodIn_app (goodIn_of _ (by decide +kernel)) ggX11_fault_X11_meets
set_option maxRecDepth 20000 in
theorem ggX11_fault_X11_faultOf : GoodIn wsX11_fault wsX11_faultOf := goodIn_r _ [18, 19, 20, 1, 21, 22, 23, 4, 24, 25, 26, 27, 28, 29, 30, 31, 32, 33, 34, 35, 6, 7, 8, 36, 37, 38, 39, 40, 41, 42, 43, 44, 45, 46, 47, 48, 49, 50, 51, 52, 53, 54, 55, 56, 57, 58, 59, 60, 61, 62, 63, 64, 65, 66, 67, 68, 69, 70, 71, 72, 73, 74, 75, 76, 77, 78, 79] (by decide +kernel) (by decide +kernel)
set_option maxRecDepth 20000 in
theorem gX11_fault_X11_faultOf : GoodIn wsX11_fault (wsV RX11 132 RX11 yX11_faultOf wsX11_faultOf) := goodIn_app (goodIn_of _ (by decide +kernel)) ggX11_fault_X11_faultOf
theorem dX11_fault_0 : decode cX11_fault 0 = .ok (.iload_n 1, 1) := by decide +kernel
theorem dX11_fault_1 : decode cX11_fault 1 = .ok (.invokestatic 101, 3) := by decide +kernel
theorem dX11_fault_4 : decode cX11_fault 4 = .ok (.ifCond .ne 5, 3) := by decide +kernel
theorem dX11_fault_7 : decode cX11_fault 7 = .ok (.iconst (-1), 1) := by decide +kernel
theorem dX11_fault_8 : decode cX11_fault 8 = .ok (.ireturn, 1) := by decide +kernel
theorem dX11_fault_9 : decode cX11_fault 9 = .ok (.aload_n 0, 1) := by decide +kernel
theorem dX11_fault_10 : decode cX11_fault 10 = .ok (.getfield 22, 3) := by decide +kernel
theorem dX11_fault_13 : decode cX11_fault 13 = .ok (.iload_n 1, 1) := by decide +kernel
theorem dX11_fault_14 : decode cX11_fault 14 = .ok (.iaload, 1) := by decide +kernel
theorem dX11_fault_15 : decode cX11_fault 15 = .ok (.ifCond .ge 11, 3) := by decide +kernel
theorem dX11_fault_18 : decode cX11_fault 18 = .ok (.aload_n 0, 1) := by decide +kernel
theorem dX11_fault_19 : decode cX11_fault 19 = .ok (.iconst 1, 1) := by decide +kernel
theorem dX11_fault_20 : decode cX11_fault 20 = .ok (.invokevirtual 90, 3) := by decide +kernel
theorem dX11_fault_23 : decode cX11_fault 23 = .ok (.goto 8, 3) := by decide +kernel
theorem dX11_fault_26 : decode cX11_fault 26 = .ok (.aload_n 0, 1) := by decide +kernel
theorem dX11_fault_27 : decode cX11_fault 27 = .ok (.iload_n 1, 1) := by decide +kernel
theorem dX11_fault_28 : decode cX11_fault 28 = .ok (.invokevirtual 132, 3) := by decide +kernel
theorem dX11_fault_31 : decode cX11_fault 31 = .ok (.ireturn, 1) := by decide +kernel
set_option maxRecDepth 20000 in
theorem ggX11_jail_X11_isText : GoodIn wsX11_jail wsX11_isText := goodIn_r _ [15, 16, 17, 14, 18] (by decide +kernel) (by decide +kernel)
set_option maxRecDepth 20000 in
theorem gX11_jail_X11_isText : GoodIn wsX11_jail (va_wsS RX11 101 yX11_isText wsX11_isText) := goodIn_app (goodIn_of _ (by decide +kernel)) ggX11_jail_X11_isText
set_option maxRecDepth 20000 in
theorem ggX11_jail_X11_meets : GoodIn wsX11_jail wsX11_meets := goodIn_r _ [22, 23, 24, 56, 57, 58, 59, 60, 61, 62, 63, 64, 65, 66, 67, 68, 69, 70, 71, 72, 73, 74, 75, 76, 77, 78, 79, 80, 81, 82, 83, 84, 85, 86] (by decide +kernel) (by decide +kernel)
set_option maxRecDepth 20000 in
theorem gX11_jail_X11_meets : GoodIn wsX11_jail (wsV RX11 90 RX11 yX11_meets wsX11_meets) := goodIn_app (goodIn_of _ (by decide +kernel)) ggX11_jail_X11_meets
set_option maxRecDepth 20000 in
theorem ggX11_jail_X11_faultOf : GoodIn wsX11_jail wsX11_faultOf := goodIn_r _ [28, 29, 2, 1, 30, 31, 32, 14, 33, 34, 35, 36, 37, 38, 39, 7, 40, 41, 42, 43, 16, 17, 18, 44, 45, 46, 47, 5, 48, 49, 50, 51, 52, 53, 54, 55, 56, 57, 58, 59, 60, 61, 62, 63, 64, 65, 66, 67, 68, 69, 70, 71, 72, 73, 74, 75, 76, 77, 78, 79, 80, 81, 82, 83, 84, 85, 86] (by decide +kernel) (by decide +kernel)
set_option maxRecDepth 20000 in
theorem gX11_jail_X11_faultOf : GoodIn wsX11_jail (wsV RX11 132 RX11 yX11_faultOf wsX11_faultOf) := goodIn_app (goodIn_of _ (by decide +kernel)) ggX11_jail_X11_faultOf
theorem dX11_jail_0 : decode cX11_jail 0 = .ok (.iload_n 1, 1) := by decide +kernel
theorem dX11_jail_1 : decode cX11_jail 1 = .ok (.invokestatic 101, 3) := by decide +kernel
theorem dX11_jail_4 : decode cX11_jail 4 = .ok (.ifCond .ne 5, 3) := by decide +kernel
theorem dX11_jail_7 : decode cX11_jail 7 = .ok (.iconst (-1), 1) := by decide +kernel
theorem dX11_jail_8 : decode cX11_jail 8 = .ok (.ireturn, 1) := by decide +kernel
theorem dX11_jail_9 : decode cX11_jail 9 = .ok (.aload_n 0, 1) := by decide +kernel
theorem dX11_jail_10 : decode cX11_jail 10 = .ok (.getfield 22, 3) := by decide +kernel
theorem dX11_jail_13 : decode cX11_jail 13 = .ok (.iload_n 1, 1) := by decide +kernel
theorem dX11_jail_14 : decode cX11_jail 14 = .ok (.iaload, 1) := by decide +kernel
theorem dX11_jail_15 : decode cX11_jail 15 = .ok (.ifCond .ge 9, 3) := by decide +kernel
theorem dX11_jail_18 : decode cX11_jail 18 = .ok (.aload_n 0, 1) := by decide +kernel
theorem dX11_jail_19 : decode cX11_jail 19 = .ok (.iconst 1, 1) := by decide +kernel
theorem dX11_jail_20 : decode cX11_jail 20 = .ok (.invokevirtual 90, 3) := by decide +kernel
theorem dX11_jail_23 : decode cX11_jail 23 = .ok (.ireturn, 1) := by decide +kernel
theorem dX11_jail_24 : decode cX11_jail 24 = .ok (.aload_n 0, 1) := by decide +kernel
theorem dX11_jail_25 : decode cX11_jail 25 = .ok (.iload_n 1, 1) := by decide +kernel
theorem dX11_jail_26 : decode cX11_jail 26 = .ok (.invokevirtual 132, 3) := by decide +kernel
theorem dX11_jail_29 : decode cX11_jail 29 = .ok (.bipush (-9), 2) := by decide +kernel
theorem dX11_jail_31 : decode cX11_jail 31 = .ok (.if_icmp .eq 6, 3) := by decide +kernel
theorem dX11_jail_34 : decode cX11_jail 34 = .ok (.bipush (-4), 2) := by decide +kernel
theorem dX11_jail_36 : decode cX11_jail 36 = .ok (.ireturn, 1) := by decide +kernel
theorem dX11_jail_37 : decode cX11_jail 37 = .ok (.aload_n 0, 1) := by decide +kernel
theorem dX11_jail_38 : decode cX11_jail 38 = .ok (.aload_n 0, 1) := by decide +kernel
theorem dX11_jail_39 : decode cX11_jail 39 = .ok (.getfield 113, 3) := by decide +kernel
theorem dX11_jail_42 : decode cX11_jail 42 = .ok (.putfield 135, 3) := by decide +kernel
theorem dX11_jail_45 : decode cX11_jail 45 = .ok (.iconst 0, 1) := by decide +kernel
theorem dX11_jail_46 : decode cX11_jail 46 = .ok (.istore_n 2, 1) := by decide +kernel
theorem dX11_jail_47 : decode cX11_jail 47 = .ok (.iload_n 2, 1) := by decide +kernel
theorem dX11_jail_48 : decode cX11_jail 48 = .ok (.bipush 32, 2) := by decide +kernel
theorem dX11_jail_50 : decode cX11_jail 50 = .ok (.if_icmp .ge 21, 3) := by decide +kernel
theorem dX11_jail_53 : decode cX11_jail 53 = .ok (.aload_n 0, 1) := by decide +kernel
theorem dX11_jail_54 : decode cX11_jail 54 = .ok (.getfield 29, 3) := by decide +kernel
theorem dX11_jail_57 : decode cX11_jail 57 = .ok (.iload_n 2, 1) := by decide +kernel
theorem dX11_jail_58 : decode cX11_jail 58 = .ok (.aload_n 0, 1) := by decide +kernel
theorem dX11_jail_59 : decode cX11_jail 59 = .ok (.getfield 35, 3) := by decide +kernel
theorem dX11_jail_62 : decode cX11_jail 62 = .ok (.iload_n 2, 1) := by decide +kernel
theorem dX11_jail_63 : decode cX11_jail 63 = .ok (.iaload, 1) := by decide +kernel
theorem dX11_jail_64 : decode cX11_jail 64 = .ok (.iastore, 1) := by decide +kernel
theorem dX11_jail_65 : decode cX11_jail 65 = .ok (.iinc 2 1, 3) := by decide +kernel
theorem dX11_jail_68 : decode cX11_jail 68 = .ok (.goto (-21), 3) := by decide +kernel
theorem dX11_jail_71 : decode cX11_jail 71 = .ok (.iconst 0, 1) := by decide +kernel
theorem dX11_jail_72 : decode cX11_jail 72 = .ok (.istore_n 2, 1) := by decide +kernel
theorem dX11_jail_73 : decode cX11_jail 73 = .ok (.iload_n 2, 1) := by decide +kernel
theorem dX11_jail_74 : decode cX11_jail 74 = .ok (.aload_n 0, 1) := by decide +kernel
theorem dX11_jail_75 : decode cX11_jail 75 = .ok (.getfield 135, 3) := by decide +kernel
theorem dX11_jail_78 : decode cX11_jail 78 = .ok (.if_icmp .ge 21, 3) := by decide +kernel
theorem dX11_jail_81 : decode cX11_jail 81 = .ok (.aload_n 0, 1) := by decide +kernel
theorem dX11_jail_82 : decode cX11_jail 82 = .ok (.getfield 32, 3) := by decide +kernel
theorem dX11_jail_85 : decode cX11_jail 85 = .ok (.iload_n 2, 1) := by decide +kernel
theorem dX11_jail_86 : decode cX11_jail 86 = .ok (.aload_n 0, 1) := by decide +kernel
theorem dX11_jail_87 : decode cX11_jail 87 = .ok (.getfield 38, 3) := by decide +kernel
theorem dX11_jail_90 : decode cX11_jail 90 = .ok (.iload_n 2, 1) := by decide +kernel
theorem dX11_jail_91 : decode cX11_jail 91 = .ok (.iaload, 1) := by decide +kernel
theorem dX11_jail_92 : decode cX11_jail 92 = .ok (.iastore, 1) := by decide +kernel
theorem dX11_jail_93 : decode cX11_jail 93 = .ok (.iinc 2 1, 3) := by decide +kernel
theorem dX11_jail_96 : decode cX11_jail 96 = .ok (.goto (-23), 3) := by decide +kernel
theorem dX11_jail_99 : decode cX11_jail 99 = .ok (.aload_n 0, 1) := by decide +kernel
theorem dX11_jail_100 : decode cX11_jail 100 = .ok (.iconst 0, 1) := by decide +kernel
theorem dX11_jail_101 : decode cX11_jail 101 = .ok (.putfield 138, 3) := by decide +kernel
theorem dX11_jail_104 : decode cX11_jail 104 = .ok (.aload_n 0, 1) := by decide +kernel
theorem dX11_jail_105 : decode cX11_jail 105 = .ok (.iconst 0, 1) := by decide +kernel
theorem dX11_jail_106 : decode cX11_jail 106 = .ok (.putfield 141, 3) := by decide +kernel
theorem dX11_jail_109 : decode cX11_jail 109 = .ok (.aload_n 0, 1) := by decide +kernel
theorem dX11_jail_110 : decode cX11_jail 110 = .ok (.iconst 0, 1) := by decide +kernel
theorem dX11_jail_111 : decode cX11_jail 111 = .ok (.putfield 144, 3) := by decide +kernel
theorem dX11_jail_114 : decode cX11_jail 114 = .ok (.iconst 0, 1) := by decide +kernel
theorem dX11_jail_115 : decode cX11_jail 115 = .ok (.istore_n 2, 1) := by decide +kernel
theorem dX11_jail_116 : decode cX11_jail 116 = .ok (.iload_n 2, 1) := by decide +kernel
theorem dX11_jail_117 : decode cX11_jail 117 = .ok (.iconst 3, 1) := by decide +kernel
theorem dX11_jail_118 : decode cX11_jail 118 = .ok (.if_icmp .ge 16, 3) := by decide +kernel
theorem dX11_jail_121 : decode cX11_jail 121 = .ok (.aload_n 0, 1) := by decide +kernel
theorem dX11_jail_122 : decode cX11_jail 122 = .ok (.getfield 41, 3) := by decide +kernel
theorem dX11_jail_125 : decode cX11_jail 125 = .ok (.iload_n 2, 1) := by decide +kernel
theorem dX11_jail_126 : decode cX11_jail 126 = .ok (.iconst (-1), 1) := by decide +kernel
theorem dX11_jail_127 : decode cX11_jail 127 = .ok (.iastore, 1) := by decide +kernel
theorem dX11_jail_128 : decode cX11_jail 128 = .ok (.iinc 2 1, 3) := by decide +kernel
theorem dX11_jail_131 : decode cX11_jail 131 = .ok (.goto (-15), 3) := by decide +kernel
theorem dX11_jail_134 : decode cX11_jail 134 = .ok (.aload_n 0, 1) := by decide +kernel
theorem dX11_jail_135 : decode cX11_jail 135 = .ok (.getfield 135, 3) := by decide +kernel
theorem dX11_jail_138 : decode cX11_jail 138 = .ok (.ireturn, 1) := by decide +kernel
set_option maxRecDepth 20000 in
theorem ggX11_isCell_X11_in : GoodIn wsX11_isCell wsX11_in := goodIn_r _ [5] (by decide +kernel) (by decide +kernel)
set_option maxRecDepth 20000 in
theorem gX11_isCell_X11_in : GoodIn wsX11_isCell (va_wsS RX11 76 yX11_in wsX11_in) := goodIn_app (goodIn_of _ (by decide +kernel)) ggX11_isCell_X11_in
theorem dX11_isCell_0 : decode cX11_isCell 0 = .ok (.iload_n 1, 1) := by decide +kernel
theorem dX11_isCell_1 : decode cX11_isCell 1 = .ok (.iconst 0, 1) := by decide +kernel
theorem dX11_isCell_2 : decode cX11_isCell 2 = .ok (.aload_n 0, 1) := by decide +kernel
theorem dX11_isCell_3 : decode cX11_isCell 3 = .ok (.getfield 135, 3) := by decide +kernel
theorem dX11_isCell_6 : decode cX11_isCell 6 = .ok (.iconst 1, 1) := by decide +kernel
theorem dX11_isCell_7 : decode cX11_isCell 7 = .ok (.isub, 1) := by decide +kernel
theorem dX11_isCell_8 : decode cX11_isCell 8 = .ok (.invokestatic 76, 3) := by decide +kernel
theorem dX11_isCell_11 : decode cX11_isCell 11 = .ok (.ireturn, 1) := by decide +kernel
theorem dX11_all_0 : decode cX11_all 0 = .ok (.iconst 1, 1) := by decide +kernel
theorem dX11_all_1 : decode cX11_all 1 = .ok (.aload_n 0, 1) := by decide +kernel
theorem dX11_all_2 : decode cX11_all 2 = .ok (.getfield 135, 3) := by decide +kernel
theorem dX11_all_5 : decode cX11_all 5 = .ok (.ishl, 1) := by decide +kernel
theorem dX11_all_6 : decode cX11_all 6 = .ok (.iconst 1, 1) := by decide +kernel
theorem dX11_all_7 : decode cX11_all 7 = .ok (.isub, 1) := by decide +kernel
theorem dX11_all_8 : decode cX11_all 8 = .ok (.ireturn, 1) := by decide +kernel
set_option maxRecDepth 20000 in
theorem ggX11_isSet_X11_all : GoodIn wsX11_isSet wsX11_all := goodIn_r _ [5, 6, 10, 11, 12, 13, 14, 15, 16, 17, 18, 19, 20, 21, 22, 23, 24, 25, 26, 27, 28, 29, 30, 31, 32, 33, 34, 35, 36, 37, 38, 39, 40] (by decide +kernel) (by decide +kernel)
set_option maxRecDepth 20000 in
theorem gX11_isSet_X11_all : GoodIn wsX11_isSet (wsV RX11 147 RX11 yX11_all wsX11_all) := goodIn_app (goodIn_of _ (by decide +kernel)) ggX11_isSet_X11_all
set_option maxRecDepth 20000 in
theorem ggX11_isSet_X11_in : GoodIn wsX11_isSet wsX11_in := goodIn_r _ [9] (by decide +kernel) (by decide +kernel)
set_option maxRecDepth 20000 in
theorem gX11_isSet_X11_in : GoodIn wsX11_isSet (va_wsS RX11 76 yX11_in wsX11_in) := goodIn_app (goodIn_of _ (by decide +kernel)) ggX11_isSet_X11_in
theorem dX11_isSet_0 : decode cX11_isSet 0 = .ok (.iload_n 1, 1) := by decide +kernel
theorem dX11_isSet_1 : decode cX11_isSet 1 = .ok (.iconst 0, 1) := by decide +kernel
theorem dX11_isSet_2 : decode cX11_isSet 2 = .ok (.aload_n 0, 1) := by decide +kernel
theorem dX11_isSet_3 : decode cX11_isSet 3 = .ok (.invokevirtual 147, 3) := by decide +kernel
theorem dX11_isSet_6 : decode cX11_isSet 6 = .ok (.invokestatic 76, 3) := by decide +kernel
theorem dX11_isSet_9 : decode cX11_isSet 9 = .ok (.ireturn, 1) := by decide +kernel
theorem dX11_kind_0 : decode cX11_kind 0 = .ok (.aload_n 0, 1) := by decide +kernel
theorem dX11_kind_1 : decode cX11_kind 1 = .ok (.getfield 29, 3) := by decide +kernel
theorem dX11_kind_4 : decode cX11_kind 4 = .ok (.iconst 4, 1) := by decide +kernel
theorem dX11_kind_5 : decode cX11_kind 5 = .ok (.iload_n 1, 1) := by decide +kernel
theorem dX11_kind_6 : decode cX11_kind 6 = .ok (.imul, 1) := by decide +kernel
theorem dX11_kind_7 : decode cX11_kind 7 = .ok (.iaload, 1) := by decide +kernel
theorem dX11_kind_8 : decode cX11_kind 8 = .ok (.ireturn, 1) := by decide +kernel
theorem dX11_keeper_0 : decode cX11_keeper 0 = .ok (.aload_n 0, 1) := by decide +kernel
theorem dX11_keeper_1 : decode cX11_keeper 1 = .ok (.getfield 29, 3) := by decide +kernel
theorem dX11_keeper_4 : decode cX11_keeper 4 = .ok (.iconst 4, 1) := by decide +kernel
theorem dX11_keeper_5 : decode cX11_keeper 5 = .ok (.iload_n 1, 1) := by decide +kernel
theorem dX11_keeper_6 : decode cX11_keeper 6 = .ok (.imul, 1) := by decide +kernel
theorem dX11_keeper_7 : decode cX11_keeper 7 = .ok (.iconst 1, 1) := by decide +kernel
theorem dX11_keeper_8 : decode cX11_keeper 8 = .ok (.iadd, 1) := by decide +kernel
theorem dX11_keeper_9 : decode cX11_keeper 9 = .ok (.iaload, 1) := by decide +kernel
theorem dX11_keeper_10 : decode cX11_keeper 10 = .ok (.ireturn, 1) := by decide +kernel
theorem dX11_otherKeeper_0 : decode cX11_otherKeeper 0 = .ok (.aload_n 0, 1) := by decide +kernel
theorem dX11_otherKeeper_1 : decode cX11_otherKeeper 1 = .ok (.getfield 29, 3) := by decide +kernel
theorem dX11_otherKeeper_4 : decode cX11_otherKeeper 4 = .ok (.iconst 4, 1) := by decide +kernel
theorem dX11_otherKeeper_5 : decode cX11_otherKeeper 5 = .ok (.iload_n 1, 1) := by decide +kernel
theorem dX11_otherKeeper_6 : decode cX11_otherKeeper 6 = .ok (.imul, 1) := by decide +kernel
theorem dX11_otherKeeper_7 : decode cX11_otherKeeper 7 = .ok (.iconst 2, 1) := by decide +kernel
theorem dX11_otherKeeper_8 : decode cX11_otherKeeper 8 = .ok (.iadd, 1) := by decide +kernel
theorem dX11_otherKeeper_9 : decode cX11_otherKeeper 9 = .ok (.iaload, 1) := by decide +kernel
theorem dX11_otherKeeper_10 : decode cX11_otherKeeper 10 = .ok (.ireturn, 1) := by decide +kernel
set_option maxRecDepth 20000 in
theorem ggX11_doQuarrel_X11_has : GoodIn wsX11_doQuarrel wsX11_has := goodIn_r _ [5] (by decide +kernel) (by decide +kernel)
set_option maxRecDepth 20000 in
theorem gX11_doQuarrel_X11_has : GoodIn wsX11_doQuarrel (va_wsS RX11 151 yX11_has wsX11_has) := goodIn_app (goodIn_of _ (by decide +kernel)) ggX11_doQuarrel_X11_has
theorem dX11_doQuarrel_0 : decode cX11_doQuarrel 0 = .ok (.aload_n 0, 1) := by decide +kernel
theorem dX11_doQuarrel_1 : decode cX11_doQuarrel 1 = .ok (.getfield 32, 3) := by decide +kernel
theorem dX11_doQuarrel_4 : decode cX11_doQuarrel 4 = .ok (.iload_n 1, 1) := by decide +kernel
theorem dX11_doQuarrel_5 : decode cX11_doQuarrel 5 = .ok (.iaload, 1) := by decide +kernel
theorem dX11_doQuarrel_6 : decode cX11_doQuarrel 6 = .ok (.iload_n 2, 1) := by decide +kernel
theorem dX11_doQuarrel_7 : decode cX11_doQuarrel 7 = .ok (.invokestatic 151, 3) := by decide +kernel
theorem dX11_doQuarrel_10 : decode cX11_doQuarrel 10 = .ok (.ireturn, 1) := by decide +kernel
set_option maxRecDepth 20000 in
theorem ggX11_isLate_X11_kind : GoodIn wsX11_isLate wsX11_kind := goodIn_r _ [5, 6, 7, 8, 9, 10, 11, 12, 13, 14, 15, 16, 17, 18, 19, 20, 21, 22, 23, 24, 25, 26, 27, 28, 29, 30, 31, 32, 33, 34, 35, 36, 37] (by decide +kernel) (by decide +kernel)
set_option maxRecDepth 20000 in
theorem gX11_isLate_X11_kind : GoodIn wsX11_isLate (wsV RX11 155 RX11 yX11_kind wsX11_kind) := goodIn_app (goodIn_of _ (by decide +kernel)) ggX11_isLate_X11_kind
theorem dX11_isLate_0 : decode cX11_isLate 0 = .ok (.aload_n 0, 1) := by decide +kernel
theorem dX11_isLate_1 : decode cX11_isLate 1 = .ok (.iload_n 1, 1) := by decide +kernel
theorem dX11_isLate_2 : decode cX11_isLate 2 = .ok (.invokevirtual 155, 3) := by decide +kernel
theorem dX11_isLate_5 : decode cX11_isLate 5 = .ok (.iconst 3, 1) := by decide +kernel
theorem dX11_isLate_6 : decode cX11_isLate 6 = .ok (.if_icmp .eq 12, 3) := by decide +kernel
theorem dX11_isLate_9 : decode cX11_isLate 9 = .ok (.aload_n 0, 1) := by decide +kernel
theorem dX11_isLate_10 : decode cX11_isLate 10 = .ok (.iload_n 1, 1) := by decide +kernel
theorem dX11_isLate_11 : decode cX11_isLate 11 = .ok (.invokevirtual 155, 3) := by decide +kernel
theorem dX11_isLate_14 : decode cX11_isLate 14 = .ok (.iconst 4, 1) := by decide +kernel
theorem dX11_isLate_15 : decode cX11_isLate 15 = .ok (.if_icmp .ne 7, 3) := by decide +kernel
theorem dX11_isLate_18 : decode cX11_isLate 18 = .ok (.iconst 1, 1) := by decide +kernel
theorem dX11_isLate_19 : decode cX11_isLate 19 = .ok (.goto 4, 3) := by decide +kernel
theorem dX11_isLate_22 : decode cX11_isLate 22 = .ok (.iconst 0, 1) := by decide +kernel
theorem dX11_isLate_23 : decode cX11_isLate 23 = .ok (.ireturn, 1) := by decide +kernel
set_option maxRecDepth 20000 in
theorem ggX11_isTwo_X11_kind : GoodIn wsX11_isTwo wsX11_kind := goodIn_r _ [5, 6, 7, 8, 9, 10, 11, 12, 13, 14, 15, 16, 17, 18, 19, 20, 21, 22, 23, 24, 25, 26, 27, 28, 29, 30, 31, 32, 33, 34, 35, 36, 37] (by decide +kernel) (by decide +kernel)
set_option maxRecDepth 20000 in
theorem gX11_isTwo_X11_kind : GoodIn wsX11_isTwo (wsV RX11 155 RX11 yX11_kind wsX11_kind) := goodIn_app (goodIn_of _ (by decide +kernel)) ggX11_isTwo_X11_kind
theorem dX11_isTwo_0 : decode cX11_isTwo 0 = .ok (.aload_n 0, 1) := by decide +kernel
theorem dX11_isTwo_1 : decode cX11_isTwo 1 = .ok (.iload_n 1, 1) := by decide +kernel
theorem dX11_isTwo_2 : decode cX11_isTwo 2 = .ok (.invokevirtual 155, 3) := by decide +kernel
theorem dX11_isTwo_5 : decode cX11_isTwo 5 = .ok (.iconst 1, 1) := by decide +kernel
theorem dX11_isTwo_6 : decode cX11_isTwo 6 = .ok (.if_icmp .eq 12, 3) := by decide +kernel
theorem dX11_isTwo_9 : decode cX11_isTwo 9 = .ok (.aload_n 0, 1) := by decide +kernel
theorem dX11_isTwo_10 : decode cX11_isTwo 10 = .ok (.iload_n 1, 1) := by decide +kernel
theorem dX11_isTwo_11 : decode cX11_isTwo 11 = .ok (.invokevirtual 155, 3) := by decide +kernel
theorem dX11_isTwo_14 : decode cX11_isTwo 14 = .ok (.iconst 5, 1) := by decide +kernel
theorem dX11_isTwo_15 : decode cX11_isTwo 15 = .ok (.if_icmp .ne 7, 3) := by decide +kernel
theorem dX11_isTwo_18 : decode cX11_isTwo 18 = .ok (.iconst 1, 1) := by decide +kernel
theorem dX11_isTwo_19 : decode cX11_isTwo 19 = .ok (.goto 4, 3) := by decide +kernel
theorem dX11_isTwo_22 : decode cX11_isTwo 22 = .ok (.iconst 0, 1) := by decide +kernel
theorem dX11_isTwo_23 : decode cX11_isTwo 23 = .ok (.ireturn, 1) := by decide +kernel
set_option maxRecDepth 20000 in
theorem ggX11_door_X11_isCell : GoodIn wsX11_door wsX11_isCell := goodIn_r _ [6, 7, 8, 9, 5, 10, 16, 17, 18, 19, 20, 21, 22, 23, 24, 25, 26, 27, 28, 29, 30, 31, 32, 33, 34, 35, 36, 37, 38, 39, 40, 41, 42, 43, 44, 45, 46] (by decide +kernel) (by decide +kernel)
set_option maxRecDepth 20000 in
theorem gX11_door_X11_isCell : GoodIn wsX11_door (wsV RX11 158 RX11 yX11_isCell wsX11_isCell) := goodIn_app (goodIn_of _ (by decide +kernel)) ggX11_door_X11_isCell
set_option maxRecDepth 20000 in
theorem ggX11_door_X11_in : GoodIn wsX11_door wsX11_in := goodIn_r _ [10] (by decide +kernel) (by decide +kernel)
set_option maxRecDepth 20000 in
theorem gX11_door_X11_in : GoodIn wsX11_door (va_wsS RX11 76 yX11_in wsX11_in) := goodIn_app (goodIn_of _ (by decide +kernel)) ggX11_door_X11_in
set_option maxRecDepth 20000 in
theorem ggX11_door_X11_tells : GoodIn wsX11_door wsX11_tells := goodIn_r _ [14, 15, 16, 17, 18, 19, 20, 21, 22, 23, 24, 25, 26, 27, 28, 29, 30, 31, 32, 33, 34, 35, 36, 37, 38, 39, 40, 41, 42, 43, 44, 45, 46] (by decide +kernel) (by decide +kernel)
set_option maxRecDepth 20000 in
theorem gX11_door_X11_tells : GoodIn wsX11_door (wsV RX11 98 RX11 yX11_tells wsX11_tells) := goodIn_app (goodIn_of _ (by decide +kernel)) ggX11_door_X11_tells
theorem dX11_door_0 : decode cX11_door 0 = .ok (.aload_n 0, 1) := by decide +kernel
theorem dX11_door_1 : decode cX11_door 1 = .ok (.iload_n 1, 1) := by decide +kernel
theorem dX11_door_2 : decode cX11_door 2 = .ok (.invokevirtual 158, 3) := by decide +kernel
theorem dX11_door_5 : decode cX11_door 5 = .ok (.ifCond .eq 30, 3) := by decide +kernel
theorem dX11_door_8 : decode cX11_door 8 = .ok (.iload_n 2, 1) := by decide +kernel
theorem dX11_door_9 : decode cX11_door 9 = .ok (.iconst 0, 1) := by decide +kernel
theorem dX11_door_10 : decode cX11_door 10 = .ok (.iconst 3, 1) := by decide +kernel
theorem dX11_door_11 : decode cX11_door 11 = .ok (.invokestatic 76, 3) := by decide +kernel
theorem dX11_door_14 : decode cX11_door 14 = .ok (.ifCond .eq 21, 3) := by decide +kernel
theorem dX11_door_17 : decode cX11_door 17 = .ok (.aload_n 0, 1) := by decide +kernel
theorem dX11_door_18 : decode cX11_door 18 = .ok (.aload_n 0, 1) := by decide +kernel
theorem dX11_door_19 : decode cX11_door 19 = .ok (.getfield 29, 3) := by decide +kernel
theorem dX11_door_22 : decode cX11_door 22 = .ok (.iconst 4, 1) := by decide +kernel
theorem dX11_door_23 : decode cX11_door 23 = .ok (.iload_n 1, 1) := by decide +kernel
theorem dX11_door_24 : decode cX11_door 24 = .ok (.imul, 1) := by decide +kernel
theorem dX11_door_25 : decode cX11_door 25 = .ok (.iload_n 2, 1) := by decide +kernel
theorem dX11_door_26 : decode cX11_door 26 = .ok (.iadd, 1) := by decide +kernel
theorem dX11_door_27 : decode cX11_door 27 = .ok (.iaload, 1) := by decide +kernel
theorem dX11_door_28 : decode cX11_door 28 = .ok (.iconst 1, 1) := by decide +kernel
theorem dX11_door_29 : decode cX11_door 29 = .ok (.invokevirtual 98, 3) := by decide +kernel
theorem dX11_door_32 : decode cX11_door 32 = .ok (.goto 4, 3) := by decide +kernel
theorem dX11_door_35 : decode cX11_door 35 = .ok (.iconst (-1), 1) := by decide +kernel
theorem dX11_door_36 : decode cX11_door 36 = .ok (.ireturn, 1) := by decide +kernel
set_option maxRecDepth 20000 in
theorem ggX11_mark_X11_isCell : GoodIn wsX11_mark wsX11_isCell := goodIn_r _ [6, 7, 8, 9, 5, 10, 47, 48, 49, 50, 51, 52, 53, 54, 55, 56, 57, 58, 59, 60, 61, 62, 63, 64, 65, 66, 67, 68, 69, 70, 71, 72, 73, 74, 75, 76, 77] (by decide +kernel) (by decide +kernel)
set_option maxRecDepth 20000 in
theorem gX11_mark_X11_isCell : GoodIn wsX11_mark (wsV RX11 158 RX11 yX11_isCell wsX11_isCell) := goodIn_app (goodIn_of _ (by decide +kernel)) ggX11_mark_X11_isCell
set_option maxRecDepth 20000 in
theorem ggX11_mark_X11_in : GoodIn wsX11_mark wsX11_in := goodIn_r _ [10] (by decide +kernel) (by decide +kernel)
set_option maxRecDepth 20000 in
theorem gX11_mark_X11_in : GoodIn wsX11_mark (va_wsS RX11 76 yX11_in wsX11_in) := goodIn_app (goodIn_of _ (by decide +kernel)) ggX11_mark_X11_in
set_option maxRecDepth 20000 in
theorem ggX11_mark_X11_kind : GoodIn wsX11_mark wsX11_kind := goodIn_r _ [14, 1, 47, 48, 49, 50, 51, 52, 53, 54, 55, 56, 57, 58, 59, 60, 61, 62, 63, 64, 65, 66, 67, 68, 69, 70, 71, 72, 73, 74, 75, 76, 77] (by decide +kernel) (by decide +kernel)
set_option maxRecDepth 20000 in
theorem gX11_mark_X11_kind : GoodIn wsX11_mark (wsV RX11 155 RX11 yX11_kind wsX11_kind) := goodIn_app (goodIn_of _ (by decide +kernel)) ggX11_mark_X11_kind
set_option maxRecDepth 20000 in
theorem ggX11_mark_X11_isTwo : GoodIn wsX11_mark wsX11_isTwo := goodIn_r _ [18, 11, 12, 13, 5, 14, 1, 47, 48, 49, 50, 51, 52, 53, 54, 55, 56, 57, 58, 59, 60, 61, 62, 63, 64, 65, 66, 67, 68, 69, 70, 71, 72, 73, 74, 75, 76, 77] (by decide +kernel) (by decide +kernel)
set_option maxRecDepth 20000 in
theorem gX11_mark_X11_isTwo : GoodIn wsX11_mark (wsV RX11 161 RX11 yX11_isTwo wsX11_isTwo) := goodIn_app (goodIn_of _ (by decide +kernel)) ggX11_mark_X11_isTwo
set_option maxRecDepth 20000 in
theorem ggX11_mark_X11_isLate : GoodIn wsX11_mark wsX11_isLate := goodIn_r _ [22, 11, 12, 13, 5, 14, 1, 47, 48, 49, 50, 51, 52, 53, 54, 55, 56, 57, 58, 59, 60, 61, 62, 63, 64, 65, 66, 67, 68, 69, 70, 71, 72, 73, 74, 75, 76, 77] (by decide +kernel) (by decide +kernel)
set_option maxRecDepth 20000 in
theorem gX11_mark_X11_isLate : GoodIn wsX11_mark (wsV RX11 164 RX11 yX11_isLate wsX11_isLate) := goodIn_app (goodIn_of _ (by decide +kernel)) ggX11_mark_X11_isLate
set_option maxRecDepth 20000 in
theorem ggX11_mark_X11_meets : GoodIn wsX11_mark wsX11_meets := goodIn_r _ [26, 27, 28, 47, 48, 49, 50, 51, 52, 53, 54, 55, 56, 57, 58, 59, 60, 61, 62, 63, 64, 65, 66, 67, 68, 69, 70, 71, 72, 73, 74, 75, 76, 77] (by decide +kernel) (by decide +kernel)
set_option maxRecDepth 20000 in
theorem gX11_mark_X11_meets : GoodIn wsX11_mark (wsV RX11 90 RX11 yX11_meets wsX11_meets) := goodIn_app (goodIn_of _ (by decide +kernel)) ggX11_mark_X11_meets
set_option maxRecDepth 20000 in
theorem ggX11_mark_X11_keeper : GoodIn wsX11_mark wsX11_keeper := goodIn_r _ [32, 1, 47, 48, 49, 50, 51, 52, 53, 54, 55, 56, 57, 58, 59, 60, 61, 62, 63, 64, 65, 66, 67, 68, 69, 70, 71, 72, 73, 74, 75, 76, 77] (by decide +kernel) (by decide +kernel)
set_option maxRecDepth 20000 in
theorem gX11_mark_X11_keeper : GoodIn wsX11_mark (wsV RX11 167 RX11 yX11_keeper wsX11_keeper) := goodIn_app (goodIn_of _ (by decide +kernel)) ggX11_mark_X11_keeper
set_option maxRecDepth 20000 in
theorem ggX11_mark_X11_otherKeeper : GoodIn wsX11_mark wsX11_otherKeeper := goodIn_r _ [36, 1, 47, 48, 49, 50, 51, 52, 53, 54, 55, 56, 57, 58, 59, 60, 61, 62, 63, 64, 65, 66, 67, 68, 69, 70, 71, 72, 73, 74, 75, 76, 77] (by decide +kernel) (by decide +kernel)
set_option maxRecDepth 20000 in
theorem gX11_mark_X11_otherKeeper : GoodIn wsX11_mark (wsV RX11 170 RX11 yX11_otherKeeper wsX11_otherKeeper) := goodIn_app (goodIn_of _ (by decide +kernel)) ggX11_mark_X11_otherKeeper
set_option maxRecDepth 20000 in
theorem ggX11_mark_X11_lesser : GoodIn wsX11_mark wsX11_lesser := goodIn_r _ [39] (by decide +kernel) (by decide +kernel)
set_option maxRecDepth 20000 in
theorem gX11_mark_X11_lesser : GoodIn wsX11_mark (va_wsS RX11 173 yX11_lesser wsX11_lesser) := goodIn_app (goodIn_of _ (by decide +kernel)) ggX11_mark_X11_lesser
set_option maxRecDepth 20000 in
theorem ggX11_mark_X11_keysOf : GoodIn wsX11_mark wsX11_keysOf := goodIn_r _ [43, 7, 29, 30, 31, 5, 32, 1, 33, 34, 35, 36, 47, 48, 49, 50, 51, 52, 53, 54, 55, 56, 57, 58, 59, 60, 61, 62, 63, 64, 65, 66, 67, 68, 69, 70, 71, 72, 73, 74, 75, 76, 77] (by decide +kernel) (by decide +kernel)
set_option maxRecDepth 20000 in
theorem gX11_mark_X11_keysOf : GoodIn wsX11_mark (wsV RX11 176 RX11 yX11_keysOf wsX11_keysOf) := goodIn_app (goodIn_of _ (by decide +kernel)) ggX11_mark_X11_keysOf
set_option maxRecDepth 20000 in
theorem ggX11_mark_X11_far : GoodIn wsX11_mark wsX11_far := goodIn_r _ [46] (by decide +kernel) (by decide +kernel)
set_option maxRecDepth 20000 in
theorem gX11_mark_X11_far : GoodIn wsX11_mark (va_wsS RX11 179 yX11_far wsX11_far) := goodIn_app (goodIn_of _ (by decide +kernel)) ggX11_mark_X11_far
theorem dX11_mark_0 : decode cX11_mark 0 = .ok (.aload_n 0, 1) := by decide +kernel
theorem dX11_mark_1 : decode cX11_mark 1 = .ok (.iload_n 1, 1) := by decide +kernel
theorem dX11_mark_2 : decode cX11_mark 2 = .ok (.invokevirtual 158, 3) := by decide +kernel
theorem dX11_mark_5 : decode cX11_mark 5 = .ok (.ifCond .eq 12, 3) := by decide +kernel
theorem dX11_mark_8 : decode cX11_mark 8 = .ok (.iload_n 2, 1) := by decide +kernel
theorem dX11_mark_9 : decode cX11_mark 9 = .ok (.iconst 1, 1) := by decide +kernel
theorem dX11_mark_10 : decode cX11_mark 10 = .ok (.iconst 5, 1) := by decide +kernel
theorem dX11_mark_11 : decode cX11_mark 11 = .ok (.invokestatic 76, 3) := by decide +kernel
theorem dX11_mark_14 : decode cX11_mark 14 = .ok (.ifCond .ne 5, 3) := by decide +kernel
theorem dX11_mark_17 : decode cX11_mark 17 = .ok (.iconst (-1), 1) := by decide +kernel
theorem dX11_mark_18 : decode cX11_mark 18 = .ok (.ireturn, 1) := by decide +kernel
theorem dX11_mark_19 : decode cX11_mark 19 = .ok (.aload_n 0, 1) := by decide +kernel
theorem dX11_mark_20 : decode cX11_mark 20 = .ok (.iload_n 1, 1) := by decide +kernel
theorem dX11_mark_21 : decode cX11_mark 21 = .ok (.invokevirtual 155, 3) := by decide +kernel
theorem dX11_mark_24 : decode cX11_mark 24 = .ok (.iload_n 2, 1) := by decide +kernel
theorem dX11_mark_25 : decode cX11_mark 25 = .ok (.if_icmp .eq 35, 3) := by decide +kernel
theorem dX11_mark_28 : decode cX11_mark 28 = .ok (.iload_n 2, 1) := by decide +kernel
theorem dX11_mark_29 : decode cX11_mark 29 = .ok (.iconst 1, 1) := by decide +kernel
theorem dX11_mark_30 : decode cX11_mark 30 = .ok (.if_icmp .ne 11, 3) := by decide +kernel
theorem dX11_mark_33 : decode cX11_mark 33 = .ok (.aload_n 0, 1) := by decide +kernel
theorem dX11_mark_34 : decode cX11_mark 34 = .ok (.iload_n 1, 1) := by decide +kernel
theorem dX11_mark_35 : decode cX11_mark 35 = .ok (.invokevirtual 161, 3) := by decide +kernel
theorem dX11_mark_38 : decode cX11_mark 38 = .ok (.ifCond .ne 22, 3) := by decide +kernel
theorem dX11_mark_41 : decode cX11_mark 41 = .ok (.iload_n 2, 1) := by decide +kernel
theorem dX11_mark_42 : decode cX11_mark 42 = .ok (.iconst 3, 1) := by decide +kernel
theorem dX11_mark_43 : decode cX11_mark 43 = .ok (.if_icmp .ne 11, 3) := by decide +kernel
theorem dX11_mark_46 : decode cX11_mark 46 = .ok (.aload_n 0, 1) := by decide +kernel
theorem dX11_mark_47 : decode cX11_mark 47 = .ok (.iload_n 1, 1) := by decide +kernel
theorem dX11_mark_48 : decode cX11_mark 48 = .ok (.invokevirtual 164, 3) := by decide +kernel
theorem dX11_mark_51 : decode cX11_mark 51 = .ok (.ifCond .ne 9, 3) := by decide +kernel
theorem dX11_mark_54 : decode cX11_mark 54 = .ok (.aload_n 0, 1) := by decide +kernel
theorem dX11_mark_55 : decode cX11_mark 55 = .ok (.iconst 3, 1) := by decide +kernel
theorem dX11_mark_56 : decode cX11_mark 56 = .ok (.invokevirtual 90, 3) := by decide +kernel
theorem dX11_mark_59 : decode cX11_mark 59 = .ok (.ireturn, 1) := by decide +kernel
theorem dX11_mark_60 : decode cX11_mark 60 = .ok (.iload_n 2, 1) := by decide +kernel
theorem dX11_mark_61 : decode cX11_mark 61 = .ok (.tableswitch 68 1 4 #[31, 45, 51, 62], 31) := by decide +kernel
theorem dX11_mark_92 : decode cX11_mark 92 = .ok (.aload_n 0, 1) := by decide +kernel
theorem dX11_mark_93 : decode cX11_mark 93 = .ok (.iload_n 1, 1) := by decide +kernel
theorem dX11_mark_94 : decode cX11_mark 94 = .ok (.invokevirtual 167, 3) := by decide +kernel
theorem dX11_mark_97 : decode cX11_mark 97 = .ok (.aload_n 0, 1) := by decide +kernel
theorem dX11_mark_98 : decode cX11_mark 98 = .ok (.iload_n 1, 1) := by decide +kernel
theorem dX11_mark_99 : decode cX11_mark 99 = .ok (.invokevirtual 170, 3) := by decide +kernel
theorem dX11_mark_102 : decode cX11_mark 102 = .ok (.invokestatic 173, 3) := by decide +kernel
theorem dX11_mark_105 : decode cX11_mark 105 = .ok (.ireturn, 1) := by decide +kernel
theorem dX11_mark_106 : decode cX11_mark 106 = .ok (.aload_n 0, 1) := by decide +kernel
theorem dX11_mark_107 : decode cX11_mark 107 = .ok (.iload_n 1, 1) := by decide +kernel
theorem dX11_mark_108 : decode cX11_mark 108 = .ok (.invokevirtual 176, 3) := by decide +kernel
theorem dX11_mark_111 : decode cX11_mark 111 = .ok (.ireturn, 1) := by decide +kernel
theorem dX11_mark_112 : decode cX11_mark 112 = .ok (.aload_n 0, 1) := by decide +kernel
theorem dX11_mark_113 : decode cX11_mark 113 = .ok (.getfield 29, 3) := by decide +kernel
theorem dX11_mark_116 : decode cX11_mark 116 = .ok (.iconst 4, 1) := by decide +kernel
theorem dX11_mark_117 : decode cX11_mark 117 = .ok (.iload_n 1, 1) := by decide +kernel
theorem dX11_mark_118 : decode cX11_mark 118 = .ok (.imul, 1) := by decide +kernel
theorem dX11_mark_119 : decode cX11_mark 119 = .ok (.iconst 3, 1) := by decide +kernel
theorem dX11_mark_120 : decode cX11_mark 120 = .ok (.iadd, 1) := by decide +kernel
theorem dX11_mark_121 : decode cX11_mark 121 = .ok (.iaload, 1) := by decide +kernel
theorem dX11_mark_122 : decode cX11_mark 122 = .ok (.ireturn, 1) := by decide +kernel
theorem dX11_mark_123 : decode cX11_mark 123 = .ok (.aload_n 0, 1) := by decide +kernel
theorem dX11_mark_124 : decode cX11_mark 124 = .ok (.iload_n 1, 1) := by decide +kernel
theorem dX11_mark_125 : decode cX11_mark 125 = .ok (.invokevirtual 167, 3) := by decide +kernel
theorem dX11_mark_128 : decode cX11_mark 128 = .ok (.ireturn, 1) := by decide +kernel
theorem dX11_mark_129 : decode cX11_mark 129 = .ok (.aload_n 0, 1) := by decide +kernel
theorem dX11_mark_130 : decode cX11_mark 130 = .ok (.iload_n 1, 1) := by decide +kernel
theorem dX11_mark_131 : decode cX11_mark 131 = .ok (.invokevirtual 167, 3) := by decide +kernel
theorem dX11_mark_134 : decode cX11_mark 134 = .ok (.aload_n 0, 1) := by decide +kernel
theorem dX11_mark_135 : decode cX11_mark 135 = .ok (.iload_n 1, 1) := by decide +kernel
theorem dX11_mark_136 : decode cX11_mark 136 = .ok (.invokevirtual 170, 3) := by decide +kernel
theorem dX11_mark_139 : decode cX11_mark 139 = .ok (.invokestatic 179, 3) := by decide +kernel
theorem dX11_mark_142 : decode cX11_mark 142 = .ok (.ireturn, 1) := by decide +kernel
set_option maxRecDepth 20000 in
theorem ggX11_keysOf_X11_keeper : GoodIn wsX11_keysOf wsX11_keeper := goodIn_r _ [6, 7, 12, 13, 14, 15, 16, 17, 18, 19, 20, 21, 22, 23, 24, 25, 26, 27, 28, 29, 30, 31, 32, 33, 34, 35, 36, 37, 38, 39, 40, 41, 42] (by decide +kernel) (by decide +kernel)
set_option maxRecDepth 20000 in
theorem gX11_keysOf_X11_keeper : GoodIn wsX11_keysOf (wsV RX11 167 RX11 yX11_keeper wsX11_keeper) := goodIn_app (goodIn_of _ (by decide +kernel)) ggX11_keysOf_X11_keeper
set_option maxRecDepth 20000 in
theorem ggX11_keysOf_X11_otherKeeper : GoodIn wsX11_keysOf wsX11_otherKeeper := goodIn_r _ [11, 7, 12, 13, 14, 15, 16, 17, 18, 19, 20, 21, 22, 23, 24, 25, 26, 27, 28, 29, 30, 31, 32, 33, 34, 35, 36, 37, 38, 39, 40, 41, 42] (by decide +kernel) (by decide +kernel)
set_option maxRecDepth 20000 in
theorem gX11_keysOf_X11_otherKeeper : GoodIn wsX11_keysOf (wsV RX11 170 RX11 yX11_otherKeeper wsX11_otherKeeper) := goodIn_app (goodIn_of _ (by decide +kernel)) ggX11_keysOf_X11_otherKeeper
theorem dX11_keysOf_0 : decode cX11_keysOf 0 = .ok (.iconst 0, 1) := by decide +kernel
theorem dX11_keysOf_1 : decode cX11_keysOf 1 = .ok (.istore_n 2, 1) := by decide +kernel
theorem dX11_keysOf_2 : decode cX11_keysOf 2 = .ok (.iconst 0, 1) := by decide +kernel
theorem dX11_keysOf_3 : decode cX11_keysOf 3 = .ok (.istore_n 3, 1) := by decide +kernel
theorem dX11_keysOf_4 : decode cX11_keysOf 4 = .ok (.iload_n 3, 1) := by decide +kernel
theorem dX11_keysOf_5 : decode cX11_keysOf 5 = .ok (.aload_n 0, 1) := by decide +kernel
theorem dX11_keysOf_6 : decode cX11_keysOf 6 = .ok (.getfield 135, 3) := by decide +kernel
theorem dX11_keysOf_9 : decode cX11_keysOf 9 = .ok (.if_icmp .ge 41, 3) := by decide +kernel
theorem dX11_keysOf_12 : decode cX11_keysOf 12 = .ok (.iload_n 2, 1) := by decide +kernel
theorem dX11_keysOf_13 : decode cX11_keysOf 13 = .ok (.aload_n 0, 1) := by decide +kernel
theorem dX11_keysOf_14 : decode cX11_keysOf 14 = .ok (.iload_n 3, 1) := by decide +kernel
theorem dX11_keysOf_15 : decode cX11_keysOf 15 = .ok (.invokevirtual 167, 3) := by decide +kernel
theorem dX11_keysOf_18 : decode cX11_keysOf 18 = .ok (.iload_n 1, 1) := by decide +kernel
theorem dX11_keysOf_19 : decode cX11_keysOf 19 = .ok (.if_icmp .ne 7, 3) := by decide +kernel
theorem dX11_keysOf_22 : decode cX11_keysOf 22 = .ok (.iconst 1, 1) := by decide +kernel
theorem dX11_keysOf_23 : decode cX11_keysOf 23 = .ok (.goto 4, 3) := by decide +kernel
theorem dX11_keysOf_26 : decode cX11_keysOf 26 = .ok (.iconst 0, 1) := by decide +kernel
theorem dX11_keysOf_27 : decode cX11_keysOf 27 = .ok (.aload_n 0, 1) := by decide +kernel
theorem dX11_keysOf_28 : decode cX11_keysOf 28 = .ok (.iload_n 3, 1) := by decide +kernel
theorem dX11_keysOf_29 : decode cX11_keysOf 29 = .ok (.invokevirtual 170, 3) := by decide +kernel
theorem dX11_keysOf_32 : decode cX11_keysOf 32 = .ok (.iload_n 1, 1) := by decide +kernel
theorem dX11_keysOf_33 : decode cX11_keysOf 33 = .ok (.if_icmp .ne 7, 3) := by decide +kernel
theorem dX11_keysOf_36 : decode cX11_keysOf 36 = .ok (.iconst 1, 1) := by decide +kernel
theorem dX11_keysOf_37 : decode cX11_keysOf 37 = .ok (.goto 4, 3) := by decide +kernel
theorem dX11_keysOf_40 : decode cX11_keysOf 40 = .ok (.iconst 0, 1) := by decide +kernel
theorem dX11_keysOf_41 : decode cX11_keysOf 41 = .ok (.iadd, 1) := by decide +kernel
theorem dX11_keysOf_42 : decode cX11_keysOf 42 = .ok (.iadd, 1) := by decide +kernel
theorem dX11_keysOf_43 : decode cX11_keysOf 43 = .ok (.istore_n 2, 1) := by decide +kernel
theorem dX11_keysOf_44 : decode cX11_keysOf 44 = .ok (.iinc 3 1, 3) := by decide +kernel
theorem dX11_keysOf_47 : decode cX11_keysOf 47 = .ok (.goto (-43), 3) := by decide +kernel
theorem dX11_keysOf_50 : decode cX11_keysOf 50 = .ok (.iload_n 2, 1) := by decide +kernel
theorem dX11_keysOf_51 : decode cX11_keysOf 51 = .ok (.ireturn, 1) := by decide +kernel
set_option maxRecDepth 20000 in
theorem ggX11_key_X11_isCell : GoodIn wsX11_key wsX11_isCell := goodIn_r _ [6, 7, 8, 9, 5, 10, 29, 30, 31, 32, 33, 34, 35, 36, 37, 38, 39, 40, 41, 42, 43, 44, 45, 46, 47, 48, 49, 50, 51, 52, 53, 54, 55, 56, 57, 58, 59] (by decide +kernel) (by decide +kernel)
set_option maxRecDepth 20000 in
theorem gX11_key_X11_isCell : GoodIn wsX11_key (wsV RX11 158 RX11 yX11_isCell wsX11_isCell) := goodIn_app (goodIn_of _ (by decide +kernel)) ggX11_key_X11_isCell
set_option maxRecDepth 20000 in
theorem ggX11_key_X11_kind : GoodIn wsX11_key wsX11_kind := goodIn_r _ [14, 1, 29, 30, 31, 32, 33, 34, 35, 36, 37, 38, 39, 40, 41, 42, 43, 44, 45, 46, 47, 48, 49, 50, 51, 52, 53, 54, 55, 56, 57, 58, 59] (by decide +kernel) (by decide +kernel)
set_option maxRecDepth 20000 in
theorem gX11_key_X11_kind : GoodIn wsX11_key (wsV RX11 155 RX11 yX11_kind wsX11_kind) := goodIn_app (goodIn_of _ (by decide +kernel)) ggX11_key_X11_kind
set_option maxRecDepth 20000 in
theorem ggX11_key_X11_otherKeeper : GoodIn wsX11_key wsX11_otherKeeper := goodIn_r _ [18, 1, 29, 30, 31, 32, 33, 34, 35, 36, 37, 38, 39, 40, 41, 42, 43, 44, 45, 46, 47, 48, 49, 50, 51, 52, 53, 54, 55, 56, 57, 58, 59] (by decide +kernel) (by decide +kernel)
set_option maxRecDepth 20000 in
theorem gX11_key_X11_otherKeeper : GoodIn wsX11_key (wsV RX11 170 RX11 yX11_otherKeeper wsX11_otherKeeper) := goodIn_app (goodIn_of _ (by decide +kernel)) ggX11_key_X11_otherKeeper
set_option maxRecDepth 20000 in
theorem ggX11_key_X11_meets : GoodIn wsX11_key wsX11_meets := goodIn_r _ [22, 23, 24, 29, 30, 31, 32, 33, 34, 35, 36, 37, 38, 39, 40, 41, 42, 43, 44, 45, 46, 47, 48, 49, 50, 51, 52, 53, 54, 55, 56, 57, 58, 59] (by decide +kernel) (by decide +kernel)
set_option maxRecDepth 20000 in
theorem gX11_key_X11_meets : GoodIn wsX11_key (wsV RX11 90 RX11 yX11_meets wsX11_meets) := goodIn_app (goodIn_of _ (by decide +kernel)) ggX11_key_X11_meets
set_option maxRecDepth 20000 in
theorem ggX11_key_X11_keeper : GoodIn wsX11_key wsX11_keeper := goodIn_r _ [28, 1, 29, 30, 31, 32, 33, 34, 35, 36, 37, 38, 39, 40, 41, 42, 43, 44, 45, 46, 47, 48, 49, 50, 51, 52, 53, 54, 55, 56, 57, 58, 59] (by decide +kernel) (by decide +kernel)
set_option maxRecDepth 20000 in
theorem gX11_key_X11_keeper : GoodIn wsX11_key (wsV RX11 167 RX11 yX11_keeper wsX11_keeper) := goodIn_app (goodIn_of _ (by decide +kernel)) ggX11_key_X11_keeper
theorem dX11_key_0 : decode cX11_key 0 = .ok (.aload_n 0, 1) := by decide +kernel
theorem dX11_key_1 : decode cX11_key 1 = .ok (.iload_n 1, 1) := by decide +kernel
theorem dX11_key_2 : decode cX11_key 2 = .ok (.invokevirtual 158, 3) := by decide +kernel
theorem dX11_key_5 : decode cX11_key 5 = .ok (.ifCond .eq 16, 3) := by decide +kernel
theorem dX11_key_8 : decode cX11_key 8 = .ok (.aload_n 0, 1) := by decide +kernel
theorem dX11_key_9 : decode cX11_key 9 = .ok (.iload_n 2, 1) := by decide +kernel
theorem dX11_key_10 : decode cX11_key 10 = .ok (.invokevirtual 158, 3) := by decide +kernel
theorem dX11_key_13 : decode cX11_key 13 = .ok (.ifCond .eq 8, 3) := by decide +kernel
theorem dX11_key_16 : decode cX11_key 16 = .ok (.iload_n 1, 1) := by decide +kernel
theorem dX11_key_17 : decode cX11_key 17 = .ok (.iload_n 2, 1) := by decide +kernel
theorem dX11_key_18 : decode cX11_key 18 = .ok (.if_icmp .ne 5, 3) := by decide +kernel
theorem dX11_key_21 : decode cX11_key 21 = .ok (.iconst (-1), 1) := by decide +kernel
theorem dX11_key_22 : decode cX11_key 22 = .ok (.ireturn, 1) := by decide +kernel
theorem dX11_key_23 : decode cX11_key 23 = .ok (.aload_n 0, 1) := by decide +kernel
theorem dX11_key_24 : decode cX11_key 24 = .ok (.iload_n 1, 1) := by decide +kernel
theorem dX11_key_25 : decode cX11_key 25 = .ok (.invokevirtual 155, 3) := by decide +kernel
theorem dX11_key_28 : decode cX11_key 28 = .ok (.iconst 2, 1) := by decide +kernel
theorem dX11_key_29 : decode cX11_key 29 = .ok (.if_icmp .eq 12, 3) := by decide +kernel
theorem dX11_key_32 : decode cX11_key 32 = .ok (.aload_n 0, 1) := by decide +kernel
theorem dX11_key_33 : decode cX11_key 33 = .ok (.iload_n 1, 1) := by decide +kernel
theorem dX11_key_34 : decode cX11_key 34 = .ok (.invokevirtual 170, 3) := by decide +kernel
theorem dX11_key_37 : decode cX11_key 37 = .ok (.iload_n 2, 1) := by decide +kernel
theorem dX11_key_38 : decode cX11_key 38 = .ok (.if_icmp .ne 9, 3) := by decide +kernel
theorem dX11_key_41 : decode cX11_key 41 = .ok (.aload_n 0, 1) := by decide +kernel
theorem dX11_key_42 : decode cX11_key 42 = .ok (.iconst 3, 1) := by decide +kernel
theorem dX11_key_43 : decode cX11_key 43 = .ok (.invokevirtual 90, 3) := by decide +kernel
theorem dX11_key_46 : decode cX11_key 46 = .ok (.ireturn, 1) := by decide +kernel
theorem dX11_key_47 : decode cX11_key 47 = .ok (.aload_n 0, 1) := by decide +kernel
theorem dX11_key_48 : decode cX11_key 48 = .ok (.iload_n 1, 1) := by decide +kernel
theorem dX11_key_49 : decode cX11_key 49 = .ok (.invokevirtual 167, 3) := by decide +kernel
theorem dX11_key_52 : decode cX11_key 52 = .ok (.istore_n 3, 1) := by decide +kernel
theorem dX11_key_53 : decode cX11_key 53 = .ok (.aload_n 0, 1) := by decide +kernel
theorem dX11_key_54 : decode cX11_key 54 = .ok (.getfield 29, 3) := by decide +kernel
theorem dX11_key_57 : decode cX11_key 57 = .ok (.iconst 4, 1) := by decide +kernel
theorem dX11_key_58 : decode cX11_key 58 = .ok (.iload_n 1, 1) := by decide +kernel
theorem dX11_key_59 : decode cX11_key 59 = .ok (.imul, 1) := by decide +kernel
theorem dX11_key_60 : decode cX11_key 60 = .ok (.iconst 1, 1) := by decide +kernel
theorem dX11_key_61 : decode cX11_key 61 = .ok (.iadd, 1) := by decide +kernel
theorem dX11_key_62 : decode cX11_key 62 = .ok (.iload_n 2, 1) := by decide +kernel
theorem dX11_key_63 : decode cX11_key 63 = .ok (.iastore, 1) := by decide +kernel
theorem dX11_key_64 : decode cX11_key 64 = .ok (.iload_n 3, 1) := by decide +kernel
theorem dX11_key_65 : decode cX11_key 65 = .ok (.ireturn, 1) := by decide +kernel
set_option maxRecDepth 20000 in
theorem ggX11_quarrel_X11_isCell : GoodIn wsX11_quarrel wsX11_isCell := goodIn_r _ [6, 7, 8, 9, 5, 10, 18, 19, 20, 21, 22, 23, 24, 25, 26, 27, 28, 29, 30, 31, 32, 33, 34, 35, 36, 37, 38, 39, 40, 41, 42, 43, 44, 45, 46, 47, 48] (by decide +kernel) (by decide +kernel)
set_option maxRecDepth 20000 in
theorem gX11_quarrel_X11_isCell : GoodIn wsX11_quarrel (wsV RX11 158 RX11 yX11_isCell wsX11_isCell) := goodIn_app (goodIn_of _ (by decide +kernel)) ggX11_quarrel_X11_isCell
set_option maxRecDepth 20000 in
theorem ggX11_quarrel_X11_in : GoodIn wsX11_quarrel wsX11_in := goodIn_r _ [10] (by decide +kernel) (by decide +kernel)
set_option maxRecDepth 20000 in
theorem gX11_quarrel_X11_in : GoodIn wsX11_quarrel (va_wsS RX11 76 yX11_in wsX11_in) := goodIn_app (goodIn_of _ (by decide +kernel)) ggX11_quarrel_X11_in
set_option maxRecDepth 20000 in
theorem ggX11_quarrel_X11_doQuarrel : GoodIn wsX11_quarrel wsX11_doQuarrel := goodIn_r _ [14, 1, 15, 16, 5, 17, 18, 19, 20, 21, 22, 23, 24, 25, 26, 27, 28, 29, 30, 31, 32, 33, 34, 35, 36, 37, 38, 39, 40, 41, 42, 43, 44, 45, 46, 47, 48] (by decide +kernel) (by decide +kernel)
set_option maxRecDepth 20000 in
theorem gX11_quarrel_X11_doQuarrel : GoodIn wsX11_quarrel (wsV RX11 182 RX11 yX11_doQuarrel wsX11_doQuarrel) := goodIn_app (goodIn_of _ (by decide +kernel)) ggX11_quarrel_X11_doQuarrel
theorem dX11_quarrel_0 : decode cX11_quarrel 0 = .ok (.aload_n 0, 1) := by decide +kernel
theorem dX11_quarrel_1 : decode cX11_quarrel 1 = .ok (.iload_n 1, 1) := by decide +kernel
theorem dX11_quarrel_2 : decode cX11_quarrel 2 = .ok (.invokevirtual 158, 3) := by decide +kernel
theorem dX11_quarrel_5 : decode cX11_quarrel 5 = .ok (.ifCond .eq 25, 3) := by decide +kernel
theorem dX11_quarrel_8 : decode cX11_quarrel 8 = .ok (.aload_n 0, 1) := by decide +kernel
theorem dX11_quarrel_9 : decode cX11_quarrel 9 = .ok (.iload_n 2, 1) := by decide +kernel
theorem dX11_quarrel_10 : decode cX11_quarrel 10 = .ok (.invokevirtual 158, 3) := by decide +kernel
theorem dX11_quarrel_13 : decode cX11_quarrel 13 = .ok (.ifCond .eq 17, 3) := by decide +kernel
theorem dX11_quarrel_16 : decode cX11_quarrel 16 = .ok (.iload_n 1, 1) := by decide +kernel
theorem dX11_quarrel_17 : decode cX11_quarrel 17 = .ok (.iload_n 2, 1) := by decide +kernel
theorem dX11_quarrel_18 : decode cX11_quarrel 18 = .ok (.if_icmp .eq 12, 3) := by decide +kernel
theorem dX11_quarrel_21 : decode cX11_quarrel 21 = .ok (.iload_n 3, 1) := by decide +kernel
theorem dX11_quarrel_22 : decode cX11_quarrel 22 = .ok (.iconst 0, 1) := by decide +kernel
theorem dX11_quarrel_23 : decode cX11_quarrel 23 = .ok (.iconst 1, 1) := by decide +kernel
theorem dX11_quarrel_24 : decode cX11_quarrel 24 = .ok (.invokestatic 76, 3) := by decide +kernel
theorem dX11_quarrel_27 : decode cX11_quarrel 27 = .ok (.ifCond .ne 5, 3) := by decide +kernel
theorem dX11_quarrel_30 : decode cX11_quarrel 30 = .ok (.iconst (-1), 1) := by decide +kernel
theorem dX11_quarrel_31 : decode cX11_quarrel 31 = .ok (.ireturn, 1) := by decide +kernel
theorem dX11_quarrel_32 : decode cX11_quarrel 32 = .ok (.aload_n 0, 1) := by decide +kernel
theorem dX11_quarrel_33 : decode cX11_quarrel 33 = .ok (.iload_n 1, 1) := by decide +kernel
theorem dX11_quarrel_34 : decode cX11_quarrel 34 = .ok (.iload_n 2, 1) := by decide +kernel
theorem dX11_quarrel_35 : decode cX11_quarrel 35 = .ok (.invokevirtual 182, 3) := by decide +kernel
theorem dX11_quarrel_38 : decode cX11_quarrel 38 = .ok (.ifCond .eq 7, 3) := by decide +kernel
theorem dX11_quarrel_41 : decode cX11_quarrel 41 = .ok (.iconst 1, 1) := by decide +kernel
theorem dX11_quarrel_42 : decode cX11_quarrel 42 = .ok (.goto 4, 3) := by decide +kernel
theorem dX11_quarrel_45 : decode cX11_quarrel 45 = .ok (.iconst 0, 1) := by decide +kernel
theorem dX11_quarrel_46 : decode cX11_quarrel 46 = .ok (.istore 4, 2) := by decide +kernel
theorem dX11_quarrel_48 : decode cX11_quarrel 48 = .ok (.iload 4, 2) := by decide +kernel
theorem dX11_quarrel_50 : decode cX11_quarrel 50 = .ok (.iload_n 3, 1) := by decide +kernel
theorem dX11_quarrel_51 : decode cX11_quarrel 51 = .ok (.if_icmp .eq 27, 3) := by decide +kernel
theorem dX11_quarrel_54 : decode cX11_quarrel 54 = .ok (.aload_n 0, 1) := by decide +kernel
theorem dX11_quarrel_55 : decode cX11_quarrel 55 = .ok (.getfield 32, 3) := by decide +kernel
theorem dX11_quarrel_58 : decode cX11_quarrel 58 = .ok (.iload_n 1, 1) := by decide +kernel
theorem dX11_quarrel_59 : decode cX11_quarrel 59 = .ok (.dup2, 1) := by decide +kernel
theorem dX11_quarrel_60 : decode cX11_quarrel 60 = .ok (.iaload, 1) := by decide +kernel
theorem dX11_quarrel_61 : decode cX11_quarrel 61 = .ok (.iconst 1, 1) := by decide +kernel
theorem dX11_quarrel_62 : decode cX11_quarrel 62 = .ok (.iload_n 2, 1) := by decide +kernel
theorem dX11_quarrel_63 : decode cX11_quarrel 63 = .ok (.ishl, 1) := by decide +kernel
theorem dX11_quarrel_64 : decode cX11_quarrel 64 = .ok (.ixor, 1) := by decide +kernel
theorem dX11_quarrel_65 : decode cX11_quarrel 65 = .ok (.iastore, 1) := by decide +kernel
theorem dX11_quarrel_66 : decode cX11_quarrel 66 = .ok (.aload_n 0, 1) := by decide +kernel
theorem dX11_quarrel_67 : decode cX11_quarrel 67 = .ok (.getfield 32, 3) := by decide +kernel
theorem dX11_quarrel_70 : decode cX11_quarrel 70 = .ok (.iload_n 2, 1) := by decide +kernel
theorem dX11_quarrel_71 : decode cX11_quarrel 71 = .ok (.dup2, 1) := by decide +kernel
theorem dX11_quarrel_72 : decode cX11_quarrel 72 = .ok (.iaload, 1) := by decide +kernel
theorem dX11_quarrel_73 : decode cX11_quarrel 73 = .ok (.iconst 1, 1) := by decide +kernel
theorem dX11_quarrel_74 : decode cX11_quarrel 74 = .ok (.iload_n 1, 1) := by decide +kernel
theorem dX11_quarrel_75 : decode cX11_quarrel 75 = .ok (.ishl, 1) := by decide +kernel
theorem dX11_quarrel_76 : decode cX11_quarrel 76 = .ok (.ixor, 1) := by decide +kernel
theorem dX11_quarrel_77 : decode cX11_quarrel 77 = .ok (.iastore, 1) := by decide +kernel
theorem dX11_quarrel_78 : decode cX11_quarrel 78 = .ok (.iload 4, 2) := by decide +kernel
theorem dX11_quarrel_80 : decode cX11_quarrel 80 = .ok (.ireturn, 1) := by decide +kernel
set_option maxRecDepth 20000 in
theorem ggX11_foes_X11_isCell : GoodIn wsX11_foes wsX11_isCell := goodIn_r _ [6, 7, 8, 9, 5, 10, 11, 12, 13, 14, 15, 16, 17, 18, 19, 20, 21, 22, 23, 24, 25, 26, 27, 28, 29, 30, 31, 32, 33, 34, 35, 36, 37, 38, 39, 40, 41] (by decide +kernel) (by decide +kernel)
set_option maxRecDepth 20000 in
theorem gX11_foes_X11_isCell : GoodIn wsX11_foes (wsV RX11 158 RX11 yX11_isCell wsX11_isCell) := goodIn_app (goodIn_of _ (by decide +kernel)) ggX11_foes_X11_isCell
theorem dX11_foes_0 : decode cX11_foes 0 = .ok (.aload_n 0, 1) := by decide +kernel
theorem dX11_foes_1 : decode cX11_foes 1 = .ok (.iload_n 1, 1) := by decide +kernel
theorem dX11_foes_2 : decode cX11_foes 2 = .ok (.invokevirtual 158, 3) := by decide +kernel
theorem dX11_foes_5 : decode cX11_foes 5 = .ok (.ifCond .eq 12, 3) := by decide +kernel
theorem dX11_foes_8 : decode cX11_foes 8 = .ok (.aload_n 0, 1) := by decide +kernel
theorem dX11_foes_9 : decode cX11_foes 9 = .ok (.getfield 32, 3) := by decide +kernel
theorem dX11_foes_12 : decode cX11_foes 12 = .ok (.iload_n 1, 1) := by decide +kernel
theorem dX11_foes_13 : decode cX11_foes 13 = .ok (.iaload, 1) := by decide +kernel
theorem dX11_foes_14 : decode cX11_foes 14 = .ok (.goto 4, 3) := by decide +kernel
theorem dX11_foes_17 : decode cX11_foes 17 = .ok (.iconst (-1), 1) := by decide +kernel
theorem dX11_foes_18 : decode cX11_foes 18 = .ok (.ireturn, 1) := by decide +kernel
set_option maxRecDepth 20000 in
theorem ggX11_keyCost_X11_has : GoodIn wsX11_keyCost wsX11_has := goodIn_r _ [5] (by decide +kernel) (by decide +kernel)
set_option maxRecDepth 20000 in
theorem gX11_keyCost_X11_has : GoodIn wsX11_keyCost (va_wsS RX11 151 yX11_has wsX11_has) := goodIn_app (goodIn_of _ (by decide +kernel)) ggX11_keyCost_X11_has
set_option maxRecDepth 20000 in
theorem ggX11_keyCost_X11_doQuarrel : GoodIn wsX11_keyCost wsX11_doQuarrel := goodIn_r _ [9, 10, 2, 3, 4, 5, 25, 26, 27, 28, 29, 30, 31, 32, 33, 34, 35, 36, 37, 38, 39, 40, 41, 42, 43, 44, 45, 46, 47, 48, 49, 50, 51, 52, 53, 54, 55] (by decide +kernel) (by decide +kernel)
set_option maxRecDepth 20000 in
theorem gX11_keyCost_X11_doQuarrel : GoodIn wsX11_keyCost (wsV RX11 182 RX11 yX11_doQuarrel wsX11_doQuarrel) := goodIn_app (goodIn_of _ (by decide +kernel)) ggX11_keyCost_X11_doQuarrel
set_option maxRecDepth 20000 in
theorem ggX11_keyCost_X11_kind : GoodIn wsX11_keyCost wsX11_kind := goodIn_r _ [14, 15, 25, 26, 27, 28, 29, 30, 31, 32, 33, 34, 35, 36, 37, 38, 39, 40, 41, 42, 43, 44, 45, 46, 47, 48, 49, 50, 51, 52, 53, 54, 55] (by decide +kernel) (by decide +kernel)
set_option maxRecDepth 20000 in
theorem gX11_keyCost_X11_kind : GoodIn wsX11_keyCost (wsV RX11 155 RX11 yX11_kind wsX11_kind) := goodIn_app (goodIn_of _ (by decide +kernel)) ggX11_keyCost_X11_kind
set_option maxRecDepth 20000 in
theorem ggX11_keyCost_X11_lesser : GoodIn wsX11_keyCost wsX11_lesser := goodIn_r _ [18] (by decide +kernel) (by decide +kernel)
set_option maxRecDepth 20000 in
theorem gX11_keyCost_X11_lesser : GoodIn wsX11_keyCost (va_wsS RX11 173 yX11_lesser wsX11_lesser) := goodIn_app (goodIn_of _ (by decide +kernel)) ggX11_keyCost_X11_lesser
set_option maxRecDepth 20000 in
theorem ggX11_keyCost_X11_greater : GoodIn wsX11_keyCost wsX11_greater := goodIn_r _ [21] (by decide +kernel) (by decide +kernel)
set_option maxRecDepth 20000 in
theorem gX11_keyCost_X11_greater : GoodIn wsX11_keyCost (va_wsS RX11 185 yX11_greater wsX11_greater) := goodIn_app (goodIn_of _ (by decide +kernel)) ggX11_keyCost_X11_greater
set_option maxRecDepth 20000 in
theorem ggX11_keyCost_X11_far : GoodIn wsX11_keyCost wsX11_far := goodIn_r _ [24] (by decide +kernel) (by decide +kernel)
set_option maxRecDepth 20000 in
theorem gX11_keyCost_X11_far : GoodIn wsX11_keyCost (va_wsS RX11 179 yX11_far wsX11_far) := goodIn_app (goodIn_of _ (by decide +kernel)) ggX11_keyCost_X11_far
theorem dX11_keyCost_0 : decode cX11_keyCost 0 = .ok (.iload 4, 2) := by decide +kernel
theorem dX11_keyCost_2 : decode cX11_keyCost 2 = .ok (.iload_n 2, 1) := by decide +kernel
theorem dX11_keyCost_3 : decode cX11_keyCost 3 = .ok (.invokestatic 151, 3) := by decide +kernel
theorem dX11_keyCost_6 : decode cX11_keyCost 6 = .ok (.ifCond .eq 12, 3) := by decide +kernel
theorem dX11_keyCost_9 : decode cX11_keyCost 9 = .ok (.aload_n 0, 1) := by decide +kernel
theorem dX11_keyCost_10 : decode cX11_keyCost 10 = .ok (.iload_n 1, 1) := by decide +kernel
theorem dX11_keyCost_11 : decode cX11_keyCost 11 = .ok (.iload_n 2, 1) := by decide +kernel
theorem dX11_keyCost_12 : decode cX11_keyCost 12 = .ok (.invokevirtual 182, 3) := by decide +kernel
theorem dX11_keyCost_15 : decode cX11_keyCost 15 = .ok (.ifCond .eq 7, 3) := by decide +kernel
theorem dX11_keyCost_18 : decode cX11_keyCost 18 = .ok (.sipush 1000, 3) := by decide +kernel
theorem dX11_keyCost_21 : decode cX11_keyCost 21 = .ok (.ireturn, 1) := by decide +kernel
theorem dX11_keyCost_22 : decode cX11_keyCost 22 = .ok (.iload_n 3, 1) := by decide +kernel
theorem dX11_keyCost_23 : decode cX11_keyCost 23 = .ok (.iload_n 2, 1) := by decide +kernel
theorem dX11_keyCost_24 : decode cX11_keyCost 24 = .ok (.invokestatic 151, 3) := by decide +kernel
theorem dX11_keyCost_27 : decode cX11_keyCost 27 = .ok (.ifCond .eq 16, 3) := by decide +kernel
theorem dX11_keyCost_30 : decode cX11_keyCost 30 = .ok (.aload_n 0, 1) := by decide +kernel
theorem dX11_keyCost_31 : decode cX11_keyCost 31 = .ok (.iload_n 2, 1) := by decide +kernel
theorem dX11_keyCost_32 : decode cX11_keyCost 32 = .ok (.invokevirtual 155, 3) := by decide +kernel
theorem dX11_keyCost_35 : decode cX11_keyCost 35 = .ok (.iconst 4, 1) := by decide +kernel
theorem dX11_keyCost_36 : decode cX11_keyCost 36 = .ok (.if_icmp .eq 7, 3) := by decide +kernel
theorem dX11_keyCost_39 : decode cX11_keyCost 39 = .ok (.iconst 1, 1) := by decide +kernel
theorem dX11_keyCost_40 : decode cX11_keyCost 40 = .ok (.goto 6, 3) := by decide +kernel
theorem dX11_keyCost_43 : decode cX11_keyCost 43 = .ok (.sipush 1000, 3) := by decide +kernel
theorem dX11_keyCost_46 : decode cX11_keyCost 46 = .ok (.istore 5, 2) := by decide +kernel
theorem dX11_keyCost_48 : decode cX11_keyCost 48 = .ok (.iconst 0, 1) := by decide +kernel
theorem dX11_keyCost_49 : decode cX11_keyCost 49 = .ok (.istore 6, 2) := by decide +kernel
theorem dX11_keyCost_51 : decode cX11_keyCost 51 = .ok (.iload 6, 2) := by decide +kernel
theorem dX11_keyCost_53 : decode cX11_keyCost 53 = .ok (.aload_n 0, 1) := by decide +kernel
theorem dX11_keyCost_54 : decode cX11_keyCost 54 = .ok (.getfield 135, 3) := by decide +kernel
theorem dX11_keyCost_57 : decode cX11_keyCost 57 = .ok (.if_icmp .ge 75, 3) := by decide +kernel
theorem dX11_keyCost_60 : decode cX11_keyCost 60 = .ok (.iload_n 3, 1) := by decide +kernel
theorem dX11_keyCost_61 : decode cX11_keyCost 61 = .ok (.iload 6, 2) := by decide +kernel
theorem dX11_keyCost_63 : decode cX11_keyCost 63 = .ok (.invokestatic 151, 3) := by decide +kernel
theorem dX11_keyCost_66 : decode cX11_keyCost 66 = .ok (.ifCond .eq 39, 3) := by decide +kernel
theorem dX11_keyCost_69 : decode cX11_keyCost 69 = .ok (.iload 6, 2) := by decide +kernel
theorem dX11_keyCost_71 : decode cX11_keyCost 71 = .ok (.iload_n 2, 1) := by decide +kernel
theorem dX11_keyCost_72 : decode cX11_keyCost 72 = .ok (.if_icmp .eq 33, 3) := by decide +kernel
theorem dX11_keyCost_75 : decode cX11_keyCost 75 = .ok (.iload 6, 2) := by decide +kernel
theorem dX11_keyCost_77 : decode cX11_keyCost 77 = .ok (.iload_n 1, 1) := by decide +kernel
theorem dX11_keyCost_78 : decode cX11_keyCost 78 = .ok (.if_icmp .eq 27, 3) := by decide +kernel
theorem dX11_keyCost_81 : decode cX11_keyCost 81 = .ok (.aload_n 0, 1) := by decide +kernel
theorem dX11_keyCost_82 : decode cX11_keyCost 82 = .ok (.iload 6, 2) := by decide +kernel
theorem dX11_keyCost_84 : decode cX11_keyCost 84 = .ok (.invokevirtual 155, 3) := by decide +kernel
theorem dX11_keyCost_87 : decode cX11_keyCost 87 = .ok (.iconst 4, 1) := by decide +kernel
theorem dX11_keyCost_88 : decode cX11_keyCost 88 = .ok (.if_icmp .eq 17, 3) := by decide +kernel
theorem dX11_keyCost_91 : decode cX11_keyCost 91 = .ok (.aload_n 0, 1) := by decide +kernel
theorem dX11_keyCost_92 : decode cX11_keyCost 92 = .ok (.iload_n 1, 1) := by decide +kernel
theorem dX11_keyCost_93 : decode cX11_keyCost 93 = .ok (.iload 6, 2) := by decide +kernel
theorem dX11_keyCost_95 : decode cX11_keyCost 95 = .ok (.invokevirtual 182, 3) := by decide +kernel
theorem dX11_keyCost_98 : decode cX11_keyCost 98 = .ok (.ifCond .ne 7, 3) := by decide +kernel
theorem dX11_keyCost_101 : decode cX11_keyCost 101 = .ok (.iconst 1, 1) := by decide +kernel
theorem dX11_keyCost_102 : decode cX11_keyCost 102 = .ok (.goto 4, 3) := by decide +kernel
theorem dX11_keyCost_105 : decode cX11_keyCost 105 = .ok (.iconst 0, 1) := by decide +kernel
theorem dX11_keyCost_106 : decode cX11_keyCost 106 = .ok (.istore 7, 2) := by decide +kernel
theorem dX11_keyCost_108 : decode cX11_keyCost 108 = .ok (.iload 7, 2) := by decide +kernel
theorem dX11_keyCost_110 : decode cX11_keyCost 110 = .ok (.ifCond .eq 12, 3) := by decide +kernel
theorem dX11_keyCost_113 : decode cX11_keyCost 113 = .ok (.iload 5, 2) := by decide +kernel
theorem dX11_keyCost_115 : decode cX11_keyCost 115 = .ok (.iconst 2, 1) := by decide +kernel
theorem dX11_keyCost_116 : decode cX11_keyCost 116 = .ok (.invokestatic 173, 3) := by decide +kernel
theorem dX11_keyCost_119 : decode cX11_keyCost 119 = .ok (.goto 5, 3) := by decide +kernel
theorem dX11_keyCost_122 : decode cX11_keyCost 122 = .ok (.iload 5, 2) := by decide +kernel
theorem dX11_keyCost_124 : decode cX11_keyCost 124 = .ok (.istore 5, 2) := by decide +kernel
theorem dX11_keyCost_126 : decode cX11_keyCost 126 = .ok (.iinc 6 1, 3) := by decide +kernel
theorem dX11_keyCost_129 : decode cX11_keyCost 129 = .ok (.goto (-78), 3) := by decide +kernel
theorem dX11_keyCost_132 : decode cX11_keyCost 132 = .ok (.iload_n 3, 1) := by decide +kernel
theorem dX11_keyCost_133 : decode cX11_keyCost 133 = .ok (.iload_n 2, 1) := by decide +kernel
theorem dX11_keyCost_134 : decode cX11_keyCost 134 = .ok (.invokestatic 151, 3) := by decide +kernel
theorem dX11_keyCost_137 : decode cX11_keyCost 137 = .ok (.ifCond .ne 25, 3) := by decide +kernel
theorem dX11_keyCost_140 : decode cX11_keyCost 140 = .ok (.aload_n 0, 1) := by decide +kernel
theorem dX11_keyCost_141 : decode cX11_keyCost 141 = .ok (.iload_n 1, 1) := by decide +kernel
theorem dX11_keyCost_142 : decode cX11_keyCost 142 = .ok (.invokevirtual 155, 3) := by decide +kernel
theorem dX11_keyCost_145 : decode cX11_keyCost 145 = .ok (.iconst 5, 1) := by decide +kernel
theorem dX11_keyCost_146 : decode cX11_keyCost 146 = .ok (.if_icmp .eq 16, 3) := by decide +kernel
theorem dX11_keyCost_149 : decode cX11_keyCost 149 = .ok (.aload_n 0, 1) := by decide +kernel
theorem dX11_keyCost_150 : decode cX11_keyCost 150 = .ok (.iload_n 2, 1) := by decide +kernel
theorem dX11_keyCost_151 : decode cX11_keyCost 151 = .ok (.invokevirtual 155, 3) := by decide +kernel
theorem dX11_keyCost_154 : decode cX11_keyCost 154 = .ok (.iconst 5, 1) := by decide +kernel
theorem dX11_keyCost_155 : decode cX11_keyCost 155 = .ok (.if_icmp .eq 7, 3) := by decide +kernel
theorem dX11_keyCost_158 : decode cX11_keyCost 158 = .ok (.iconst 1, 1) := by decide +kernel
theorem dX11_keyCost_159 : decode cX11_keyCost 159 = .ok (.goto 4, 3) := by decide +kernel
theorem dX11_keyCost_162 : decode cX11_keyCost 162 = .ok (.iconst 0, 1) := by decide +kernel
theorem dX11_keyCost_163 : decode cX11_keyCost 163 = .ok (.istore 6, 2) := by decide +kernel
theorem dX11_keyCost_165 : decode cX11_keyCost 165 = .ok (.iload_n 1, 1) := by decide +kernel
theorem dX11_keyCost_166 : decode cX11_keyCost 166 = .ok (.iload_n 2, 1) := by decide +kernel
theorem dX11_keyCost_167 : decode cX11_keyCost 167 = .ok (.invokestatic 173, 3) := by decide +kernel
theorem dX11_keyCost_170 : decode cX11_keyCost 170 = .ok (.iconst 1, 1) := by decide +kernel
theorem dX11_keyCost_171 : decode cX11_keyCost 171 = .ok (.iadd, 1) := by decide +kernel
theorem dX11_keyCost_172 : decode cX11_keyCost 172 = .ok (.istore 7, 2) := by decide +kernel
theorem dX11_keyCost_174 : decode cX11_keyCost 174 = .ok (.iload 7, 2) := by decide +kernel
theorem dX11_keyCost_176 : decode cX11_keyCost 176 = .ok (.iload_n 1, 1) := by decide +kernel
theorem dX11_keyCost_177 : decode cX11_keyCost 177 = .ok (.iload_n 2, 1) := by decide +kernel
theorem dX11_keyCost_178 : decode cX11_keyCost 178 = .ok (.invokestatic 185, 3) := by decide +kernel
theorem dX11_keyCost_181 : decode cX11_keyCost 181 = .ok (.if_icmp .ge 60, 3) := by decide +kernel
theorem dX11_keyCost_184 : decode cX11_keyCost 184 = .ok (.iload 6, 2) := by decide +kernel
theorem dX11_keyCost_186 : decode cX11_keyCost 186 = .ok (.ifCond .eq 46, 3) := by decide +kernel
theorem dX11_keyCost_189 : decode cX11_keyCost 189 = .ok (.iload_n 3, 1) := by decide +kernel
theorem dX11_keyCost_190 : decode cX11_keyCost 190 = .ok (.iload 7, 2) := by decide +kernel
theorem dX11_keyCost_192 : decode cX11_keyCost 192 = .ok (.invokestatic 151, 3) := by decide +kernel
theorem dX11_keyCost_195 : decode cX11_keyCost 195 = .ok (.ifCond .ne 37, 3) := by decide +kernel
theorem dX11_keyCost_198 : decode cX11_keyCost 198 = .ok (.iload 4, 2) := by decide +kernel
theorem dX11_keyCost_200 : decode cX11_keyCost 200 = .ok (.iload 7, 2) := by decide +kernel
theorem dX11_keyCost_202 : decode cX11_keyCost 202 = .ok (.invokestatic 151, 3) := by decide +kernel
theorem dX11_keyCost_205 : decode cX11_keyCost 205 = .ok (.ifCond .eq 27, 3) := by decide +kernel
theorem dX11_keyCost_208 : decode cX11_keyCost 208 = .ok (.aload_n 0, 1) := by decide +kernel
theorem dX11_keyCost_209 : decode cX11_keyCost 209 = .ok (.iload 7, 2) := by decide +kernel
theorem dX11_keyCost_211 : decode cX11_keyCost 211 = .ok (.invokevirtual 155, 3) := by decide +kernel
theorem dX11_keyCost_214 : decode cX11_keyCost 214 = .ok (.iconst 5, 1) := by decide +kernel
theorem dX11_keyCost_215 : decode cX11_keyCost 215 = .ok (.if_icmp .eq 17, 3) := by decide +kernel
theorem dX11_keyCost_218 : decode cX11_keyCost 218 = .ok (.aload_n 0, 1) := by decide +kernel
theorem dX11_keyCost_219 : decode cX11_keyCost 219 = .ok (.iload_n 1, 1) := by decide +kernel
theorem dX11_keyCost_220 : decode cX11_keyCost 220 = .ok (.iload 7, 2) := by decide +kernel
theorem dX11_keyCost_222 : decode cX11_keyCost 222 = .ok (.invokevirtual 182, 3) := by decide +kernel
theorem dX11_keyCost_225 : decode cX11_keyCost 225 = .ok (.ifCond .ne 7, 3) := by decide +kernel
theorem dX11_keyCost_228 : decode cX11_keyCost 228 = .ok (.iconst 1, 1) := by decide +kernel
theorem dX11_keyCost_229 : decode cX11_keyCost 229 = .ok (.goto 4, 3) := by decide +kernel
theorem dX11_keyCost_232 : decode cX11_keyCost 232 = .ok (.iconst 0, 1) := by decide +kernel
theorem dX11_keyCost_233 : decode cX11_keyCost 233 = .ok (.istore 6, 2) := by decide +kernel
theorem dX11_keyCost_235 : decode cX11_keyCost 235 = .ok (.iinc 7 1, 3) := by decide +kernel
theorem dX11_keyCost_238 : decode cX11_keyCost 238 = .ok (.goto (-64), 3) := by decide +kernel
theorem dX11_keyCost_241 : decode cX11_keyCost 241 = .ok (.iload 6, 2) := by decide +kernel
theorem dX11_keyCost_243 : decode cX11_keyCost 243 = .ok (.ifCond .eq 16, 3) := by decide +kernel
theorem dX11_keyCost_246 : decode cX11_keyCost 246 = .ok (.iload 5, 2) := by decide +kernel
theorem dX11_keyCost_248 : decode cX11_keyCost 248 = .ok (.iload_n 1, 1) := by decide +kernel
theorem dX11_keyCost_249 : decode cX11_keyCost 249 = .ok (.iload_n 2, 1) := by decide +kernel
theorem dX11_keyCost_250 : decode cX11_keyCost 250 = .ok (.invokestatic 179, 3) := by decide +kernel
theorem dX11_keyCost_253 : decode cX11_keyCost 253 = .ok (.invokestatic 173, 3) := by decide +kernel
theorem dX11_keyCost_256 : decode cX11_keyCost 256 = .ok (.goto 5, 3) := by decide +kernel
theorem dX11_keyCost_259 : decode cX11_keyCost 259 = .ok (.iload 5, 2) := by decide +kernel
theorem dX11_keyCost_261 : decode cX11_keyCost 261 = .ok (.ireturn, 1) := by decide +kernel
set_option maxRecDepth 20000 in
theorem ggX11_costOf_X11_kind : GoodIn wsX11_costOf wsX11_kind := goodIn_r _ [6, 1, 48, 49, 50, 51, 52, 53, 54, 55, 56, 57, 58, 59, 60, 61, 62, 63, 64, 65, 66, 67, 68, 69, 70, 71, 72, 73, 74, 75, 76, 77, 78] (by decide +kernel) (by decide +kernel)
set_option maxRecDepth 20000 in
theorem gX11_costOf_X11_kind : GoodIn wsX11_costOf (wsV RX11 155 RX11 yX11_kind wsX11_kind) := goodIn_app (goodIn_of _ (by decide +kernel)) ggX11_costOf_X11_kind
set_option maxRecDepth 20000 in
theorem ggX11_costOf_X11_isLate : GoodIn wsX11_costOf wsX11_isLate := goodIn_r _ [10, 2, 3, 4, 5, 6, 1, 48, 49, 50, 51, 52, 53, 54, 55, 56, 57, 58, 59, 60, 61, 62, 63, 64, 65, 66, 67, 68, 69, 70, 71, 72, 73, 74, 75, 76, 77, 78] (by decide +kernel) (by decide +kernel)
set_option maxRecDepth 20000 in
theorem gX11_costOf_X11_isLate : GoodIn wsX11_costOf (wsV RX11 164 RX11 yX11_isLate wsX11_isLate) := goodIn_app (goodIn_of _ (by decide +kernel)) ggX11_costOf_X11_isLate
set_option maxRecDepth 20000 in
theorem ggX11_costOf_X11_bits : GoodIn wsX11_costOf wsX11_bits := goodIn_r _ [13] (by decide +kernel) (by decide +kernel)
set_option maxRecDepth 20000 in
theorem gX11_costOf_X11_bits : GoodIn wsX11_costOf (va_wsS RX11 188 yX11_bits wsX11_bits) := goodIn_app (goodIn_of _ (by decide +kernel)) ggX11_costOf_X11_bits
set_option maxRecDepth 20000 in
theorem ggX11_costOf_X11_keeper : GoodIn wsX11_costOf wsX11_keeper := goodIn_r _ [17, 1, 48, 49, 50, 51, 52, 53, 54, 55, 56, 57, 58, 59, 60, 61, 62, 63, 64, 65, 66, 67, 68, 69, 70, 71, 72, 73, 74, 75, 76, 77, 78] (by decide +kernel) (by decide +kernel)
set_option maxRecDepth 20000 in
theorem gX11_costOf_X11_keeper : GoodIn wsX11_costOf (wsV RX11 167 RX11 yX11_keeper wsX11_keeper) := goodIn_app (goodIn_of _ (by decide +kernel)) ggX11_costOf_X11_keeper
set_option maxRecDepth 20000 in
theorem ggX11_costOf_X11_keyCost : GoodIn wsX11_costOf wsX11_keyCost := goodIn_r _ [21, 22, 23, 24, 5, 25, 26, 27, 28, 29, 30, 2, 3, 4, 6, 1, 31, 32, 33, 34, 35, 36, 37, 38, 39, 48, 49, 50, 51, 52, 53, 54, 55, 56, 57, 58, 59, 60, 61, 62, 63, 64, 65, 66, 67, 68, 69, 70, 71, 72, 73, 74, 75, 76, 77, 78] (by decide +kernel) (by decide +kernel)
set_option maxRecDepth 20000 in
theorem gX11_costOf_X11_keyCost : GoodIn wsX11_costOf (wsV RX11 191 RX11 yX11_keyCost wsX11_keyCost) := goodIn_app (goodIn_of _ (by decide +kernel)) ggX11_costOf_X11_keyCost
set_option maxRecDepth 20000 in
theorem ggX11_costOf_X11_isTwo : GoodIn wsX11_costOf wsX11_isTwo := goodIn_r _ [43, 2, 3, 4, 5, 6, 1, 48, 49, 50, 51, 52, 53, 54, 55, 56, 57, 58, 59, 60, 61, 62, 63, 64, 65, 66, 67, 68, 69, 70, 71, 72, 73, 74, 75, 76, 77, 78] (by decide +kernel) (by decide +kernel)
set_option maxRecDepth 20000 in
theorem gX11_costOf_X11_isTwo : GoodIn wsX11_costOf (wsV RX11 161 RX11 yX11_isTwo wsX11_isTwo) := goodIn_app (goodIn_of _ (by decide +kernel)) ggX11_costOf_X11_isTwo
set_option maxRecDepth 20000 in
theorem ggX11_costOf_X11_otherKeeper : GoodIn wsX11_costOf wsX11_otherKeeper := goodIn_r _ [47, 1, 48, 49, 50, 51, 52, 53, 54, 55, 56, 57, 58, 59, 60, 61, 62, 63, 64, 65, 66, 67, 68, 69, 70, 71, 72, 73, 74, 75, 76, 77, 78] (by decide +kernel) (by decide +kernel)
set_option maxRecDepth 20000 in
theorem gX11_costOf_X11_otherKeeper : GoodIn wsX11_costOf (wsV RX11 170 RX11 yX11_otherKeeper wsX11_otherKeeper) := goodIn_app (goodIn_of _ (by decide +kernel)) ggX11_costOf_X11_otherKeeper
set_option maxRecDepth 20000 in
theorem ggX11_costOf_X11_lesser : GoodIn wsX11_costOf wsX11_lesser := goodIn_r _ [33] (by decide +kernel) (by decide +kernel)
set_option maxRecDepth 20000 in
theorem gX11_costOf_X11_lesser : GoodIn wsX11_costOf (va_wsS RX11 173 yX11_lesser wsX11_lesser) := goodIn_app (goodIn_of _ (by decide +kernel)) ggX11_costOf_X11_lesser
theorem dX11_costOf_0 : decode cX11_costOf 0 = .ok (.aload_n 0, 1) := by decide +kernel
theorem dX11_costOf_1 : decode cX11_costOf 1 = .ok (.iload_n 1, 1) := by decide +kernel
theorem dX11_costOf_2 : decode cX11_costOf 2 = .ok (.invokevirtual 155, 3) := by decide +kernel
theorem dX11_costOf_5 : decode cX11_costOf 5 = .ok (.iconst 2, 1) := by decide +kernel
theorem dX11_costOf_6 : decode cX11_costOf 6 = .ok (.if_icmp .ne 5, 3) := by decide +kernel
theorem dX11_costOf_9 : decode cX11_costOf 9 = .ok (.iconst 0, 1) := by decide +kernel
theorem dX11_costOf_10 : decode cX11_costOf 10 = .ok (.ireturn, 1) := by decide +kernel
theorem dX11_costOf_11 : decode cX11_costOf 11 = .ok (.aload_n 0, 1) := by decide +kernel
theorem dX11_costOf_12 : decode cX11_costOf 12 = .ok (.iload_n 1, 1) := by decide +kernel
theorem dX11_costOf_13 : decode cX11_costOf 13 = .ok (.invokevirtual 164, 3) := by decide +kernel
theorem dX11_costOf_16 : decode cX11_costOf 16 = .ok (.ifCond .eq 24, 3) := by decide +kernel
theorem dX11_costOf_19 : decode cX11_costOf 19 = .ok (.iload_n 2, 1) := by decide +kernel
theorem dX11_costOf_20 : decode cX11_costOf 20 = .ok (.invokestatic 188, 3) := by decide +kernel
theorem dX11_costOf_23 : decode cX11_costOf 23 = .ok (.aload_n 0, 1) := by decide +kernel
theorem dX11_costOf_24 : decode cX11_costOf 24 = .ok (.getfield 29, 3) := by decide +kernel
theorem dX11_costOf_27 : decode cX11_costOf 27 = .ok (.iconst 4, 1) := by decide +kernel
theorem dX11_costOf_28 : decode cX11_costOf 28 = .ok (.iload_n 1, 1) := by decide +kernel
theorem dX11_costOf_29 : decode cX11_costOf 29 = .ok (.imul, 1) := by decide +kernel
theorem dX11_costOf_30 : decode cX11_costOf 30 = .ok (.iconst 3, 1) := by decide +kernel
theorem dX11_costOf_31 : decode cX11_costOf 31 = .ok (.iadd, 1) := by decide +kernel
theorem dX11_costOf_32 : decode cX11_costOf 32 = .ok (.iaload, 1) := by decide +kernel
theorem dX11_costOf_33 : decode cX11_costOf 33 = .ok (.if_icmp .ge 7, 3) := by decide +kernel
theorem dX11_costOf_36 : decode cX11_costOf 36 = .ok (.sipush 1000, 3) := by decide +kernel
theorem dX11_costOf_39 : decode cX11_costOf 39 = .ok (.ireturn, 1) := by decide +kernel
theorem dX11_costOf_40 : decode cX11_costOf 40 = .ok (.aload_n 0, 1) := by decide +kernel
theorem dX11_costOf_41 : decode cX11_costOf 41 = .ok (.iload_n 1, 1) := by decide +kernel
theorem dX11_costOf_42 : decode cX11_costOf 42 = .ok (.aload_n 0, 1) := by decide +kernel
theorem dX11_costOf_43 : decode cX11_costOf 43 = .ok (.iload_n 1, 1) := by decide +kernel
theorem dX11_costOf_44 : decode cX11_costOf 44 = .ok (.invokevirtual 167, 3) := by decide +kernel
theorem dX11_costOf_47 : decode cX11_costOf 47 = .ok (.iload_n 2, 1) := by decide +kernel
theorem dX11_costOf_48 : decode cX11_costOf 48 = .ok (.iload_n 3, 1) := by decide +kernel
theorem dX11_costOf_49 : decode cX11_costOf 49 = .ok (.invokevirtual 191, 3) := by decide +kernel
theorem dX11_costOf_52 : decode cX11_costOf 52 = .ok (.istore 4, 2) := by decide +kernel
theorem dX11_costOf_54 : decode cX11_costOf 54 = .ok (.iload 4, 2) := by decide +kernel
theorem dX11_costOf_56 : decode cX11_costOf 56 = .ok (.aload_n 0, 1) := by decide +kernel
theorem dX11_costOf_57 : decode cX11_costOf 57 = .ok (.iload_n 1, 1) := by decide +kernel
theorem dX11_costOf_58 : decode cX11_costOf 58 = .ok (.invokevirtual 161, 3) := by decide +kernel
theorem dX11_costOf_61 : decode cX11_costOf 61 = .ok (.ifCond .eq 18, 3) := by decide +kernel
theorem dX11_costOf_64 : decode cX11_costOf 64 = .ok (.aload_n 0, 1) := by decide +kernel
theorem dX11_costOf_65 : decode cX11_costOf 65 = .ok (.iload_n 1, 1) := by decide +kernel
theorem dX11_costOf_66 : decode cX11_costOf 66 = .ok (.aload_n 0, 1) := by decide +kernel
theorem dX11_costOf_67 : decode cX11_costOf 67 = .ok (.iload_n 1, 1) := by decide +kernel
theorem dX11_costOf_68 : decode cX11_costOf 68 = .ok (.invokevirtual 170, 3) := by decide +kernel
theorem dX11_costOf_71 : decode cX11_costOf 71 = .ok (.iload_n 2, 1) := by decide +kernel
theorem dX11_costOf_72 : decode cX11_costOf 72 = .ok (.iload_n 3, 1) := by decide +kernel
theorem dX11_costOf_73 : decode cX11_costOf 73 = .ok (.invokevirtual 191, 3) := by decide +kernel
theorem dX11_costOf_76 : decode cX11_costOf 76 = .ok (.goto 4, 3) := by decide +kernel
theorem dX11_costOf_79 : decode cX11_costOf 79 = .ok (.iconst 0, 1) := by decide +kernel
theorem dX11_costOf_80 : decode cX11_costOf 80 = .ok (.iadd, 1) := by decide +kernel
theorem dX11_costOf_81 : decode cX11_costOf 81 = .ok (.istore 4, 2) := by decide +kernel
theorem dX11_costOf_83 : decode cX11_costOf 83 = .ok (.iload 4, 2) := by decide +kernel
theorem dX11_costOf_85 : decode cX11_costOf 85 = .ok (.sipush 1000, 3) := by decide +kernel
theorem dX11_costOf_88 : decode cX11_costOf 88 = .ok (.invokestatic 173, 3) := by decide +kernel
theorem dX11_costOf_91 : decode cX11_costOf 91 = .ok (.ireturn, 1) := by decide +kernel
set_option maxRecDepth 20000 in
theorem ggX11_can_X11_isCell : GoodIn wsX11_can wsX11_isCell := goodIn_r _ [6, 7, 8, 9, 5, 10, 64, 65, 66, 67, 68, 69, 70, 71, 72, 73, 74, 75, 76, 77, 78, 79, 80, 81, 82, 83, 84, 85, 86, 87, 88, 89, 90, 91, 92, 93, 94] (by decide +kernel) (by decide +kernel)
set_option maxRecDepth 20000 in
theorem gX11_can_X11_isCell : GoodIn wsX11_can (wsV RX11 158 RX11 yX11_isCell wsX11_isCell) := goodIn_app (goodIn_of _ (by decide +kernel)) ggX11_can_X11_isCell
set_option maxRecDepth 20000 in
theorem ggX11_can_X11_has : GoodIn wsX11_can wsX11_has := goodIn_r _ [13] (by decide +kernel) (by decide +kernel)
set_option maxRecDepth 20000 in
theorem gX11_can_X11_has : GoodIn wsX11_can (va_wsS RX11 151 yX11_has wsX11_has) := goodIn_app (goodIn_of _ (by decide +kernel)) ggX11_can_X11_has
set_option maxRecDepth 20000 in
theorem ggX11_can_X11_all : GoodIn wsX11_can wsX11_all := goodIn_r _ [17, 7, 64, 65, 66, 67, 68, 69, 70, 71, 72, 73, 74, 75, 76, 77, 78, 79, 80, 81, 82, 83, 84, 85, 86, 87, 88, 89, 90, 91, 92, 93, 94] (by decide +kernel) (by decide +kernel)
set_option maxRecDepth 20000 in
theorem gX11_can_X11_all : GoodIn wsX11_can (wsV RX11 147 RX11 yX11_all wsX11_all) := goodIn_app (goodIn_of _ (by decide +kernel)) ggX11_can_X11_all
set_option maxRecDepth 20000 in
theorem ggX11_can_X11_costOf : GoodIn wsX11_can wsX11_costOf := goodIn_r _ [21, 22, 23, 24, 25, 5, 26, 27, 28, 29, 30, 31, 32, 33, 34, 35, 36, 37, 38, 39, 40, 41, 7, 11, 12, 13, 42, 43, 44, 45, 46, 47, 48, 49, 50, 51, 52, 53, 54, 55, 56, 57, 58, 59, 60, 61, 62, 63, 64, 65, 66, 67, 68, 69, 70, 71, 72, 73, 74, 75, 76, 77, 78, 79, 80, 81, 82, 83, 84, 85, 86, 87, 88, 89, 90, 91, 92, 93, 94] (by decide +kernel) (by decide +kernel)
set_option maxRecDepth 20000 in
theorem gX11_can_X11_costOf : GoodIn wsX11_can (wsV RX11 195 RX11 yX11_costOf wsX11_costOf) := goodIn_app (goodIn_of _ (by decide +kernel)) ggX11_can_X11_costOf
theorem dX11_can_0 : decode cX11_can 0 = .ok (.aload_n 0, 1) := by decide +kernel
theorem dX11_can_1 : decode cX11_can 1 = .ok (.iload_n 1, 1) := by decide +kernel
theorem dX11_can_2 : decode cX11_can 2 = .ok (.invokevirtual 158, 3) := by decide +kernel
theorem dX11_can_5 : decode cX11_can 5 = .ok (.ifCond .ne 5, 3) := by decide +kernel
theorem dX11_can_8 : decode cX11_can 8 = .ok (.iconst (-1), 1) := by decide +kernel
theorem dX11_can_9 : decode cX11_can 9 = .ok (.ireturn, 1) := by decide +kernel
theorem dX11_can_10 : decode cX11_can 10 = .ok (.aload_n 0, 1) := by decide +kernel
theorem dX11_can_11 : decode cX11_can 11 = .ok (.getfield 138, 3) := by decide +kernel
theorem dX11_can_14 : decode cX11_can 14 = .ok (.iload_n 1, 1) := by decide +kernel
theorem dX11_can_15 : decode cX11_can 15 = .ok (.invokestatic 151, 3) := by decide +kernel
theorem dX11_can_18 : decode cX11_can 18 = .ok (.ifCond .eq 6, 3) := by decide +kernel
theorem dX11_can_21 : decode cX11_can 21 = .ok (.bipush (-4), 2) := by decide +kernel
theorem dX11_can_23 : decode cX11_can 23 = .ok (.ireturn, 1) := by decide +kernel
theorem dX11_can_24 : decode cX11_can 24 = .ok (.aload_n 0, 1) := by decide +kernel
theorem dX11_can_25 : decode cX11_can 25 = .ok (.iload_n 1, 1) := by decide +kernel
theorem dX11_can_26 : decode cX11_can 26 = .ok (.aload_n 0, 1) := by decide +kernel
theorem dX11_can_27 : decode cX11_can 27 = .ok (.getfield 138, 3) := by decide +kernel
theorem dX11_can_30 : decode cX11_can 30 = .ok (.aload_n 0, 1) := by decide +kernel
theorem dX11_can_31 : decode cX11_can 31 = .ok (.invokevirtual 147, 3) := by decide +kernel
theorem dX11_can_34 : decode cX11_can 34 = .ok (.invokevirtual 195, 3) := by decide +kernel
theorem dX11_can_37 : decode cX11_can 37 = .ok (.istore_n 2, 1) := by decide +kernel
theorem dX11_can_38 : decode cX11_can 38 = .ok (.iload_n 2, 1) := by decide +kernel
theorem dX11_can_39 : decode cX11_can 39 = .ok (.sipush 1000, 3) := by decide +kernel
theorem dX11_can_42 : decode cX11_can 42 = .ok (.if_icmp .lt 8, 3) := by decide +kernel
theorem dX11_can_45 : decode cX11_can 45 = .ok (.bipush (-9), 2) := by decide +kernel
theorem dX11_can_47 : decode cX11_can 47 = .ok (.goto 4, 3) := by decide +kernel
theorem dX11_can_50 : decode cX11_can 50 = .ok (.iload_n 2, 1) := by decide +kernel
theorem dX11_can_51 : decode cX11_can 51 = .ok (.ireturn, 1) := by decide +kernel
set_option maxRecDepth 20000 in
theorem ggX11_let_X11_can : GoodIn wsX11_let wsX11_can := goodIn_r _ [7, 1, 8, 9, 10, 6, 11, 12, 13, 14, 15, 16, 17, 18, 19, 20, 21, 22, 23, 24, 25, 26, 27, 28, 29, 30, 31, 32, 33, 34, 35, 36, 37, 38, 39, 40, 41, 42, 43, 44, 45, 46, 47, 48, 49, 50, 51, 52, 53, 54, 55, 56, 57, 58, 59, 60, 61, 62, 63, 64, 65, 66, 67, 68, 69, 70, 71, 72, 73, 74, 75, 76, 77, 78, 79, 80, 81, 82, 83, 84, 85, 86, 87, 88, 89, 90, 91, 92, 93, 94, 95, 96, 97, 98, 99] (by decide +kernel) (by decide +kernel)
set_option maxRecDepth 20000 in
theorem gX11_let_X11_can : GoodIn wsX11_let (wsV RX11 199 RX11 yX11_can wsX11_can) := goodIn_app (goodIn_of _ (by decide +kernel)) ggX11_let_X11_can
theorem dX11_let_0 : decode cX11_let 0 = .ok (.aload_n 0, 1) := by decide +kernel
theorem dX11_let_1 : decode cX11_let 1 = .ok (.iload_n 1, 1) := by decide +kernel
theorem dX11_let_2 : decode cX11_let 2 = .ok (.invokevirtual 199, 3) := by decide +kernel
theorem dX11_let_5 : decode cX11_let 5 = .ok (.istore_n 2, 1) := by decide +kernel
theorem dX11_let_6 : decode cX11_let 6 = .ok (.iload_n 2, 1) := by decide +kernel
theorem dX11_let_7 : decode cX11_let 7 = .ok (.ifCond .lt 25, 3) := by decide +kernel
theorem dX11_let_10 : decode cX11_let 10 = .ok (.aload_n 0, 1) := by decide +kernel
theorem dX11_let_11 : decode cX11_let 11 = .ok (.dup, 1) := by decide +kernel
theorem dX11_let_12 : decode cX11_let 12 = .ok (.getfield 138, 3) := by decide +kernel
theorem dX11_let_15 : decode cX11_let 15 = .ok (.iconst 1, 1) := by decide +kernel
theorem dX11_let_16 : decode cX11_let 16 = .ok (.iload_n 1, 1) := by decide +kernel
theorem dX11_let_17 : decode cX11_let 17 = .ok (.ishl, 1) := by decide +kernel
theorem dX11_let_18 : decode cX11_let 18 = .ok (.ior, 1) := by decide +kernel
theorem dX11_let_19 : decode cX11_let 19 = .ok (.putfield 138, 3) := by decide +kernel
theorem dX11_let_22 : decode cX11_let 22 = .ok (.aload_n 0, 1) := by decide +kernel
theorem dX11_let_23 : decode cX11_let 23 = .ok (.dup, 1) := by decide +kernel
theorem dX11_let_24 : decode cX11_let 24 = .ok (.getfield 141, 3) := by decide +kernel
theorem dX11_let_27 : decode cX11_let 27 = .ok (.iload_n 2, 1) := by decide +kernel
theorem dX11_let_28 : decode cX11_let 28 = .ok (.iadd, 1) := by decide +kernel
theorem dX11_let_29 : decode cX11_let 29 = .ok (.putfield 141, 3) := by decide +kernel
theorem dX11_let_32 : decode cX11_let 32 = .ok (.iload_n 2, 1) := by decide +kernel
theorem dX11_let_33 : decode cX11_let 33 = .ok (.ireturn, 1) := by decide +kernel
set_option maxRecDepth 20000 in
theorem ggX11_out_X11_tells : GoodIn wsX11_out wsX11_tells := goodIn_r _ [7, 8, 9, 10, 11, 12, 13, 14, 15, 16, 17, 18, 19, 20, 21, 22, 23, 24, 25, 26, 27, 28, 29, 30, 31, 32, 33, 34, 35, 36, 37, 38, 39] (by decide +kernel) (by decide +kernel)
set_option maxRecDepth 20000 in
theorem gX11_out_X11_tells : GoodIn wsX11_out (wsV RX11 98 RX11 yX11_tells wsX11_tells) := goodIn_app (goodIn_of _ (by decide +kernel)) ggX11_out_X11_tells
theorem dX11_out_0 : decode cX11_out 0 = .ok (.aload_n 0, 1) := by decide +kernel
theorem dX11_out_1 : decode cX11_out 1 = .ok (.aload_n 0, 1) := by decide +kernel
theorem dX11_out_2 : decode cX11_out 2 = .ok (.getfield 141, 3) := by decide +kernel
theorem dX11_out_5 : decode cX11_out 5 = .ok (.aload_n 0, 1) := by decide +kernel
theorem dX11_out_6 : decode cX11_out 6 = .ok (.getfield 138, 3) := by decide +kernel
theorem dX11_out_9 : decode cX11_out 9 = .ok (.invokevirtual 98, 3) := by decide +kernel
theorem dX11_out_12 : decode cX11_out 12 = .ok (.ireturn, 1) := by decide +kernel
set_option maxRecDepth 20000 in
theorem ggX11_bell_X11_bits : GoodIn wsX11_bell wsX11_bits := goodIn_r _ [6] (by decide +kernel) (by decide +kernel)
set_option maxRecDepth 20000 in
theorem gX11_bell_X11_bits : GoodIn wsX11_bell (va_wsS RX11 188 yX11_bits wsX11_bits) := goodIn_app (goodIn_of _ (by decide +kernel)) ggX11_bell_X11_bits
theorem dX11_bell_0 : decode cX11_bell 0 = .ok (.aload_n 0, 1) := by decide +kernel
theorem dX11_bell_1 : decode cX11_bell 1 = .ok (.getfield 138, 3) := by decide +kernel
theorem dX11_bell_4 : decode cX11_bell 4 = .ok (.invokestatic 188, 3) := by decide +kernel
theorem dX11_bell_7 : decode cX11_bell 7 = .ok (.istore_n 1, 1) := by decide +kernel
theorem dX11_bell_8 : decode cX11_bell 8 = .ok (.aload_n 0, 1) := by decide +kernel
theorem dX11_bell_9 : decode cX11_bell 9 = .ok (.iconst 0, 1) := by decide +kernel
theorem dX11_bell_10 : decode cX11_bell 10 = .ok (.putfield 138, 3) := by decide +kernel
theorem dX11_bell_13 : decode cX11_bell 13 = .ok (.aload_n 0, 1) := by decide +kernel
theorem dX11_bell_14 : decode cX11_bell 14 = .ok (.iconst 0, 1) := by decide +kernel
theorem dX11_bell_15 : decode cX11_bell 15 = .ok (.putfield 141, 3) := by decide +kernel
theorem dX11_bell_18 : decode cX11_bell 18 = .ok (.iload_n 1, 1) := by decide +kernel
theorem dX11_bell_19 : decode cX11_bell 19 = .ok (.ireturn, 1) := by decide +kernel
set_option maxRecDepth 20000 in
theorem ggX11_keep_X11_in : GoodIn wsX11_keep wsX11_in := goodIn_r _ [8] (by decide +kernel) (by decide +kernel)
set_option maxRecDepth 20000 in
theorem gX11_keep_X11_in : GoodIn wsX11_keep (va_wsS RX11 76 yX11_in wsX11_in) := goodIn_app (goodIn_of _ (by decide +kernel)) ggX11_keep_X11_in
set_option maxRecDepth 20000 in
theorem ggX11_keep_X11_bits : GoodIn wsX11_keep wsX11_bits := goodIn_r _ [11] (by decide +kernel) (by decide +kernel)
set_option maxRecDepth 20000 in
theorem gX11_keep_X11_bits : GoodIn wsX11_keep (va_wsS RX11 188 yX11_bits wsX11_bits) := goodIn_app (goodIn_of _ (by decide +kernel)) ggX11_keep_X11_bits
theorem dX11_keep_0 : decode cX11_keep 0 = .ok (.iload_n 1, 1) := by decide +kernel
theorem dX11_keep_1 : decode cX11_keep 1 = .ok (.iconst 0, 1) := by decide +kernel
theorem dX11_keep_2 : decode cX11_keep 2 = .ok (.iconst 2, 1) := by decide +kernel
theorem dX11_keep_3 : decode cX11_keep 3 = .ok (.invokestatic 76, 3) := by decide +kernel
theorem dX11_keep_6 : decode cX11_keep 6 = .ok (.ifCond .ne 5, 3) := by decide +kernel
theorem dX11_keep_9 : decode cX11_keep 9 = .ok (.iconst (-1), 1) := by decide +kernel
theorem dX11_keep_10 : decode cX11_keep 10 = .ok (.ireturn, 1) := by decide +kernel
theorem dX11_keep_11 : decode cX11_keep 11 = .ok (.aload_n 0, 1) := by decide +kernel
theorem dX11_keep_12 : decode cX11_keep 12 = .ok (.getfield 41, 3) := by decide +kernel
theorem dX11_keep_15 : decode cX11_keep 15 = .ok (.iload_n 1, 1) := by decide +kernel
theorem dX11_keep_16 : decode cX11_keep 16 = .ok (.aload_n 0, 1) := by decide +kernel
theorem dX11_keep_17 : decode cX11_keep 17 = .ok (.getfield 138, 3) := by decide +kernel
theorem dX11_keep_20 : decode cX11_keep 20 = .ok (.iastore, 1) := by decide +kernel
theorem dX11_keep_21 : decode cX11_keep 21 = .ok (.aload_n 0, 1) := by decide +kernel
theorem dX11_keep_22 : decode cX11_keep 22 = .ok (.getfield 44, 3) := by decide +kernel
theorem dX11_keep_25 : decode cX11_keep 25 = .ok (.iload_n 1, 1) := by decide +kernel
theorem dX11_keep_26 : decode cX11_keep 26 = .ok (.aload_n 0, 1) := by decide +kernel
theorem dX11_keep_27 : decode cX11_keep 27 = .ok (.getfield 141, 3) := by decide +kernel
theorem dX11_keep_30 : decode cX11_keep 30 = .ok (.iastore, 1) := by decide +kernel
theorem dX11_keep_31 : decode cX11_keep 31 = .ok (.aload_n 0, 1) := by decide +kernel
theorem dX11_keep_32 : decode cX11_keep 32 = .ok (.getfield 138, 3) := by decide +kernel
theorem dX11_keep_35 : decode cX11_keep 35 = .ok (.invokestatic 188, 3) := by decide +kernel
theorem dX11_keep_38 : decode cX11_keep 38 = .ok (.ireturn, 1) := by decide +kernel
set_option maxRecDepth 20000 in
theorem ggX11_on_X11_in : GoodIn wsX11_on wsX11_in := goodIn_r _ [8] (by decide +kernel) (by decide +kernel)
set_option maxRecDepth 20000 in
theorem gX11_on_X11_in : GoodIn wsX11_on (va_wsS RX11 76 yX11_in wsX11_in) := goodIn_app (goodIn_of _ (by decide +kernel)) ggX11_on_X11_in
set_option maxRecDepth 20000 in
theorem ggX11_on_X11_meets : GoodIn wsX11_on wsX11_meets := goodIn_r _ [12, 13, 14, 18, 19, 20, 21, 22, 23, 24, 25, 26, 27, 28, 29, 30, 31, 32, 33, 34, 35, 36, 37, 38, 39, 40, 41, 42, 43, 44, 45, 46, 47, 48] (by decide +kernel) (by decide +kernel)
set_option maxRecDepth 20000 in
theorem gX11_on_X11_meets : GoodIn wsX11_on (wsV RX11 90 RX11 yX11_meets wsX11_meets) := goodIn_app (goodIn_of _ (by decide +kernel)) ggX11_on_X11_meets
set_option maxRecDepth 20000 in
theorem ggX11_on_X11_bits : GoodIn wsX11_on wsX11_bits := goodIn_r _ [17] (by decide +kernel) (by decide +kernel)
set_option maxRecDepth 20000 in
theorem gX11_on_X11_bits : GoodIn wsX11_on (va_wsS RX11 188 yX11_bits wsX11_bits) := goodIn_app (goodIn_of _ (by decide +kernel)) ggX11_on_X11_bits
theorem dX11_on_0 : decode cX11_on 0 = .ok (.iload_n 1, 1) := by decide +kernel
theorem dX11_on_1 : decode cX11_on 1 = .ok (.iconst 0, 1) := by decide +kernel
theorem dX11_on_2 : decode cX11_on 2 = .ok (.iconst 2, 1) := by decide +kernel
theorem dX11_on_3 : decode cX11_on 3 = .ok (.invokestatic 76, 3) := by decide +kernel
theorem dX11_on_6 : decode cX11_on 6 = .ok (.ifCond .ne 5, 3) := by decide +kernel
theorem dX11_on_9 : decode cX11_on 9 = .ok (.iconst (-1), 1) := by decide +kernel
theorem dX11_on_10 : decode cX11_on 10 = .ok (.ireturn, 1) := by decide +kernel
theorem dX11_on_11 : decode cX11_on 11 = .ok (.aload_n 0, 1) := by decide +kernel
theorem dX11_on_12 : decode cX11_on 12 = .ok (.getfield 41, 3) := by decide +kernel
theorem dX11_on_15 : decode cX11_on 15 = .ok (.iload_n 1, 1) := by decide +kernel
theorem dX11_on_16 : decode cX11_on 16 = .ok (.iaload, 1) := by decide +kernel
theorem dX11_on_17 : decode cX11_on 17 = .ok (.ifCond .ge 9, 3) := by decide +kernel
theorem dX11_on_20 : decode cX11_on 20 = .ok (.aload_n 0, 1) := by decide +kernel
theorem dX11_on_21 : decode cX11_on 21 = .ok (.iconst 1, 1) := by decide +kernel
theorem dX11_on_22 : decode cX11_on 22 = .ok (.invokevirtual 90, 3) := by decide +kernel
theorem dX11_on_25 : decode cX11_on 25 = .ok (.ireturn, 1) := by decide +kernel
theorem dX11_on_26 : decode cX11_on 26 = .ok (.aload_n 0, 1) := by decide +kernel
theorem dX11_on_27 : decode cX11_on 27 = .ok (.aload_n 0, 1) := by decide +kernel
theorem dX11_on_28 : decode cX11_on 28 = .ok (.getfield 41, 3) := by decide +kernel
theorem dX11_on_31 : decode cX11_on 31 = .ok (.iload_n 1, 1) := by decide +kernel
theorem dX11_on_32 : decode cX11_on 32 = .ok (.iaload, 1) := by decide +kernel
theorem dX11_on_33 : decode cX11_on 33 = .ok (.putfield 138, 3) := by decide +kernel
theorem dX11_on_36 : decode cX11_on 36 = .ok (.aload_n 0, 1) := by decide +kernel
theorem dX11_on_37 : decode cX11_on 37 = .ok (.aload_n 0, 1) := by decide +kernel
theorem dX11_on_38 : decode cX11_on 38 = .ok (.getfield 44, 3) := by decide +kernel
theorem dX11_on_41 : decode cX11_on 41 = .ok (.iload_n 1, 1) := by decide +kernel
theorem dX11_on_42 : decode cX11_on 42 = .ok (.iaload, 1) := by decide +kernel
theorem dX11_on_43 : decode cX11_on 43 = .ok (.putfield 141, 3) := by decide +kernel
theorem dX11_on_46 : decode cX11_on 46 = .ok (.aload_n 0, 1) := by decide +kernel
theorem dX11_on_47 : decode cX11_on 47 = .ok (.getfield 138, 3) := by decide +kernel
theorem dX11_on_50 : decode cX11_on 50 = .ok (.invokestatic 188, 3) := by decide +kernel
theorem dX11_on_53 : decode cX11_on 53 = .ok (.ireturn, 1) := by decide +kernel
set_option maxRecDepth 20000 in
theorem ggX11_lets_X11_isRow : GoodIn wsX11_lets wsX11_isRow := goodIn_r _ [6, 7, 8, 5, 9] (by decide +kernel) (by decide +kernel)
set_option maxRecDepth 20000 in
theorem gX11_lets_X11_isRow : GoodIn wsX11_lets (va_wsS RX11 86 yX11_isRow wsX11_isRow) := goodIn_app (goodIn_of _ (by decide +kernel)) ggX11_lets_X11_isRow
set_option maxRecDepth 20000 in
theorem ggX11_lets_X11_meets : GoodIn wsX11_lets wsX11_meets := goodIn_r _ [13, 14, 15, 83, 84, 85, 86, 87, 88, 89, 90, 91, 92, 93, 94, 95, 96, 97, 98, 99, 100, 101, 102, 103, 104, 105, 106, 107, 108, 109, 110, 111, 112, 113] (by decide +kernel) (by decide +kernel)
set_option maxRecDepth 20000 in
theorem gX11_lets_X11_meets : GoodIn wsX11_lets (wsV RX11 90 RX11 yX11_meets wsX11_meets) := goodIn_app (goodIn_of _ (by decide +kernel)) ggX11_lets_X11_meets
set_option maxRecDepth 20000 in
theorem ggX11_lets_X11_rowAt : GoodIn wsX11_lets wsX11_rowAt := goodIn_r _ [19, 20, 83, 84, 85, 86, 87, 88, 89, 90, 91, 92, 93, 94, 95, 96, 97, 98, 99, 100, 101, 102, 103, 104, 105, 106, 107, 108, 109, 110, 111, 112, 113] (by decide +kernel) (by decide +kernel)
set_option maxRecDepth 20000 in
theorem gX11_lets_X11_rowAt : GoodIn wsX11_lets (wsV RX11 94 RX11 yX11_rowAt wsX11_rowAt) := goodIn_app (goodIn_of _ (by decide +kernel)) ggX11_lets_X11_rowAt
set_option maxRecDepth 20000 in
theorem ggX11_lets_X11_isCell : GoodIn wsX11_lets wsX11_isCell := goodIn_r _ [24, 2, 7, 8, 5, 9, 83, 84, 85, 86, 87, 88, 89, 90, 91, 92, 93, 94, 95, 96, 97, 98, 99, 100, 101, 102, 103, 104, 105, 106, 107, 108, 109, 110, 111, 112, 113] (by decide +kernel) (by decide +kernel)
set_option maxRecDepth 20000 in
theorem gX11_lets_X11_isCell : GoodIn wsX11_lets (wsV RX11 158 RX11 yX11_isCell wsX11_isCell) := goodIn_app (goodIn_of _ (by decide +kernel)) ggX11_lets_X11_isCell
set_option maxRecDepth 20000 in
theorem ggX11_lets_X11_has : GoodIn wsX11_lets wsX11_has := goodIn_r _ [27] (by decide +kernel) (by decide +kernel)
set_option maxRecDepth 20000 in
theorem gX11_lets_X11_has : GoodIn wsX11_lets (va_wsS RX11 151 yX11_has wsX11_has) := goodIn_app (goodIn_of _ (by decide +kernel)) ggX11_lets_X11_has
set_option maxRecDepth 20000 in
theorem ggX11_lets_X11_all : GoodIn wsX11_lets wsX11_all := goodIn_r _ [31, 2, 83, 84, 85, 86, 87, 88, 89, 90, 91, 92, 93, 94, 95, 96, 97, 98, 99, 100, 101, 102, 103, 104, 105, 106, 107, 108, 109, 110, 111, 112, 113] (by decide +kernel) (by decide +kernel)
set_option maxRecDepth 20000 in
theorem gX11_lets_X11_all : GoodIn wsX11_lets (wsV RX11 147 RX11 yX11_all wsX11_all) := goodIn_app (goodIn_of _ (by decide +kernel)) ggX11_lets_X11_all
set_option maxRecDepth 20000 in
theorem ggX11_lets_X11_costOf : GoodIn wsX11_lets wsX11_costOf := goodIn_r _ [35, 36, 37, 38, 39, 5, 40, 41, 42, 43, 44, 45, 46, 47, 48, 49, 50, 51, 52, 53, 54, 55, 2, 25, 26, 27, 56, 57, 58, 59, 60, 61, 62, 63, 64, 65, 66, 67, 68, 69, 70, 71, 72, 73, 74, 75, 76, 77, 83, 84, 85, 86, 87, 88, 89, 90, 91, 92, 93, 94, 95, 96, 97, 98, 99, 100, 101, 102, 103, 104, 105, 106, 107, 108, 109, 110, 111, 112, 113] (by decide +kernel) (by decide +kernel)
set_option maxRecDepth 20000 in
theorem gX11_lets_X11_costOf : GoodIn wsX11_lets (wsV RX11 195 RX11 yX11_costOf wsX11_costOf) := goodIn_app (goodIn_of _ (by decide +kernel)) ggX11_lets_X11_costOf
set_option maxRecDepth 20000 in
theorem ggX11_lets_X11_tells : GoodIn wsX11_lets wsX11_tells := goodIn_r _ [81, 82, 83, 84, 85, 86, 87, 88, 89, 90, 91, 92, 93, 94, 95, 96, 97, 98, 99, 100, 101, 102, 103, 104, 105, 106, 107, 108, 109, 110, 111, 112, 113] (by decide +kernel) (by decide +kernel)
set_option maxRecDepth 20000 in
theorem gX11_lets_X11_tells : GoodIn wsX11_lets (wsV RX11 98 RX11 yX11_tells wsX11_tells) := goodIn_app (goodIn_of _ (by decide +kernel)) ggX11_lets_X11_tells
theorem dX11_lets_0 : decode cX11_lets 0 = .ok (.iload_n 1, 1) := by decide +kernel
theorem dX11_lets_1 : decode cX11_lets 1 = .ok (.invokestatic 86, 3) := by decide +kernel
theorem dX11_lets_4 : decode cX11_lets 4 = .ok (.ifCond .ne 5, 3) := by decide +kernel
theorem dX11_lets_7 : decode cX11_lets 7 = .ok (.iconst (-1), 1) := by decide +kernel
theorem dX11_lets_8 : decode cX11_lets 8 = .ok (.ireturn, 1) := by decide +kernel
theorem dX11_lets_9 : decode cX11_lets 9 = .ok (.aload_n 0, 1) := by decide +kernel
theorem dX11_lets_10 : decode cX11_lets 10 = .ok (.getfield 13, 3) := by decide +kernel
theorem dX11_lets_13 : decode cX11_lets 13 = .ok (.iload_n 1, 1) := by decide +kernel
theorem dX11_lets_14 : decode cX11_lets 14 = .ok (.iaload, 1) := by decide +kernel
theorem dX11_lets_15 : decode cX11_lets 15 = .ok (.ifCond .ge 9, 3) := by decide +kernel
theorem dX11_lets_18 : decode cX11_lets 18 = .ok (.aload_n 0, 1) := by decide +kernel
theorem dX11_lets_19 : decode cX11_lets 19 = .ok (.iconst 1, 1) := by decide +kernel
theorem dX11_lets_20 : decode cX11_lets 20 = .ok (.invokevirtual 90, 3) := by decide +kernel
theorem dX11_lets_23 : decode cX11_lets 23 = .ok (.ireturn, 1) := by decide +kernel
theorem dX11_lets_24 : decode cX11_lets 24 = .ok (.aload_n 0, 1) := by decide +kernel
theorem dX11_lets_25 : decode cX11_lets 25 = .ok (.getfield 13, 3) := by decide +kernel
theorem dX11_lets_28 : decode cX11_lets 28 = .ok (.iload_n 1, 1) := by decide +kernel
theorem dX11_lets_29 : decode cX11_lets 29 = .ok (.iaload, 1) := by decide +kernel
theorem dX11_lets_30 : decode cX11_lets 30 = .ok (.aload_n 0, 1) := by decide +kernel
theorem dX11_lets_31 : decode cX11_lets 31 = .ok (.getfield 135, 3) := by decide +kernel
theorem dX11_lets_34 : decode cX11_lets 34 = .ok (.if_icmp .le 9, 3) := by decide +kernel
theorem dX11_lets_37 : decode cX11_lets 37 = .ok (.aload_n 0, 1) := by decide +kernel
theorem dX11_lets_38 : decode cX11_lets 38 = .ok (.iconst 5, 1) := by decide +kernel
theorem dX11_lets_39 : decode cX11_lets 39 = .ok (.invokevirtual 90, 3) := by decide +kernel
theorem dX11_lets_42 : decode cX11_lets 42 = .ok (.ireturn, 1) := by decide +kernel
theorem dX11_lets_43 : decode cX11_lets 43 = .ok (.iconst 0, 1) := by decide +kernel
theorem dX11_lets_44 : decode cX11_lets 44 = .ok (.istore_n 2, 1) := by decide +kernel
theorem dX11_lets_45 : decode cX11_lets 45 = .ok (.iconst 1, 1) := by decide +kernel
theorem dX11_lets_46 : decode cX11_lets 46 = .ok (.istore_n 3, 1) := by decide +kernel
theorem dX11_lets_47 : decode cX11_lets 47 = .ok (.iconst 0, 1) := by decide +kernel
theorem dX11_lets_48 : decode cX11_lets 48 = .ok (.istore 4, 2) := by decide +kernel
theorem dX11_lets_50 : decode cX11_lets 50 = .ok (.iload 4, 2) := by decide +kernel
theorem dX11_lets_52 : decode cX11_lets 52 = .ok (.aload_n 0, 1) := by decide +kernel
theorem dX11_lets_53 : decode cX11_lets 53 = .ok (.getfield 13, 3) := by decide +kernel
theorem dX11_lets_56 : decode cX11_lets 56 = .ok (.iload_n 1, 1) := by decide +kernel
theorem dX11_lets_57 : decode cX11_lets 57 = .ok (.iaload, 1) := by decide +kernel
theorem dX11_lets_58 : decode cX11_lets 58 = .ok (.if_icmp .ge 61, 3) := by decide +kernel
theorem dX11_lets_61 : decode cX11_lets 61 = .ok (.aload_n 0, 1) := by decide +kernel
theorem dX11_lets_62 : decode cX11_lets 62 = .ok (.iload_n 1, 1) := by decide +kernel
theorem dX11_lets_63 : decode cX11_lets 63 = .ok (.iload 4, 2) := by decide +kernel
theorem dX11_lets_65 : decode cX11_lets 65 = .ok (.invokevirtual 94, 3) := by decide +kernel
theorem dX11_lets_68 : decode cX11_lets 68 = .ok (.istore 5, 2) := by decide +kernel
theorem dX11_lets_70 : decode cX11_lets 70 = .ok (.iload_n 3, 1) := by decide +kernel
theorem dX11_lets_71 : decode cX11_lets 71 = .ok (.ifCond .eq 25, 3) := by decide +kernel
theorem dX11_lets_74 : decode cX11_lets 74 = .ok (.aload_n 0, 1) := by decide +kernel
theorem dX11_lets_75 : decode cX11_lets 75 = .ok (.iload 5, 2) := by decide +kernel
theorem dX11_lets_77 : decode cX11_lets 77 = .ok (.invokevirtual 158, 3) := by decide +kernel
theorem dX11_lets_80 : decode cX11_lets 80 = .ok (.ifCond .eq 16, 3) := by decide +kernel
theorem dX11_lets_83 : decode cX11_lets 83 = .ok (.iload_n 2, 1) := by decide +kernel
theorem dX11_lets_84 : decode cX11_lets 84 = .ok (.iload 5, 2) := by decide +kernel
theorem dX11_lets_86 : decode cX11_lets 86 = .ok (.invokestatic 151, 3) := by decide +kernel
theorem dX11_lets_89 : decode cX11_lets 89 = .ok (.ifCond .ne 7, 3) := by decide +kernel
theorem dX11_lets_92 : decode cX11_lets 92 = .ok (.iconst 1, 1) := by decide +kernel
theorem dX11_lets_93 : decode cX11_lets 93 = .ok (.goto 4, 3) := by decide +kernel
theorem dX11_lets_96 : decode cX11_lets 96 = .ok (.iconst 0, 1) := by decide +kernel
theorem dX11_lets_97 : decode cX11_lets 97 = .ok (.istore_n 3, 1) := by decide +kernel
theorem dX11_lets_98 : decode cX11_lets 98 = .ok (.iload_n 2, 1) := by decide +kernel
theorem dX11_lets_99 : decode cX11_lets 99 = .ok (.iload_n 3, 1) := by decide +kernel
theorem dX11_lets_100 : decode cX11_lets 100 = .ok (.ifCond .eq 10, 3) := by decide +kernel
theorem dX11_lets_103 : decode cX11_lets 103 = .ok (.iconst 1, 1) := by decide +kernel
theorem dX11_lets_104 : decode cX11_lets 104 = .ok (.iload 5, 2) := by decide +kernel
theorem dX11_lets_106 : decode cX11_lets 106 = .ok (.ishl, 1) := by decide +kernel
theorem dX11_lets_107 : decode cX11_lets 107 = .ok (.goto 4, 3) := by decide +kernel
theorem dX11_lets_110 : decode cX11_lets 110 = .ok (.iconst 0, 1) := by decide +kernel
theorem dX11_lets_111 : decode cX11_lets 111 = .ok (.ior, 1) := by decide +kernel
theorem dX11_lets_112 : decode cX11_lets 112 = .ok (.istore_n 2, 1) := by decide +kernel
theorem dX11_lets_113 : decode cX11_lets 113 = .ok (.iinc 4 1, 3) := by decide +kernel
theorem dX11_lets_116 : decode cX11_lets 116 = .ok (.goto (-66), 3) := by decide +kernel
theorem dX11_lets_119 : decode cX11_lets 119 = .ok (.iload_n 3, 1) := by decide +kernel
theorem dX11_lets_120 : decode cX11_lets 120 = .ok (.ifCond .ne 9, 3) := by decide +kernel
theorem dX11_lets_123 : decode cX11_lets 123 = .ok (.aload_n 0, 1) := by decide +kernel
theorem dX11_lets_124 : decode cX11_lets 124 = .ok (.iconst 3, 1) := by decide +kernel
theorem dX11_lets_125 : decode cX11_lets 125 = .ok (.invokevirtual 90, 3) := by decide +kernel
theorem dX11_lets_128 : decode cX11_lets 128 = .ok (.ireturn, 1) := by decide +kernel
theorem dX11_lets_129 : decode cX11_lets 129 = .ok (.iconst 0, 1) := by decide +kernel
theorem dX11_lets_130 : decode cX11_lets 130 = .ok (.istore 4, 2) := by decide +kernel
theorem dX11_lets_132 : decode cX11_lets 132 = .ok (.iconst 0, 1) := by decide +kernel
theorem dX11_lets_133 : decode cX11_lets 133 = .ok (.istore 5, 2) := by decide +kernel
theorem dX11_lets_135 : decode cX11_lets 135 = .ok (.iconst 0, 1) := by decide +kernel
theorem dX11_lets_136 : decode cX11_lets 136 = .ok (.istore 6, 2) := by decide +kernel
theorem dX11_lets_138 : decode cX11_lets 138 = .ok (.iload 6, 2) := by decide +kernel
theorem dX11_lets_140 : decode cX11_lets 140 = .ok (.aload_n 0, 1) := by decide +kernel
theorem dX11_lets_141 : decode cX11_lets 141 = .ok (.getfield 13, 3) := by decide +kernel
theorem dX11_lets_144 : decode cX11_lets 144 = .ok (.iload_n 1, 1) := by decide +kernel
theorem dX11_lets_145 : decode cX11_lets 145 = .ok (.iaload, 1) := by decide +kernel
theorem dX11_lets_146 : decode cX11_lets 146 = .ok (.if_icmp .ge 66, 3) := by decide +kernel
theorem dX11_lets_149 : decode cX11_lets 149 = .ok (.aload_n 0, 1) := by decide +kernel
theorem dX11_lets_150 : decode cX11_lets 150 = .ok (.aload_n 0, 1) := by decide +kernel
theorem dX11_lets_151 : decode cX11_lets 151 = .ok (.iload_n 1, 1) := by decide +kernel
theorem dX11_lets_152 : decode cX11_lets 152 = .ok (.iload 6, 2) := by decide +kernel
theorem dX11_lets_154 : decode cX11_lets 154 = .ok (.invokevirtual 94, 3) := by decide +kernel
theorem dX11_lets_157 : decode cX11_lets 157 = .ok (.iload 4, 2) := by decide +kernel
theorem dX11_lets_159 : decode cX11_lets 159 = .ok (.aload_n 0, 1) := by decide +kernel
theorem dX11_lets_160 : decode cX11_lets 160 = .ok (.invokevirtual 147, 3) := by decide +kernel
theorem dX11_lets_163 : decode cX11_lets 163 = .ok (.invokevirtual 195, 3) := by decide +kernel
theorem dX11_lets_166 : decode cX11_lets 166 = .ok (.istore 7, 2) := by decide +kernel
theorem dX11_lets_168 : decode cX11_lets 168 = .ok (.iload 7, 2) := by decide +kernel
theorem dX11_lets_170 : decode cX11_lets 170 = .ok (.sipush 1000, 3) := by decide +kernel
theorem dX11_lets_173 : decode cX11_lets 173 = .ok (.if_icmp .lt 12, 3) := by decide +kernel
theorem dX11_lets_176 : decode cX11_lets 176 = .ok (.aload_n 0, 1) := by decide +kernel
theorem dX11_lets_177 : decode cX11_lets 177 = .ok (.iload 5, 2) := by decide +kernel
theorem dX11_lets_179 : decode cX11_lets 179 = .ok (.iload 6, 2) := by decide +kernel
theorem dX11_lets_181 : decode cX11_lets 181 = .ok (.invokevirtual 98, 3) := by decide +kernel
theorem dX11_lets_184 : decode cX11_lets 184 = .ok (.ireturn, 1) := by decide +kernel
theorem dX11_lets_185 : decode cX11_lets 185 = .ok (.iload 5, 2) := by decide +kernel
theorem dX11_lets_187 : decode cX11_lets 187 = .ok (.iload 7, 2) := by decide +kernel
theorem dX11_lets_189 : decode cX11_lets 189 = .ok (.iadd, 1) := by decide +kernel
theorem dX11_lets_190 : decode cX11_lets 190 = .ok (.istore 5, 2) := by decide +kernel
theorem dX11_lets_192 : decode cX11_lets 192 = .ok (.iload 4, 2) := by decide +kernel
theorem dX11_lets_194 : decode cX11_lets 194 = .ok (.iconst 1, 1) := by decide +kernel
theorem dX11_lets_195 : decode cX11_lets 195 = .ok (.aload_n 0, 1) := by decide +kernel
theorem dX11_lets_196 : decode cX11_lets 196 = .ok (.iload_n 1, 1) := by decide +kernel
theorem dX11_lets_197 : decode cX11_lets 197 = .ok (.iload 6, 2) := by decide +kernel
theorem dX11_lets_199 : decode cX11_lets 199 = .ok (.invokevirtual 94, 3) := by decide +kernel
theorem dX11_lets_202 : decode cX11_lets 202 = .ok (.ishl, 1) := by decide +kernel
theorem dX11_lets_203 : decode cX11_lets 203 = .ok (.ior, 1) := by decide +kernel
theorem dX11_lets_204 : decode cX11_lets 204 = .ok (.istore 4, 2) := by decide +kernel
theorem dX11_lets_206 : decode cX11_lets 206 = .ok (.iinc 6 1, 3) := by decide +kernel
theorem dX11_lets_209 : decode cX11_lets 209 = .ok (.goto (-71), 3) := by decide +kernel
theorem dX11_lets_212 : decode cX11_lets 212 = .ok (.aload_n 0, 1) := by decide +kernel
theorem dX11_lets_213 : decode cX11_lets 213 = .ok (.iload 5, 2) := by decide +kernel
theorem dX11_lets_215 : decode cX11_lets 215 = .ok (.aload_n 0, 1) := by decide +kernel
theorem dX11_lets_216 : decode cX11_lets 216 = .ok (.getfield 13, 3) := by decide +kernel
theorem dX11_lets_219 : decode cX11_lets 219 = .ok (.iload_n 1, 1) := by decide +kernel
theorem dX11_lets_220 : decode cX11_lets 220 = .ok (.iaload, 1) := by decide +kernel
theorem dX11_lets_221 : decode cX11_lets 221 = .ok (.invokevirtual 98, 3) := by decide +kernel
theorem dX11_lets_224 : decode cX11_lets 224 = .ok (.ireturn, 1) := by decide +kernel
set_option maxRecDepth 20000 in
theorem ggX11_layLeasts_X11_all : GoodIn wsX11_layLeasts wsX11_all := goodIn_r _ [8, 3, 58, 59, 60, 61, 62, 63, 64, 65, 66, 67, 68, 69, 70, 71, 72, 73, 74, 75, 76, 77, 78, 79, 80, 81, 82, 83, 84, 85, 86, 87, 88] (by decide +kernel) (by decide +kernel)
set_option maxRecDepth 20000 in
theorem gX11_layLeasts_X11_all : GoodIn wsX11_layLeasts (wsV RX11 147 RX11 yX11_all wsX11_all) := goodIn_app (goodIn_of _ (by decide +kernel)) ggX11_layLeasts_X11_all
set_option maxRecDepth 20000 in
theorem ggX11_layLeasts_X11_has : GoodIn wsX11_layLeasts wsX11_has := goodIn_r _ [11] (by decide +kernel) (by decide +kernel)
set_option maxRecDepth 20000 in
theorem gX11_layLeasts_X11_has : GoodIn wsX11_layLeasts (va_wsS RX11 151 yX11_has wsX11_has) := goodIn_app (goodIn_of _ (by decide +kernel)) ggX11_layLeasts_X11_has
set_option maxRecDepth 20000 in
theorem ggX11_layLeasts_X11_costOf : GoodIn wsX11_layLeasts wsX11_costOf := goodIn_r _ [15, 16, 17, 18, 19, 7, 20, 21, 22, 23, 24, 25, 26, 27, 28, 29, 30, 31, 32, 33, 34, 35, 3, 9, 10, 11, 36, 37, 38, 39, 40, 41, 42, 43, 44, 45, 46, 47, 48, 49, 50, 51, 52, 53, 54, 55, 56, 57, 58, 59, 60, 61, 62, 63, 64, 65, 66, 67, 68, 69, 70, 71, 72, 73, 74, 75, 76, 77, 78, 79, 80, 81, 82, 83, 84, 85, 86, 87, 88] (by decide +kernel) (by decide +kernel)
set_option maxRecDepth 20000 in
theorem gX11_layLeasts_X11_costOf : GoodIn wsX11_layLeasts (wsV RX11 195 RX11 yX11_costOf wsX11_costOf) := goodIn_app (goodIn_of _ (by decide +kernel)) ggX11_layLeasts_X11_costOf
set_option maxRecDepth 20000 in
theorem ggX11_layLeasts_X11_lesser : GoodIn wsX11_layLeasts wsX11_lesser := goodIn_r _ [43] (by decide +kernel) (by decide +kernel)
set_option maxRecDepth 20000 in
theorem gX11_layLeasts_X11_lesser : GoodIn wsX11_layLeasts (va_wsS RX11 173 yX11_lesser wsX11_lesser) := goodIn_app (goodIn_of _ (by decide +kernel)) ggX11_layLeasts_X11_lesser
theorem dX11_layLeasts_0 : decode cX11_layLeasts 0 = .ok (.iconst 0, 1) := by decide +kernel
theorem dX11_layLeasts_1 : decode cX11_layLeasts 1 = .ok (.istore_n 2, 1) := by decide +kernel
theorem dX11_layLeasts_2 : decode cX11_layLeasts 2 = .ok (.iload_n 2, 1) := by decide +kernel
theorem dX11_layLeasts_3 : decode cX11_layLeasts 3 = .ok (.aload_n 0, 1) := by decide +kernel
theorem dX11_layLeasts_4 : decode cX11_layLeasts 4 = .ok (.invokevirtual 147, 3) := by decide +kernel
theorem dX11_layLeasts_7 : decode cX11_layLeasts 7 = .ok (.if_icmp .gt 151, 3) := by decide +kernel
theorem dX11_layLeasts_10 : decode cX11_layLeasts 10 = .ok (.aload_n 0, 1) := by decide +kernel
theorem dX11_layLeasts_11 : decode cX11_layLeasts 11 = .ok (.getfield 47, 3) := by decide +kernel
theorem dX11_layLeasts_14 : decode cX11_layLeasts 14 = .ok (.iload_n 2, 1) := by decide +kernel
theorem dX11_layLeasts_15 : decode cX11_layLeasts 15 = .ok (.iload_n 2, 1) := by decide +kernel
theorem dX11_layLeasts_16 : decode cX11_layLeasts 16 = .ok (.ifCond .ne 7, 3) := by decide +kernel
theorem dX11_layLeasts_19 : decode cX11_layLeasts 19 = .ok (.iconst 0, 1) := by decide +kernel
theorem dX11_layLeasts_20 : decode cX11_layLeasts 20 = .ok (.goto 6, 3) := by decide +kernel
theorem dX11_layLeasts_23 : decode cX11_layLeasts 23 = .ok (.sipush 1000, 3) := by decide +kernel
theorem dX11_layLeasts_26 : decode cX11_layLeasts 26 = .ok (.iastore, 1) := by decide +kernel
theorem dX11_layLeasts_27 : decode cX11_layLeasts 27 = .ok (.aload_n 0, 1) := by decide +kernel
theorem dX11_layLeasts_28 : decode cX11_layLeasts 28 = .ok (.getfield 50, 3) := by decide +kernel
theorem dX11_layLeasts_31 : decode cX11_layLeasts 31 = .ok (.iload_n 2, 1) := by decide +kernel
theorem dX11_layLeasts_32 : decode cX11_layLeasts 32 = .ok (.iload_n 2, 1) := by decide +kernel
theorem dX11_layLeasts_33 : decode cX11_layLeasts 33 = .ok (.ifCond .ne 7, 3) := by decide +kernel
theorem dX11_layLeasts_36 : decode cX11_layLeasts 36 = .ok (.iconst 1, 1) := by decide +kernel
theorem dX11_layLeasts_37 : decode cX11_layLeasts 37 = .ok (.goto 4, 3) := by decide +kernel
theorem dX11_layLeasts_40 : decode cX11_layLeasts 40 = .ok (.iconst 0, 1) := by decide +kernel
theorem dX11_layLeasts_41 : decode cX11_layLeasts 41 = .ok (.iastore, 1) := by decide +kernel
theorem dX11_layLeasts_42 : decode cX11_layLeasts 42 = .ok (.iconst 0, 1) := by decide +kernel
theorem dX11_layLeasts_43 : decode cX11_layLeasts 43 = .ok (.istore_n 3, 1) := by decide +kernel
theorem dX11_layLeasts_44 : decode cX11_layLeasts 44 = .ok (.iload_n 3, 1) := by decide +kernel
theorem dX11_layLeasts_45 : decode cX11_layLeasts 45 = .ok (.aload_n 0, 1) := by decide +kernel
theorem dX11_layLeasts_46 : decode cX11_layLeasts 46 = .ok (.getfield 135, 3) := by decide +kernel
theorem dX11_layLeasts_49 : decode cX11_layLeasts 49 = .ok (.if_icmp .ge 103, 3) := by decide +kernel
theorem dX11_layLeasts_52 : decode cX11_layLeasts 52 = .ok (.iload_n 2, 1) := by decide +kernel
theorem dX11_layLeasts_53 : decode cX11_layLeasts 53 = .ok (.iload_n 1, 1) := by decide +kernel
theorem dX11_layLeasts_54 : decode cX11_layLeasts 54 = .ok (.iconst (-1), 1) := by decide +kernel
theorem dX11_layLeasts_55 : decode cX11_layLeasts 55 = .ok (.ixor, 1) := by decide +kernel
theorem dX11_layLeasts_56 : decode cX11_layLeasts 56 = .ok (.iand, 1) := by decide +kernel
theorem dX11_layLeasts_57 : decode cX11_layLeasts 57 = .ok (.ifCond .ne 95, 3) := by decide +kernel
theorem dX11_layLeasts_60 : decode cX11_layLeasts 60 = .ok (.iload_n 2, 1) := by decide +kernel
theorem dX11_layLeasts_61 : decode cX11_layLeasts 61 = .ok (.iconst 1, 1) := by decide +kernel
theorem dX11_layLeasts_62 : decode cX11_layLeasts 62 = .ok (.iload_n 3, 1) := by decide +kernel
theorem dX11_layLeasts_63 : decode cX11_layLeasts 63 = .ok (.ishl, 1) := by decide +kernel
theorem dX11_layLeasts_64 : decode cX11_layLeasts 64 = .ok (.iconst (-1), 1) := by decide +kernel
theorem dX11_layLeasts_65 : decode cX11_layLeasts 65 = .ok (.ixor, 1) := by decide +kernel
theorem dX11_layLeasts_66 : decode cX11_layLeasts 66 = .ok (.iand, 1) := by decide +kernel
theorem dX11_layLeasts_67 : decode cX11_layLeasts 67 = .ok (.istore 4, 2) := by decide +kernel
theorem dX11_layLeasts_69 : decode cX11_layLeasts 69 = .ok (.iload_n 2, 1) := by decide +kernel
theorem dX11_layLeasts_70 : decode cX11_layLeasts 70 = .ok (.iload_n 3, 1) := by decide +kernel
theorem dX11_layLeasts_71 : decode cX11_layLeasts 71 = .ok (.invokestatic 151, 3) := by decide +kernel
theorem dX11_layLeasts_74 : decode cX11_layLeasts 74 = .ok (.ifCond .eq 72, 3) := by decide +kernel
theorem dX11_layLeasts_77 : decode cX11_layLeasts 77 = .ok (.aload_n 0, 1) := by decide +kernel
theorem dX11_layLeasts_78 : decode cX11_layLeasts 78 = .ok (.getfield 50, 3) := by decide +kernel
theorem dX11_layLeasts_81 : decode cX11_layLeasts 81 = .ok (.iload 4, 2) := by decide +kernel
theorem dX11_layLeasts_83 : decode cX11_layLeasts 83 = .ok (.iaload, 1) := by decide +kernel
theorem dX11_layLeasts_84 : decode cX11_layLeasts 84 = .ok (.ifCond .le 62, 3) := by decide +kernel
theorem dX11_layLeasts_87 : decode cX11_layLeasts 87 = .ok (.aload_n 0, 1) := by decide +kernel
theorem dX11_layLeasts_88 : decode cX11_layLeasts 88 = .ok (.iload_n 3, 1) := by decide +kernel
theorem dX11_layLeasts_89 : decode cX11_layLeasts 89 = .ok (.iload 4, 2) := by decide +kernel
theorem dX11_layLeasts_91 : decode cX11_layLeasts 91 = .ok (.iload_n 1, 1) := by decide +kernel
theorem dX11_layLeasts_92 : decode cX11_layLeasts 92 = .ok (.invokevirtual 195, 3) := by decide +kernel
theorem dX11_layLeasts_95 : decode cX11_layLeasts 95 = .ok (.istore 5, 2) := by decide +kernel
theorem dX11_layLeasts_97 : decode cX11_layLeasts 97 = .ok (.iload 5, 2) := by decide +kernel
theorem dX11_layLeasts_99 : decode cX11_layLeasts 99 = .ok (.sipush 1000, 3) := by decide +kernel
theorem dX11_layLeasts_102 : decode cX11_layLeasts 102 = .ok (.if_icmp .ge 44, 3) := by decide +kernel
theorem dX11_layLeasts_105 : decode cX11_layLeasts 105 = .ok (.aload_n 0, 1) := by decide +kernel
theorem dX11_layLeasts_106 : decode cX11_layLeasts 106 = .ok (.getfield 47, 3) := by decide +kernel
theorem dX11_layLeasts_109 : decode cX11_layLeasts 109 = .ok (.iload_n 2, 1) := by decide +kernel
theorem dX11_layLeasts_110 : decode cX11_layLeasts 110 = .ok (.aload_n 0, 1) := by decide +kernel
theorem dX11_layLeasts_111 : decode cX11_layLeasts 111 = .ok (.getfield 47, 3) := by decide +kernel
theorem dX11_layLeasts_114 : decode cX11_layLeasts 114 = .ok (.iload_n 2, 1) := by decide +kernel
theorem dX11_layLeasts_115 : decode cX11_layLeasts 115 = .ok (.iaload, 1) := by decide +kernel
theorem dX11_layLeasts_116 : decode cX11_layLeasts 116 = .ok (.aload_n 0, 1) := by decide +kernel
theorem dX11_layLeasts_117 : decode cX11_layLeasts 117 = .ok (.getfield 47, 3) := by decide +kernel
theorem dX11_layLeasts_120 : decode cX11_layLeasts 120 = .ok (.iload 4, 2) := by decide +kernel
theorem dX11_layLeasts_122 : decode cX11_layLeasts 122 = .ok (.iaload, 1) := by decide +kernel
theorem dX11_layLeasts_123 : decode cX11_layLeasts 123 = .ok (.iload 5, 2) := by decide +kernel
theorem dX11_layLeasts_125 : decode cX11_layLeasts 125 = .ok (.iadd, 1) := by decide +kernel
theorem dX11_layLeasts_126 : decode cX11_layLeasts 126 = .ok (.invokestatic 173, 3) := by decide +kernel
theorem dX11_layLeasts_129 : decode cX11_layLeasts 129 = .ok (.iastore, 1) := by decide +kernel
theorem dX11_layLeasts_130 : decode cX11_layLeasts 130 = .ok (.aload_n 0, 1) := by decide +kernel
theorem dX11_layLeasts_131 : decode cX11_layLeasts 131 = .ok (.getfield 50, 3) := by decide +kernel
theorem dX11_layLeasts_134 : decode cX11_layLeasts 134 = .ok (.iload_n 2, 1) := by decide +kernel
theorem dX11_layLeasts_135 : decode cX11_layLeasts 135 = .ok (.dup2, 1) := by decide +kernel
theorem dX11_layLeasts_136 : decode cX11_layLeasts 136 = .ok (.iaload, 1) := by decide +kernel
theorem dX11_layLeasts_137 : decode cX11_layLeasts 137 = .ok (.aload_n 0, 1) := by decide +kernel
theorem dX11_layLeasts_138 : decode cX11_layLeasts 138 = .ok (.getfield 50, 3) := by decide +kernel
theorem dX11_layLeasts_141 : decode cX11_layLeasts 141 = .ok (.iload 4, 2) := by decide +kernel
theorem dX11_layLeasts_143 : decode cX11_layLeasts 143 = .ok (.iaload, 1) := by decide +kernel
theorem dX11_layLeasts_144 : decode cX11_layLeasts 144 = .ok (.iadd, 1) := by decide +kernel
theorem dX11_layLeasts_145 : decode cX11_layLeasts 145 = .ok (.iastore, 1) := by decide +kernel
theorem dX11_layLeasts_146 : decode cX11_layLeasts 146 = .ok (.iinc 3 1, 3) := by decide +kernel
theorem dX11_layLeasts_149 : decode cX11_layLeasts 149 = .ok (.goto (-105), 3) := by decide +kernel
theorem dX11_layLeasts_152 : decode cX11_layLeasts 152 = .ok (.iinc 2 1, 3) := by decide +kernel
theorem dX11_layLeasts_155 : decode cX11_layLeasts 155 = .ok (.goto (-153), 3) := by decide +kernel
theorem dX11_layLeasts_158 : decode cX11_layLeasts 158 = .ok (.return_, 1) := by decide +kernel
set_option maxRecDepth 20000 in
theorem ggX11_firstWith_X11_all : GoodIn wsX11_firstWith wsX11_all := goodIn_r _ [7, 8, 9, 10, 11, 12, 13, 14, 15, 16, 17, 18, 19, 20, 21, 22, 23, 24, 25, 26, 27, 28, 29, 30, 31, 32, 33, 34, 35, 36, 37, 38, 39] (by decide +kernel) (by decide +kernel)
set_option maxRecDepth 20000 in
theorem gX11_firstWith_X11_all : GoodIn wsX11_firstWith (wsV RX11 147 RX11 yX11_all wsX11_all) := goodIn_app (goodIn_of _ (by decide +kernel)) ggX11_firstWith_X11_all
theorem dX11_firstWith_0 : decode cX11_firstWith 0 = .ok (.bipush (-9), 2) := by decide +kernel
theorem dX11_firstWith_2 : decode cX11_firstWith 2 = .ok (.istore_n 2, 1) := by decide +kernel
theorem dX11_firstWith_3 : decode cX11_firstWith 3 = .ok (.iconst 0, 1) := by decide +kernel
theorem dX11_firstWith_4 : decode cX11_firstWith 4 = .ok (.istore_n 3, 1) := by decide +kernel
theorem dX11_firstWith_5 : decode cX11_firstWith 5 = .ok (.iload_n 3, 1) := by decide +kernel
theorem dX11_firstWith_6 : decode cX11_firstWith 6 = .ok (.aload_n 0, 1) := by decide +kernel
theorem dX11_firstWith_7 : decode cX11_firstWith 7 = .ok (.invokevirtual 147, 3) := by decide +kernel
theorem dX11_firstWith_10 : decode cX11_firstWith 10 = .ok (.if_icmp .gt 64, 3) := by decide +kernel
theorem dX11_firstWith_13 : decode cX11_firstWith 13 = .ok (.iload_n 3, 1) := by decide +kernel
theorem dX11_firstWith_14 : decode cX11_firstWith 14 = .ok (.iload_n 1, 1) := by decide +kernel
theorem dX11_firstWith_15 : decode cX11_firstWith 15 = .ok (.iand, 1) := by decide +kernel
theorem dX11_firstWith_16 : decode cX11_firstWith 16 = .ok (.iload_n 1, 1) := by decide +kernel
theorem dX11_firstWith_17 : decode cX11_firstWith 17 = .ok (.if_icmp .ne 16, 3) := by decide +kernel
theorem dX11_firstWith_20 : decode cX11_firstWith 20 = .ok (.aload_n 0, 1) := by decide +kernel
theorem dX11_firstWith_21 : decode cX11_firstWith 21 = .ok (.getfield 50, 3) := by decide +kernel
theorem dX11_firstWith_24 : decode cX11_firstWith 24 = .ok (.iload_n 3, 1) := by decide +kernel
theorem dX11_firstWith_25 : decode cX11_firstWith 25 = .ok (.iaload, 1) := by decide +kernel
theorem dX11_firstWith_26 : decode cX11_firstWith 26 = .ok (.ifCond .le 7, 3) := by decide +kernel
theorem dX11_firstWith_29 : decode cX11_firstWith 29 = .ok (.iconst 1, 1) := by decide +kernel
theorem dX11_firstWith_30 : decode cX11_firstWith 30 = .ok (.goto 4, 3) := by decide +kernel
theorem dX11_firstWith_33 : decode cX11_firstWith 33 = .ok (.iconst 0, 1) := by decide +kernel
theorem dX11_firstWith_34 : decode cX11_firstWith 34 = .ok (.istore 4, 2) := by decide +kernel
theorem dX11_firstWith_36 : decode cX11_firstWith 36 = .ok (.iload 4, 2) := by decide +kernel
theorem dX11_firstWith_38 : decode cX11_firstWith 38 = .ok (.ifCond .eq 28, 3) := by decide +kernel
theorem dX11_firstWith_41 : decode cX11_firstWith 41 = .ok (.iload_n 2, 1) := by decide +kernel
theorem dX11_firstWith_42 : decode cX11_firstWith 42 = .ok (.bipush (-9), 2) := by decide +kernel
theorem dX11_firstWith_44 : decode cX11_firstWith 44 = .ok (.if_icmp .eq 18, 3) := by decide +kernel
theorem dX11_firstWith_47 : decode cX11_firstWith 47 = .ok (.aload_n 0, 1) := by decide +kernel
theorem dX11_firstWith_48 : decode cX11_firstWith 48 = .ok (.getfield 47, 3) := by decide +kernel
theorem dX11_firstWith_51 : decode cX11_firstWith 51 = .ok (.iload_n 3, 1) := by decide +kernel
theorem dX11_firstWith_52 : decode cX11_firstWith 52 = .ok (.iaload, 1) := by decide +kernel
theorem dX11_firstWith_53 : decode cX11_firstWith 53 = .ok (.aload_n 0, 1) := by decide +kernel
theorem dX11_firstWith_54 : decode cX11_firstWith 54 = .ok (.getfield 47, 3) := by decide +kernel
theorem dX11_firstWith_57 : decode cX11_firstWith 57 = .ok (.iload_n 2, 1) := by decide +kernel
theorem dX11_firstWith_58 : decode cX11_firstWith 58 = .ok (.iaload, 1) := by decide +kernel
theorem dX11_firstWith_59 : decode cX11_firstWith 59 = .ok (.if_icmp .ge 7, 3) := by decide +kernel
theorem dX11_firstWith_62 : decode cX11_firstWith 62 = .ok (.iload_n 3, 1) := by decide +kernel
theorem dX11_firstWith_63 : decode cX11_firstWith 63 = .ok (.goto 4, 3) := by decide +kernel
theorem dX11_firstWith_66 : decode cX11_firstWith 66 = .ok (.iload_n 2, 1) := by decide +kernel
theorem dX11_firstWith_67 : decode cX11_firstWith 67 = .ok (.istore_n 2, 1) := by decide +kernel
theorem dX11_firstWith_68 : decode cX11_firstWith 68 = .ok (.iinc 3 1, 3) := by decide +kernel
theorem dX11_firstWith_71 : decode cX11_firstWith 71 = .ok (.goto (-66), 3) := by decide +kernel
theorem dX11_firstWith_74 : decode cX11_firstWith 74 = .ok (.iload_n 2, 1) := by decide +kernel
theorem dX11_firstWith_75 : decode cX11_firstWith 75 = .ok (.ireturn, 1) := by decide +kernel
set_option maxRecDepth 20000 in
theorem ggX11_least_X11_isSet : GoodIn wsX11_least wsX11_isSet := goodIn_r _ [6, 7, 8, 9, 5, 10, 11, 12, 13, 14, 78, 79, 80, 81, 82, 83, 84, 85, 86, 87, 88, 89, 90, 91, 92, 93, 94, 95, 96, 97, 98, 99, 100, 101, 102, 103, 104, 105, 106, 107, 108] (by decide +kernel) (by decide +kernel)
set_option maxRecDepth 20000 in
theorem gX11_least_X11_isSet : GoodIn wsX11_least (wsV RX11 202 RX11 yX11_isSet wsX11_isSet) := goodIn_app (goodIn_of _ (by decide +kernel)) ggX11_least_X11_isSet
set_option maxRecDepth 20000 in
theorem ggX11_least_X11_all : GoodIn wsX11_least wsX11_all := goodIn_r _ [10, 11, 78, 79, 80, 81, 82, 83, 84, 85, 86, 87, 88, 89, 90, 91, 92, 93, 94, 95, 96, 97, 98, 99, 100, 101, 102, 103, 104, 105, 106, 107, 108] (by decide +kernel) (by decide +kernel)
set_option maxRecDepth 20000 in
theorem gX11_least_X11_all : GoodIn wsX11_least (wsV RX11 147 RX11 yX11_all wsX11_all) := goodIn_app (goodIn_of _ (by decide +kernel)) ggX11_least_X11_all
set_option maxRecDepth 20000 in
theorem ggX11_least_X11_layLeasts : GoodIn wsX11_least wsX11_layLeasts := goodIn_r _ [18, 1, 19, 11, 7, 8, 9, 5, 10, 20, 21, 22, 23, 24, 25, 26, 27, 28, 29, 30, 31, 32, 33, 34, 35, 36, 37, 38, 39, 40, 41, 42, 43, 44, 45, 46, 47, 48, 49, 50, 51, 52, 53, 54, 55, 56, 57, 58, 59, 60, 61, 62, 63, 64, 65, 66, 67, 68, 78, 79, 80, 81, 82, 83, 84, 85, 86, 87, 88, 89, 90, 91, 92, 93, 94, 95, 96, 97, 98, 99, 100, 101, 102, 103, 104, 105, 106, 107, 108] (by decide +kernel) (by decide +kernel)
set_option maxRecDepth 20000 in
theorem gX11_least_X11_layLeasts : GoodIn wsX11_least (wsV RX11 205 RX11 yX11_layLeasts wsX11_layLeasts) := goodIn_app (goodIn_of _ (by decide +kernel)) ggX11_least_X11_layLeasts
set_option maxRecDepth 20000 in
theorem ggX11_least_X11_firstWith : GoodIn wsX11_least wsX11_firstWith := goodIn_r _ [72, 19, 1, 7, 8, 9, 5, 10, 11, 78, 79, 80, 81, 82, 83, 84, 85, 86, 87, 88, 89, 90, 91, 92, 93, 94, 95, 96, 97, 98, 99, 100, 101, 102, 103, 104, 105, 106, 107, 108] (by decide +kernel) (by decide +kernel)
set_option maxRecDepth 20000 in
theorem gX11_least_X11_firstWith : GoodIn wsX11_least (wsV RX11 209 RX11 yX11_firstWith wsX11_firstWith) := goodIn_app (goodIn_of _ (by decide +kernel)) ggX11_least_X11_firstWith
set_option maxRecDepth 20000 in
theorem ggX11_least_X11_tells : GoodIn wsX11_least wsX11_tells := goodIn_r _ [76, 77, 78, 79, 80, 81, 82, 83, 84, 85, 86, 87, 88, 89, 90, 91, 92, 93, 94, 95, 96, 97, 98, 99, 100, 101, 102, 103, 104, 105, 106, 107, 108] (by decide +kernel) (by decide +kernel)
set_option maxRecDepth 20000 in
theorem gX11_least_X11_tells : GoodIn wsX11_least (wsV RX11 98 RX11 yX11_tells wsX11_tells) := goodIn_app (goodIn_of _ (by decide +kernel)) ggX11_least_X11_tells
theorem dX11_least_0 : decode cX11_least 0 = .ok (.aload_n 0, 1) := by decide +kernel
theorem dX11_least_1 : decode cX11_least 1 = .ok (.iload_n 1, 1) := by decide +kernel
theorem dX11_least_2 : decode cX11_least 2 = .ok (.invokevirtual 202, 3) := by decide +kernel
theorem dX11_least_5 : decode cX11_least 5 = .ok (.ifCond .ne 5, 3) := by decide +kernel
theorem dX11_least_8 : decode cX11_least 8 = .ok (.iconst (-1), 1) := by decide +kernel
theorem dX11_least_9 : decode cX11_least 9 = .ok (.ireturn, 1) := by decide +kernel
theorem dX11_least_10 : decode cX11_least 10 = .ok (.aload_n 0, 1) := by decide +kernel
theorem dX11_least_11 : decode cX11_least 11 = .ok (.aload_n 0, 1) := by decide +kernel
theorem dX11_least_12 : decode cX11_least 12 = .ok (.invokevirtual 147, 3) := by decide +kernel
theorem dX11_least_15 : decode cX11_least 15 = .ok (.invokevirtual 205, 3) := by decide +kernel
theorem dX11_least_18 : decode cX11_least 18 = .ok (.aload_n 0, 1) := by decide +kernel
theorem dX11_least_19 : decode cX11_least 19 = .ok (.iload_n 1, 1) := by decide +kernel
theorem dX11_least_20 : decode cX11_least 20 = .ok (.invokevirtual 209, 3) := by decide +kernel
theorem dX11_least_23 : decode cX11_least 23 = .ok (.istore_n 2, 1) := by decide +kernel
theorem dX11_least_24 : decode cX11_least 24 = .ok (.iload_n 2, 1) := by decide +kernel
theorem dX11_least_25 : decode cX11_least 25 = .ok (.bipush (-9), 2) := by decide +kernel
theorem dX11_least_27 : decode cX11_least 27 = .ok (.if_icmp .ne 8, 3) := by decide +kernel
theorem dX11_least_30 : decode cX11_least 30 = .ok (.bipush (-9), 2) := by decide +kernel
theorem dX11_least_32 : decode cX11_least 32 = .ok (.goto 14, 3) := by decide +kernel
theorem dX11_least_35 : decode cX11_least 35 = .ok (.aload_n 0, 1) := by decide +kernel
theorem dX11_least_36 : decode cX11_least 36 = .ok (.iload_n 2, 1) := by decide +kernel
theorem dX11_least_37 : decode cX11_least 37 = .ok (.aload_n 0, 1) := by decide +kernel
theorem dX11_least_38 : decode cX11_least 38 = .ok (.getfield 47, 3) := by decide +kernel
theorem dX11_least_41 : decode cX11_least 41 = .ok (.iload_n 2, 1) := by decide +kernel
theorem dX11_least_42 : decode cX11_least 42 = .ok (.iaload, 1) := by decide +kernel
theorem dX11_least_43 : decode cX11_least 43 = .ok (.invokevirtual 98, 3) := by decide +kernel
theorem dX11_least_46 : decode cX11_least 46 = .ok (.ireturn, 1) := by decide +kernel
set_option maxRecDepth 20000 in
theorem ggX11_order_X11_isSet : GoodIn wsX11_order wsX11_isSet := goodIn_r _ [9, 10, 11, 12, 8, 13, 2, 14, 15, 16, 69, 70, 71, 72, 73, 74, 75, 76, 77, 78, 79, 80, 81, 82, 83, 84, 85, 86, 87, 88, 89, 90, 91, 92, 93, 94, 95, 96, 97, 98, 99] (by decide +kernel) (by decide +kernel)
set_option maxRecDepth 20000 in
theorem gX11_order_X11_isSet : GoodIn wsX11_order (wsV RX11 202 RX11 yX11_isSet wsX11_isSet) := goodIn_app (goodIn_of _ (by decide +kernel)) ggX11_order_X11_isSet
set_option maxRecDepth 20000 in
theorem ggX11_order_X11_isRow : GoodIn wsX11_order wsX11_isRow := goodIn_r _ [19, 14, 15, 8, 16] (by decide +kernel) (by decide +kernel)
set_option maxRecDepth 20000 in
theorem gX11_order_X11_isRow : GoodIn wsX11_order (va_wsS RX11 86 yX11_isRow wsX11_isRow) := goodIn_app (goodIn_of _ (by decide +kernel)) ggX11_order_X11_isRow
set_option maxRecDepth 20000 in
theorem ggX11_order_X11_has : GoodIn wsX11_order wsX11_has := goodIn_r _ [22] (by decide +kernel) (by decide +kernel)
set_option maxRecDepth 20000 in
theorem gX11_order_X11_has : GoodIn wsX11_order (va_wsS RX11 151 yX11_has wsX11_has) := goodIn_app (goodIn_of _ (by decide +kernel)) ggX11_order_X11_has
set_option maxRecDepth 20000 in
theorem ggX11_order_X11_all : GoodIn wsX11_order wsX11_all := goodIn_r _ [13, 2, 69, 70, 71, 72, 73, 74, 75, 76, 77, 78, 79, 80, 81, 82, 83, 84, 85, 86, 87, 88, 89, 90, 91, 92, 93, 94, 95, 96, 97, 98, 99] (by decide +kernel) (by decide +kernel)
set_option maxRecDepth 20000 in
theorem gX11_order_X11_all : GoodIn wsX11_order (wsV RX11 147 RX11 yX11_all wsX11_all) := goodIn_app (goodIn_of _ (by decide +kernel)) ggX11_order_X11_all
set_option maxRecDepth 20000 in
theorem ggX11_order_X11_costOf : GoodIn wsX11_order wsX11_costOf := goodIn_r _ [26, 27, 28, 29, 30, 8, 31, 32, 33, 34, 35, 36, 37, 38, 39, 40, 41, 42, 43, 44, 45, 46, 2, 20, 21, 22, 47, 48, 49, 50, 51, 52, 53, 54, 55, 56, 57, 58, 59, 60, 61, 62, 63, 64, 65, 66, 67, 68, 69, 70, 71, 72, 73, 74, 75, 76, 77, 78, 79, 80, 81, 82, 83, 84, 85, 86, 87, 88, 89, 90, 91, 92, 93, 94, 95, 96, 97, 98, 99] (by decide +kernel) (by decide +kernel)
set_option maxRecDepth 20000 in
theorem gX11_order_X11_costOf : GoodIn wsX11_order (wsV RX11 195 RX11 yX11_costOf wsX11_costOf) := goodIn_app (goodIn_of _ (by decide +kernel)) ggX11_order_X11_costOf
set_option maxRecDepth 20000 in
theorem ggX11_order_X11_lesser : GoodIn wsX11_order wsX11_lesser := goodIn_r _ [54] (by decide +kernel) (by decide +kernel)
set_option maxRecDepth 20000 in
theorem gX11_order_X11_lesser : GoodIn wsX11_order (va_wsS RX11 173 yX11_lesser wsX11_lesser) := goodIn_app (goodIn_of _ (by decide +kernel)) ggX11_order_X11_lesser
set_option maxRecDepth 20000 in
theorem ggX11_order_X11_bits : GoodIn wsX11_order wsX11_bits := goodIn_r _ [38] (by decide +kernel) (by decide +kernel)
set_option maxRecDepth 20000 in
theorem gX11_order_X11_bits : GoodIn wsX11_order (va_wsS RX11 188 yX11_bits wsX11_bits) := goodIn_app (goodIn_of _ (by decide +kernel)) ggX11_order_X11_bits
theorem dX11_order_0 : decode cX11_order 0 = .ok (.aload_n 0, 1) := by decide +kernel
theorem dX11_order_1 : decode cX11_order 1 = .ok (.iload_n 1, 1) := by decide +kernel
theorem dX11_order_2 : decode cX11_order 2 = .ok (.invokevirtual 202, 3) := by decide +kernel
theorem dX11_order_5 : decode cX11_order 5 = .ok (.ifCond .eq 10, 3) := by decide +kernel
theorem dX11_order_8 : decode cX11_order 8 = .ok (.iload_n 2, 1) := by decide +kernel
theorem dX11_order_9 : decode cX11_order 9 = .ok (.invokestatic 86, 3) := by decide +kernel
theorem dX11_order_12 : decode cX11_order 12 = .ok (.ifCond .ne 5, 3) := by decide +kernel
theorem dX11_order_15 : decode cX11_order 15 = .ok (.iconst (-1), 1) := by decide +kernel
theorem dX11_order_16 : decode cX11_order 16 = .ok (.ireturn, 1) := by decide +kernel
theorem dX11_order_17 : decode cX11_order 17 = .ok (.iload_n 1, 1) := by decide +kernel
theorem dX11_order_18 : decode cX11_order 18 = .ok (.istore_n 3, 1) := by decide +kernel
theorem dX11_order_19 : decode cX11_order 19 = .ok (.iload_n 3, 1) := by decide +kernel
theorem dX11_order_20 : decode cX11_order 20 = .ok (.ifCond .lt 147, 3) := by decide +kernel
theorem dX11_order_23 : decode cX11_order 23 = .ok (.aload_n 0, 1) := by decide +kernel
theorem dX11_order_24 : decode cX11_order 24 = .ok (.getfield 53, 3) := by decide +kernel
theorem dX11_order_27 : decode cX11_order 27 = .ok (.iload_n 3, 1) := by decide +kernel
theorem dX11_order_28 : decode cX11_order 28 = .ok (.iload_n 3, 1) := by decide +kernel
theorem dX11_order_29 : decode cX11_order 29 = .ok (.iload_n 1, 1) := by decide +kernel
theorem dX11_order_30 : decode cX11_order 30 = .ok (.if_icmp .ne 7, 3) := by decide +kernel
theorem dX11_order_33 : decode cX11_order 33 = .ok (.iconst 0, 1) := by decide +kernel
theorem dX11_order_34 : decode cX11_order 34 = .ok (.goto 6, 3) := by decide +kernel
theorem dX11_order_37 : decode cX11_order 37 = .ok (.sipush 1000, 3) := by decide +kernel
theorem dX11_order_40 : decode cX11_order 40 = .ok (.iastore, 1) := by decide +kernel
theorem dX11_order_41 : decode cX11_order 41 = .ok (.iconst 0, 1) := by decide +kernel
theorem dX11_order_42 : decode cX11_order 42 = .ok (.istore 4, 2) := by decide +kernel
theorem dX11_order_44 : decode cX11_order 44 = .ok (.iload 4, 2) := by decide +kernel
theorem dX11_order_46 : decode cX11_order 46 = .ok (.aload_n 0, 1) := by decide +kernel
theorem dX11_order_47 : decode cX11_order 47 = .ok (.getfield 135, 3) := by decide +kernel
theorem dX11_order_50 : decode cX11_order 50 = .ok (.if_icmp .ge 111, 3) := by decide +kernel
theorem dX11_order_53 : decode cX11_order 53 = .ok (.iload_n 3, 1) := by decide +kernel
theorem dX11_order_54 : decode cX11_order 54 = .ok (.iload_n 1, 1) := by decide +kernel
theorem dX11_order_55 : decode cX11_order 55 = .ok (.iconst (-1), 1) := by decide +kernel
theorem dX11_order_56 : decode cX11_order 56 = .ok (.ixor, 1) := by decide +kernel
theorem dX11_order_57 : decode cX11_order 57 = .ok (.iand, 1) := by decide +kernel
theorem dX11_order_58 : decode cX11_order 58 = .ok (.ifCond .ne 103, 3) := by decide +kernel
theorem dX11_order_61 : decode cX11_order 61 = .ok (.iload_n 3, 1) := by decide +kernel
theorem dX11_order_62 : decode cX11_order 62 = .ok (.iload_n 1, 1) := by decide +kernel
theorem dX11_order_63 : decode cX11_order 63 = .ok (.if_icmp .eq 98, 3) := by decide +kernel
theorem dX11_order_66 : decode cX11_order 66 = .ok (.iload_n 1, 1) := by decide +kernel
theorem dX11_order_67 : decode cX11_order 67 = .ok (.iload 4, 2) := by decide +kernel
theorem dX11_order_69 : decode cX11_order 69 = .ok (.invokestatic 151, 3) := by decide +kernel
theorem dX11_order_72 : decode cX11_order 72 = .ok (.ifCond .eq 83, 3) := by decide +kernel
theorem dX11_order_75 : decode cX11_order 75 = .ok (.iload_n 3, 1) := by decide +kernel
theorem dX11_order_76 : decode cX11_order 76 = .ok (.iload 4, 2) := by decide +kernel
theorem dX11_order_78 : decode cX11_order 78 = .ok (.invokestatic 151, 3) := by decide +kernel
theorem dX11_order_81 : decode cX11_order 81 = .ok (.ifCond .ne 74, 3) := by decide +kernel
theorem dX11_order_84 : decode cX11_order 84 = .ok (.aload_n 0, 1) := by decide +kernel
theorem dX11_order_85 : decode cX11_order 85 = .ok (.iload 4, 2) := by decide +kernel
theorem dX11_order_87 : decode cX11_order 87 = .ok (.iload_n 3, 1) := by decide +kernel
theorem dX11_order_88 : decode cX11_order 88 = .ok (.aload_n 0, 1) := by decide +kernel
theorem dX11_order_89 : decode cX11_order 89 = .ok (.invokevirtual 147, 3) := by decide +kernel
theorem dX11_order_92 : decode cX11_order 92 = .ok (.invokevirtual 195, 3) := by decide +kernel
theorem dX11_order_95 : decode cX11_order 95 = .ok (.istore 5, 2) := by decide +kernel
theorem dX11_order_97 : decode cX11_order 97 = .ok (.aload_n 0, 1) := by decide +kernel
theorem dX11_order_98 : decode cX11_order 98 = .ok (.getfield 53, 3) := by decide +kernel
theorem dX11_order_101 : decode cX11_order 101 = .ok (.iload_n 3, 1) := by decide +kernel
theorem dX11_order_102 : decode cX11_order 102 = .ok (.iconst 1, 1) := by decide +kernel
theorem dX11_order_103 : decode cX11_order 103 = .ok (.iload 4, 2) := by decide +kernel
theorem dX11_order_105 : decode cX11_order 105 = .ok (.ishl, 1) := by decide +kernel
theorem dX11_order_106 : decode cX11_order 106 = .ok (.ior, 1) := by decide +kernel
theorem dX11_order_107 : decode cX11_order 107 = .ok (.iaload, 1) := by decide +kernel
theorem dX11_order_108 : decode cX11_order 108 = .ok (.istore 6, 2) := by decide +kernel
theorem dX11_order_110 : decode cX11_order 110 = .ok (.aload_n 0, 1) := by decide +kernel
theorem dX11_order_111 : decode cX11_order 111 = .ok (.getfield 53, 3) := by decide +kernel
theorem dX11_order_114 : decode cX11_order 114 = .ok (.iload_n 3, 1) := by decide +kernel
theorem dX11_order_115 : decode cX11_order 115 = .ok (.iload 5, 2) := by decide +kernel
theorem dX11_order_117 : decode cX11_order 117 = .ok (.sipush 1000, 3) := by decide +kernel
theorem dX11_order_120 : decode cX11_order 120 = .ok (.if_icmp .ge 11, 3) := by decide +kernel
theorem dX11_order_123 : decode cX11_order 123 = .ok (.iload 6, 2) := by decide +kernel
theorem dX11_order_125 : decode cX11_order 125 = .ok (.sipush 1000, 3) := by decide +kernel
theorem dX11_order_128 : decode cX11_order 128 = .ok (.if_icmp .lt 12, 3) := by decide +kernel
theorem dX11_order_131 : decode cX11_order 131 = .ok (.aload_n 0, 1) := by decide +kernel
theorem dX11_order_132 : decode cX11_order 132 = .ok (.getfield 53, 3) := by decide +kernel
theorem dX11_order_135 : decode cX11_order 135 = .ok (.iload_n 3, 1) := by decide +kernel
theorem dX11_order_136 : decode cX11_order 136 = .ok (.iaload, 1) := by decide +kernel
theorem dX11_order_137 : decode cX11_order 137 = .ok (.goto 17, 3) := by decide +kernel
theorem dX11_order_140 : decode cX11_order 140 = .ok (.aload_n 0, 1) := by decide +kernel
theorem dX11_order_141 : decode cX11_order 141 = .ok (.getfield 53, 3) := by decide +kernel
theorem dX11_order_144 : decode cX11_order 144 = .ok (.iload_n 3, 1) := by decide +kernel
theorem dX11_order_145 : decode cX11_order 145 = .ok (.iaload, 1) := by decide +kernel
theorem dX11_order_146 : decode cX11_order 146 = .ok (.iload 5, 2) := by decide +kernel
theorem dX11_order_148 : decode cX11_order 148 = .ok (.iload 6, 2) := by decide +kernel
theorem dX11_order_150 : decode cX11_order 150 = .ok (.iadd, 1) := by decide +kernel
theorem dX11_order_151 : decode cX11_order 151 = .ok (.invokestatic 173, 3) := by decide +kernel
theorem dX11_order_154 : decode cX11_order 154 = .ok (.iastore, 1) := by decide +kernel
theorem dX11_order_155 : decode cX11_order 155 = .ok (.iinc 4 1, 3) := by decide +kernel
theorem dX11_order_158 : decode cX11_order 158 = .ok (.goto (-114), 3) := by decide +kernel
theorem dX11_order_161 : decode cX11_order 161 = .ok (.iinc 3 (-1), 3) := by decide +kernel
theorem dX11_order_164 : decode cX11_order 164 = .ok (.goto (-145), 3) := by decide +kernel
theorem dX11_order_167 : decode cX11_order 167 = .ok (.aload_n 0, 1) := by decide +kernel
theorem dX11_order_168 : decode cX11_order 168 = .ok (.getfield 53, 3) := by decide +kernel
theorem dX11_order_171 : decode cX11_order 171 = .ok (.iconst 0, 1) := by decide +kernel
theorem dX11_order_172 : decode cX11_order 172 = .ok (.iaload, 1) := by decide +kernel
theorem dX11_order_173 : decode cX11_order 173 = .ok (.sipush 1000, 3) := by decide +kernel
theorem dX11_order_176 : decode cX11_order 176 = .ok (.if_icmp .lt 6, 3) := by decide +kernel
theorem dX11_order_179 : decode cX11_order 179 = .ok (.bipush (-9), 2) := by decide +kernel
theorem dX11_order_181 : decode cX11_order 181 = .ok (.ireturn, 1) := by decide +kernel
theorem dX11_order_182 : decode cX11_order 182 = .ok (.aload_n 0, 1) := by decide +kernel
theorem dX11_order_183 : decode cX11_order 183 = .ok (.getfield 13, 3) := by decide +kernel
theorem dX11_order_186 : decode cX11_order 186 = .ok (.iload_n 2, 1) := by decide +kernel
theorem dX11_order_187 : decode cX11_order 187 = .ok (.iload_n 1, 1) := by decide +kernel
theorem dX11_order_188 : decode cX11_order 188 = .ok (.invokestatic 188, 3) := by decide +kernel
theorem dX11_order_191 : decode cX11_order 191 = .ok (.iastore, 1) := by decide +kernel
theorem dX11_order_192 : decode cX11_order 192 = .ok (.iconst 0, 1) := by decide +kernel
theorem dX11_order_193 : decode cX11_order 193 = .ok (.istore_n 3, 1) := by decide +kernel
theorem dX11_order_194 : decode cX11_order 194 = .ok (.iload_n 3, 1) := by decide +kernel
theorem dX11_order_195 : decode cX11_order 195 = .ok (.bipush 60, 2) := by decide +kernel
theorem dX11_order_197 : decode cX11_order 197 = .ok (.if_icmp .ge 21, 3) := by decide +kernel
theorem dX11_order_200 : decode cX11_order 200 = .ok (.aload_n 0, 1) := by decide +kernel
theorem dX11_order_201 : decode cX11_order 201 = .ok (.getfield 16, 3) := by decide +kernel
theorem dX11_order_204 : decode cX11_order 204 = .ok (.bipush 60, 2) := by decide +kernel
theorem dX11_order_206 : decode cX11_order 206 = .ok (.iload_n 2, 1) := by decide +kernel
theorem dX11_order_207 : decode cX11_order 207 = .ok (.imul, 1) := by decide +kernel
theorem dX11_order_208 : decode cX11_order 208 = .ok (.iload_n 3, 1) := by decide +kernel
theorem dX11_order_209 : decode cX11_order 209 = .ok (.iadd, 1) := by decide +kernel
theorem dX11_order_210 : decode cX11_order 210 = .ok (.iconst 0, 1) := by decide +kernel
theorem dX11_order_211 : decode cX11_order 211 = .ok (.iastore, 1) := by decide +kernel
theorem dX11_order_212 : decode cX11_order 212 = .ok (.iinc 3 1, 3) := by decide +kernel
theorem dX11_order_215 : decode cX11_order 215 = .ok (.goto (-21), 3) := by decide +kernel
theorem dX11_order_218 : decode cX11_order 218 = .ok (.iconst 0, 1) := by decide +kernel
theorem dX11_order_219 : decode cX11_order 219 = .ok (.istore_n 3, 1) := by decide +kernel
theorem dX11_order_220 : decode cX11_order 220 = .ok (.iconst 0, 1) := by decide +kernel
theorem dX11_order_221 : decode cX11_order 221 = .ok (.istore 4, 2) := by decide +kernel
theorem dX11_order_223 : decode cX11_order 223 = .ok (.iload 4, 2) := by decide +kernel
theorem dX11_order_225 : decode cX11_order 225 = .ok (.aload_n 0, 1) := by decide +kernel
theorem dX11_order_226 : decode cX11_order 226 = .ok (.getfield 13, 3) := by decide +kernel
theorem dX11_order_229 : decode cX11_order 229 = .ok (.iload_n 2, 1) := by decide +kernel
theorem dX11_order_230 : decode cX11_order 230 = .ok (.iaload, 1) := by decide +kernel
theorem dX11_order_231 : decode cX11_order 231 = .ok (.if_icmp .ge 89, 3) := by decide +kernel
theorem dX11_order_234 : decode cX11_order 234 = .ok (.iconst 0, 1) := by decide +kernel
theorem dX11_order_235 : decode cX11_order 235 = .ok (.istore 5, 2) := by decide +kernel
theorem dX11_order_237 : decode cX11_order 237 = .ok (.iload_n 1, 1) := by decide +kernel
theorem dX11_order_238 : decode cX11_order 238 = .ok (.iload 5, 2) := by decide +kernel
theorem dX11_order_240 : decode cX11_order 240 = .ok (.invokestatic 151, 3) := by decide +kernel
theorem dX11_order_243 : decode cX11_order 243 = .ok (.ifCond .eq 44, 3) := by decide +kernel
theorem dX11_order_246 : decode cX11_order 246 = .ok (.iload_n 3, 1) := by decide +kernel
theorem dX11_order_247 : decode cX11_order 247 = .ok (.iload 5, 2) := by decide +kernel
theorem dX11_order_249 : decode cX11_order 249 = .ok (.invokestatic 151, 3) := by decide +kernel
theorem dX11_order_252 : decode cX11_order 252 = .ok (.ifCond .ne 35, 3) := by decide +kernel
theorem dX11_order_255 : decode cX11_order 255 = .ok (.aload_n 0, 1) := by decide +kernel
theorem dX11_order_256 : decode cX11_order 256 = .ok (.iload 5, 2) := by decide +kernel
