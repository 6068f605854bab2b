theorem dL_numbers_350 : decode cL_numbers 350 = .ok (.aload_n 0, 1) := by decide +kernel
theorem dL_numbers_351 : decode cL_numbers 351 = .ok (.iload_n 1, 1) := by decide +kernel
theorem dL_numbers_352 : decode cL_numbers 352 = .ok (.bipush 10, 2) := by decide +kernel
theorem dL_numbers_354 : decode cL_numbers 354 = .ok (.iadd, 1) := by decide +kernel
theorem dL_numbers_355 : decode cL_numbers 355 = .ok (.bipush 6, 2) := by decide +kernel
theorem dL_numbers_357 : decode cL_numbers 357 = .ok (.iload 5, 2) := by decide +kernel
theorem dL_numbers_359 : decode cL_numbers 359 = .ok (.imul, 1) := by decide +kernel
theorem dL_numbers_360 : decode cL_numbers 360 = .ok (.iadd, 1) := by decide +kernel
theorem dL_numbers_361 : decode cL_numbers 361 = .ok (.iload 6, 2) := by decide +kernel
theorem dL_numbers_363 : decode cL_numbers 363 = .ok (.iadd, 1) := by decide +kernel
theorem dL_numbers_364 : decode cL_numbers 364 = .ok (.invokestatic 14, 3) := by decide +kernel
theorem dL_numbers_367 : decode cL_numbers 367 = .ok (.iconst 5, 1) := by decide +kernel
theorem dL_numbers_368 : decode cL_numbers 368 = .ok (.irem, 1) := by decide +kernel
theorem dL_numbers_369 : decode cL_numbers 369 = .ok (.ifCond .ne 31, 3) := by decide +kernel
theorem dL_numbers_372 : decode cL_numbers 372 = .ok (.aload_n 3, 1) := by decide +kernel
theorem dL_numbers_373 : decode cL_numbers 373 = .ok (.bipush 33, 2) := by decide +kernel
theorem dL_numbers_375 : decode cL_numbers 375 = .ok (.iload 5, 2) := by decide +kernel
theorem dL_numbers_377 : decode cL_numbers 377 = .ok (.iadd, 1) := by decide +kernel
theorem dL_numbers_378 : decode cL_numbers 378 = .ok (.dup2, 1) := by decide +kernel
theorem dL_numbers_379 : decode cL_numbers 379 = .ok (.iaload, 1) := by decide +kernel
theorem dL_numbers_380 : decode cL_numbers 380 = .ok (.iconst 1, 1) := by decide +kernel
theorem dL_numbers_381 : decode cL_numbers 381 = .ok (.iload 6, 2) := by decide +kernel
theorem dL_numbers_383 : decode cL_numbers 383 = .ok (.ishl, 1) := by decide +kernel
theorem dL_numbers_384 : decode cL_numbers 384 = .ok (.ior, 1) := by decide +kernel
theorem dL_numbers_385 : decode cL_numbers 385 = .ok (.iastore, 1) := by decide +kernel
theorem dL_numbers_386 : decode cL_numbers 386 = .ok (.aload_n 3, 1) := by decide +kernel
theorem dL_numbers_387 : decode cL_numbers 387 = .ok (.bipush 33, 2) := by decide +kernel
theorem dL_numbers_389 : decode cL_numbers 389 = .ok (.iload 6, 2) := by decide +kernel
theorem dL_numbers_391 : decode cL_numbers 391 = .ok (.iadd, 1) := by decide +kernel
theorem dL_numbers_392 : decode cL_numbers 392 = .ok (.dup2, 1) := by decide +kernel
theorem dL_numbers_393 : decode cL_numbers 393 = .ok (.iaload, 1) := by decide +kernel
theorem dL_numbers_394 : decode cL_numbers 394 = .ok (.iconst 1, 1) := by decide +kernel
theorem dL_numbers_395 : decode cL_numbers 395 = .ok (.iload 5, 2) := by decide +kernel
theorem dL_numbers_397 : decode cL_numbers 397 = .ok (.ishl, 1) := by decide +kernel
theorem dL_numbers_398 : decode cL_numbers 398 = .ok (.ior, 1) := by decide +kernel
theorem dL_numbers_399 : decode cL_numbers 399 = .ok (.iastore, 1) := by decide +kernel
theorem dL_numbers_400 : decode cL_numbers 400 = .ok (.iinc 6 1, 3) := by decide +kernel
theorem dL_numbers_403 : decode cL_numbers 403 = .ok (.goto (-60), 3) := by decide +kernel
theorem dL_numbers_406 : decode cL_numbers 406 = .ok (.iinc 5 1, 3) := by decide +kernel
theorem dL_numbers_409 : decode cL_numbers 409 = .ok (.goto (-79), 3) := by decide +kernel
theorem dL_numbers_412 : decode cL_numbers 412 = .ok (.return_, 1) := by decide +kernel
set_option maxRecDepth 20000 in
theorem ggL_jail_X10_text : GoodIn wsL_jail wsX10_text := goodIn_r _ [5, 6, 7, 8, 9, 10, 11, 12, 13, 14, 15, 16, 17, 18, 19, 20, 21, 22, 23, 24, 25, 26, 223, 224, 225, 226, 227, 228, 229, 230, 231, 232, 233, 234, 235, 236, 237, 238, 239] (by decide +kernel) (by decide +kernel)
set_option maxRecDepth 20000 in
theorem gL_jail_X10_text : GoodIn wsL_jail (wsV RL 20 RX10 yX10_text wsX10_text) := goodIn_app (goodIn_of _ (by decide +kernel)) ggL_jail_X10_text
set_option maxRecDepth 20000 in
theorem ggL_jail_L_put : GoodIn wsL_jail wsL_put := goodIn_r _ [30, 31, 32, 33, 4, 34, 6, 7, 35, 36, 37, 38, 8, 9, 10, 11, 12, 39, 40, 41, 42, 43, 44, 45, 46, 24, 26, 13, 14, 15, 16, 17, 18, 19, 47, 48, 49, 50, 51, 52, 53, 54, 25, 55, 56, 57, 58, 59, 223, 224, 225, 226, 227, 228, 229, 230, 231, 232, 238, 239, 233, 234, 235, 236, 237] (by decide +kernel) (by decide +kernel)
set_option maxRecDepth 20000 in
theorem gL_jail_L_put : GoodIn wsL_jail (va_wsS RL 24 yL_put wsL_put) := goodIn_app (goodIn_of _ (by decide +kernel)) ggL_jail_L_put
set_option maxRecDepth 20000 in
theorem ggL_jail_X10_fault : GoodIn wsL_jail wsX10_fault := goodIn_r _ [63, 64, 6, 35, 36, 37, 4, 38, 7, 8, 9, 10, 11, 12, 39, 40, 41, 42, 43, 44, 45, 46, 24, 26, 13, 14, 15, 16, 17, 18, 19, 65, 66, 67, 68, 69, 70, 71, 72, 73, 74, 52, 53, 54, 25, 55, 48, 49, 50, 75, 76, 77, 78, 79, 80, 81, 82, 83, 84, 85, 86, 87, 88, 89, 90, 91, 92, 93, 94, 95, 96, 97, 98, 99, 100, 101, 102, 103, 104, 105, 106, 107, 108, 109, 110, 111, 112, 113, 114, 115, 116, 117, 118, 119, 120, 121, 122, 123, 124, 125, 126, 127, 128, 129, 130, 131, 132, 133, 134, 135, 136, 137, 138, 139, 140, 141, 142, 143, 144, 145, 146, 147, 148, 149, 150, 151, 152, 153, 154, 155, 156, 157, 158, 159, 160, 161, 162, 163, 164, 165, 166, 167, 168, 169, 170, 171, 172, 173, 174, 175, 176, 177, 178, 179, 223, 224, 225, 226, 227, 228, 229, 230, 231, 232, 238, 239, 233, 234, 235, 236, 237, 240, 241, 242, 243, 244, 245, 246, 247, 248, 249, 250, 251, 252] (by decide +kernel) (by decide +kernel)
set_option maxRecDepth 20000 in
theorem gL_jail_X10_fault : GoodIn wsL_jail (wsV RL 27 RX10 yX10_fault wsX10_fault) := goodIn_app (goodIn_of _ (by decide +kernel)) ggL_jail_X10_fault
set_option maxRecDepth 20000 in
theorem ggL_jail_X10_jail : GoodIn wsL_jail wsX10_jail := goodIn_r _ [183, 64, 6, 184, 185, 186, 35, 36, 37, 4, 38, 7, 8, 9, 10, 11, 12, 39, 40, 41, 42, 43, 44, 45, 46, 24, 26, 13, 14, 15, 16, 17, 18, 19, 65, 66, 67, 68, 69, 70, 71, 72, 73, 74, 52, 53, 54, 25, 55, 48, 49, 50, 75, 76, 77, 78, 79, 80, 81, 82, 83, 84, 85, 86, 87, 88, 89, 90, 91, 92, 93, 94, 95, 96, 97, 98, 99, 100, 101, 102, 103, 104, 105, 106, 107, 108, 109, 110, 111, 112, 113, 114, 115, 116, 117, 118, 119, 120, 121, 122, 123, 124, 125, 126, 127, 128, 129, 130, 131, 132, 133, 134, 135, 136, 137, 138, 139, 140, 141, 142, 143, 144, 145, 146, 147, 148, 149, 150, 151, 152, 153, 154, 155, 156, 157, 158, 159, 160, 161, 162, 163, 164, 165, 166, 167, 168, 169, 170, 171, 172, 173, 174, 175, 176, 177, 178, 179, 187, 188, 189, 190, 191, 192, 193, 194, 195, 196, 197, 198, 199, 200, 201, 202, 203, 204, 205, 206, 207, 208, 209, 210, 211, 212, 213, 214, 215, 216, 217, 218, 219, 220, 221, 222, 223, 224, 225, 226, 227, 228, 229, 230, 231, 232, 238, 239, 233, 234, 235, 236, 237, 240, 241, 242, 243, 244, 245, 246, 247, 248, 249, 250, 251, 252, 253, 254, 255, 256, 257, 258, 259] (by decide +kernel) (by decide +kernel)
set_option maxRecDepth 20000 in
theorem gL_jail_X10_jail : GoodIn wsL_jail (wsV RL 31 RX10 yX10_jail wsX10_jail) := goodIn_app (goodIn_of _ (by decide +kernel)) ggL_jail_X10_jail
theorem dL_jail_0 : decode cL_jail 0 = .ok (.aload_n 0, 1) := by decide +kernel
theorem dL_jail_1 : decode cL_jail 1 = .ok (.iconst 3, 1) := by decide +kernel
theorem dL_jail_2 : decode cL_jail 2 = .ok (.bipush 100, 2) := by decide +kernel
theorem dL_jail_4 : decode cL_jail 4 = .ok (.invokevirtual 20, 3) := by decide +kernel
theorem dL_jail_7 : decode cL_jail 7 = .ok (.bipush 100, 2) := by decide +kernel
theorem dL_jail_9 : decode cL_jail 9 = .ok (.if_icmp .eq 5, 3) := by decide +kernel
theorem dL_jail_12 : decode cL_jail 12 = .ok (.iconst 0, 1) := by decide +kernel
theorem dL_jail_13 : decode cL_jail 13 = .ok (.ireturn, 1) := by decide +kernel
theorem dL_jail_14 : decode cL_jail 14 = .ok (.aload_n 0, 1) := by decide +kernel
theorem dL_jail_15 : decode cL_jail 15 = .ok (.aload_n 0, 1) := by decide +kernel
theorem dL_jail_16 : decode cL_jail 16 = .ok (.iconst 1, 1) := by decide +kernel
theorem dL_jail_17 : decode cL_jail 17 = .ok (.bipush 110, 2) := by decide +kernel
theorem dL_jail_19 : decode cL_jail 19 = .ok (.invokestatic 24, 3) := by decide +kernel
theorem dL_jail_22 : decode cL_jail 22 = .ok (.bipush 48, 2) := by decide +kernel
theorem dL_jail_24 : decode cL_jail 24 = .ok (.aload_n 1, 1) := by decide +kernel
theorem dL_jail_25 : decode cL_jail 25 = .ok (.iconst 0, 1) := by decide +kernel
theorem dL_jail_26 : decode cL_jail 26 = .ok (.iaload, 1) := by decide +kernel
theorem dL_jail_27 : decode cL_jail 27 = .ok (.iadd, 1) := by decide +kernel
theorem dL_jail_28 : decode cL_jail 28 = .ok (.invokestatic 24, 3) := by decide +kernel
theorem dL_jail_31 : decode cL_jail 31 = .ok (.istore_n 2, 1) := by decide +kernel
theorem dL_jail_32 : decode cL_jail 32 = .ok (.iconst 0, 1) := by decide +kernel
theorem dL_jail_33 : decode cL_jail 33 = .ok (.istore_n 3, 1) := by decide +kernel
theorem dL_jail_34 : decode cL_jail 34 = .ok (.iload_n 3, 1) := by decide +kernel
theorem dL_jail_35 : decode cL_jail 35 = .ok (.aload_n 1, 1) := by decide +kernel
theorem dL_jail_36 : decode cL_jail 36 = .ok (.iconst 0, 1) := by decide +kernel
theorem dL_jail_37 : decode cL_jail 37 = .ok (.iaload, 1) := by decide +kernel
theorem dL_jail_38 : decode cL_jail 38 = .ok (.if_icmp .ge 178, 3) := by decide +kernel
theorem dL_jail_41 : decode cL_jail 41 = .ok (.aload_n 1, 1) := by decide +kernel
theorem dL_jail_42 : decode cL_jail 42 = .ok (.iconst 1, 1) := by decide +kernel
theorem dL_jail_43 : decode cL_jail 43 = .ok (.iconst 4, 1) := by decide +kernel
theorem dL_jail_44 : decode cL_jail 44 = .ok (.iload_n 3, 1) := by decide +kernel
theorem dL_jail_45 : decode cL_jail 45 = .ok (.imul, 1) := by decide +kernel
theorem dL_jail_46 : decode cL_jail 46 = .ok (.iadd, 1) := by decide +kernel
theorem dL_jail_47 : decode cL_jail 47 = .ok (.iaload, 1) := by decide +kernel
theorem dL_jail_48 : decode cL_jail 48 = .ok (.istore 4, 2) := by decide +kernel
theorem dL_jail_50 : decode cL_jail 50 = .ok (.aload_n 0, 1) := by decide +kernel
theorem dL_jail_51 : decode cL_jail 51 = .ok (.iload_n 2, 1) := by decide +kernel
theorem dL_jail_52 : decode cL_jail 52 = .ok (.iload 4, 2) := by decide +kernel
theorem dL_jail_54 : decode cL_jail 54 = .ok (.ifCond .ne 8, 3) := by decide +kernel
theorem dL_jail_57 : decode cL_jail 57 = .ok (.bipush 107, 2) := by decide +kernel
theorem dL_jail_59 : decode cL_jail 59 = .ok (.goto 49, 3) := by decide +kernel
theorem dL_jail_62 : decode cL_jail 62 = .ok (.iload 4, 2) := by decide +kernel
theorem dL_jail_64 : decode cL_jail 64 = .ok (.iconst 1, 1) := by decide +kernel
theorem dL_jail_65 : decode cL_jail 65 = .ok (.if_icmp .ne 8, 3) := by decide +kernel
theorem dL_jail_68 : decode cL_jail 68 = .ok (.bipush 116, 2) := by decide +kernel
theorem dL_jail_70 : decode cL_jail 70 = .ok (.goto 38, 3) := by decide +kernel
theorem dL_jail_73 : decode cL_jail 73 = .ok (.iload 4, 2) := by decide +kernel
theorem dL_jail_75 : decode cL_jail 75 = .ok (.iconst 2, 1) := by decide +kernel
theorem dL_jail_76 : decode cL_jail 76 = .ok (.if_icmp .ne 8, 3) := by decide +kernel
theorem dL_jail_79 : decode cL_jail 79 = .ok (.bipush 105, 2) := by decide +kernel
theorem dL_jail_81 : decode cL_jail 81 = .ok (.goto 27, 3) := by decide +kernel
theorem dL_jail_84 : decode cL_jail 84 = .ok (.iload 4, 2) := by decide +kernel
theorem dL_jail_86 : decode cL_jail 86 = .ok (.iconst 3, 1) := by decide +kernel
theorem dL_jail_87 : decode cL_jail 87 = .ok (.if_icmp .ne 8, 3) := by decide +kernel
theorem dL_jail_90 : decode cL_jail 90 = .ok (.bipush 108, 2) := by decide +kernel
theorem dL_jail_92 : decode cL_jail 92 = .ok (.goto 16, 3) := by decide +kernel
theorem dL_jail_95 : decode cL_jail 95 = .ok (.iload 4, 2) := by decide +kernel
theorem dL_jail_97 : decode cL_jail 97 = .ok (.iconst 4, 1) := by decide +kernel
theorem dL_jail_98 : decode cL_jail 98 = .ok (.if_icmp .ne 8, 3) := by decide +kernel
theorem dL_jail_101 : decode cL_jail 101 = .ok (.bipush 115, 2) := by decide +kernel
theorem dL_jail_103 : decode cL_jail 103 = .ok (.goto 5, 3) := by decide +kernel
theorem dL_jail_106 : decode cL_jail 106 = .ok (.bipush 98, 2) := by decide +kernel
theorem dL_jail_108 : decode cL_jail 108 = .ok (.invokestatic 24, 3) := by decide +kernel
theorem dL_jail_111 : decode cL_jail 111 = .ok (.istore_n 2, 1) := by decide +kernel
theorem dL_jail_112 : decode cL_jail 112 = .ok (.aload_n 0, 1) := by decide +kernel
theorem dL_jail_113 : decode cL_jail 113 = .ok (.iload_n 2, 1) := by decide +kernel
theorem dL_jail_114 : decode cL_jail 114 = .ok (.bipush 65, 2) := by decide +kernel
theorem dL_jail_116 : decode cL_jail 116 = .ok (.iload_n 3, 1) := by decide +kernel
theorem dL_jail_117 : decode cL_jail 117 = .ok (.iadd, 1) := by decide +kernel
theorem dL_jail_118 : decode cL_jail 118 = .ok (.invokestatic 24, 3) := by decide +kernel
theorem dL_jail_121 : decode cL_jail 121 = .ok (.istore_n 2, 1) := by decide +kernel
theorem dL_jail_122 : decode cL_jail 122 = .ok (.iload 4, 2) := by decide +kernel
theorem dL_jail_124 : decode cL_jail 124 = .ok (.iconst 2, 1) := by decide +kernel
theorem dL_jail_125 : decode cL_jail 125 = .ok (.if_icmp .ne 7, 3) := by decide +kernel
theorem dL_jail_128 : decode cL_jail 128 = .ok (.iload_n 2, 1) := by decide +kernel
theorem dL_jail_129 : decode cL_jail 129 = .ok (.goto 18, 3) := by decide +kernel
theorem dL_jail_132 : decode cL_jail 132 = .ok (.aload_n 0, 1) := by decide +kernel
theorem dL_jail_133 : decode cL_jail 133 = .ok (.iload_n 2, 1) := by decide +kernel
theorem dL_jail_134 : decode cL_jail 134 = .ok (.bipush 65, 2) := by decide +kernel
theorem dL_jail_136 : decode cL_jail 136 = .ok (.aload_n 1, 1) := by decide +kernel
theorem dL_jail_137 : decode cL_jail 137 = .ok (.iconst 2, 1) := by decide +kernel
theorem dL_jail_138 : decode cL_jail 138 = .ok (.iconst 4, 1) := by decide +kernel
theorem dL_jail_139 : decode cL_jail 139 = .ok (.iload_n 3, 1) := by decide +kernel
theorem dL_jail_140 : decode cL_jail 140 = .ok (.imul, 1) := by decide +kernel
theorem dL_jail_141 : decode cL_jail 141 = .ok (.iadd, 1) := by decide +kernel
theorem dL_jail_142 : decode cL_jail 142 = .ok (.iaload, 1) := by decide +kernel
theorem dL_jail_143 : decode cL_jail 143 = .ok (.iadd, 1) := by decide +kernel
theorem dL_jail_144 : decode cL_jail 144 = .ok (.invokestatic 24, 3) := by decide +kernel
theorem dL_jail_147 : decode cL_jail 147 = .ok (.istore_n 2, 1) := by decide +kernel
theorem dL_jail_148 : decode cL_jail 148 = .ok (.iload 4, 2) := by decide +kernel
theorem dL_jail_150 : decode cL_jail 150 = .ok (.iconst 1, 1) := by decide +kernel
theorem dL_jail_151 : decode cL_jail 151 = .ok (.if_icmp .eq 9, 3) := by decide +kernel
theorem dL_jail_154 : decode cL_jail 154 = .ok (.iload 4, 2) := by decide +kernel
theorem dL_jail_156 : decode cL_jail 156 = .ok (.iconst 5, 1) := by decide +kernel
theorem dL_jail_157 : decode cL_jail 157 = .ok (.if_icmp .ne 21, 3) := by decide +kernel
theorem dL_jail_160 : decode cL_jail 160 = .ok (.aload_n 0, 1) := by decide +kernel
theorem dL_jail_161 : decode cL_jail 161 = .ok (.iload_n 2, 1) := by decide +kernel
theorem dL_jail_162 : decode cL_jail 162 = .ok (.bipush 65, 2) := by decide +kernel
theorem dL_jail_164 : decode cL_jail 164 = .ok (.aload_n 1, 1) := by decide +kernel
theorem dL_jail_165 : decode cL_jail 165 = .ok (.iconst 3, 1) := by decide +kernel
theorem dL_jail_166 : decode cL_jail 166 = .ok (.iconst 4, 1) := by decide +kernel
theorem dL_jail_167 : decode cL_jail 167 = .ok (.iload_n 3, 1) := by decide +kernel
theorem dL_jail_168 : decode cL_jail 168 = .ok (.imul, 1) := by decide +kernel
theorem dL_jail_169 : decode cL_jail 169 = .ok (.iadd, 1) := by decide +kernel
theorem dL_jail_170 : decode cL_jail 170 = .ok (.iaload, 1) := by decide +kernel
theorem dL_jail_171 : decode cL_jail 171 = .ok (.iadd, 1) := by decide +kernel
theorem dL_jail_172 : decode cL_jail 172 = .ok (.invokestatic 24, 3) := by decide +kernel
theorem dL_jail_175 : decode cL_jail 175 = .ok (.goto 34, 3) := by decide +kernel
theorem dL_jail_178 : decode cL_jail 178 = .ok (.iload 4, 2) := by decide +kernel
theorem dL_jail_180 : decode cL_jail 180 = .ok (.iconst 3, 1) := by decide +kernel
theorem dL_jail_181 : decode cL_jail 181 = .ok (.if_icmp .eq 9, 3) := by decide +kernel
theorem dL_jail_184 : decode cL_jail 184 = .ok (.iload 4, 2) := by decide +kernel
theorem dL_jail_186 : decode cL_jail 186 = .ok (.iconst 4, 1) := by decide +kernel
theorem dL_jail_187 : decode cL_jail 187 = .ok (.if_icmp .ne 21, 3) := by decide +kernel
theorem dL_jail_190 : decode cL_jail 190 = .ok (.aload_n 0, 1) := by decide +kernel
theorem dL_jail_191 : decode cL_jail 191 = .ok (.iload_n 2, 1) := by decide +kernel
theorem dL_jail_192 : decode cL_jail 192 = .ok (.bipush 48, 2) := by decide +kernel
theorem dL_jail_194 : decode cL_jail 194 = .ok (.aload_n 1, 1) := by decide +kernel
theorem dL_jail_195 : decode cL_jail 195 = .ok (.iconst 4, 1) := by decide +kernel
theorem dL_jail_196 : decode cL_jail 196 = .ok (.iconst 4, 1) := by decide +kernel
theorem dL_jail_197 : decode cL_jail 197 = .ok (.iload_n 3, 1) := by decide +kernel
theorem dL_jail_198 : decode cL_jail 198 = .ok (.imul, 1) := by decide +kernel
theorem dL_jail_199 : decode cL_jail 199 = .ok (.iadd, 1) := by decide +kernel
theorem dL_jail_200 : decode cL_jail 200 = .ok (.iaload, 1) := by decide +kernel
theorem dL_jail_201 : decode cL_jail 201 = .ok (.iadd, 1) := by decide +kernel
theorem dL_jail_202 : decode cL_jail 202 = .ok (.invokestatic 24, 3) := by decide +kernel
theorem dL_jail_205 : decode cL_jail 205 = .ok (.goto 4, 3) := by decide +kernel
theorem dL_jail_208 : decode cL_jail 208 = .ok (.iload_n 2, 1) := by decide +kernel
theorem dL_jail_209 : decode cL_jail 209 = .ok (.istore_n 2, 1) := by decide +kernel
theorem dL_jail_210 : decode cL_jail 210 = .ok (.iinc 3 1, 3) := by decide +kernel
theorem dL_jail_213 : decode cL_jail 213 = .ok (.goto (-179), 3) := by decide +kernel
theorem dL_jail_216 : decode cL_jail 216 = .ok (.iconst 0, 1) := by decide +kernel
theorem dL_jail_217 : decode cL_jail 217 = .ok (.istore_n 3, 1) := by decide +kernel
theorem dL_jail_218 : decode cL_jail 218 = .ok (.iload_n 3, 1) := by decide +kernel
theorem dL_jail_219 : decode cL_jail 219 = .ok (.aload_n 1, 1) := by decide +kernel
theorem dL_jail_220 : decode cL_jail 220 = .ok (.iconst 0, 1) := by decide +kernel
theorem dL_jail_221 : decode cL_jail 221 = .ok (.iaload, 1) := by decide +kernel
theorem dL_jail_222 : decode cL_jail 222 = .ok (.if_icmp .ge 71, 3) := by decide +kernel
theorem dL_jail_225 : decode cL_jail 225 = .ok (.iload_n 3, 1) := by decide +kernel
theorem dL_jail_226 : decode cL_jail 226 = .ok (.iconst 1, 1) := by decide +kernel
theorem dL_jail_227 : decode cL_jail 227 = .ok (.iadd, 1) := by decide +kernel
theorem dL_jail_228 : decode cL_jail 228 = .ok (.istore 4, 2) := by decide +kernel
theorem dL_jail_230 : decode cL_jail 230 = .ok (.iload 4, 2) := by decide +kernel
theorem dL_jail_232 : decode cL_jail 232 = .ok (.aload_n 1, 1) := by decide +kernel
theorem dL_jail_233 : decode cL_jail 233 = .ok (.iconst 0, 1) := by decide +kernel
theorem dL_jail_234 : decode cL_jail 234 = .ok (.iaload, 1) := by decide +kernel
theorem dL_jail_235 : decode cL_jail 235 = .ok (.if_icmp .ge 52, 3) := by decide +kernel
theorem dL_jail_238 : decode cL_jail 238 = .ok (.aload_n 1, 1) := by decide +kernel
theorem dL_jail_239 : decode cL_jail 239 = .ok (.bipush 33, 2) := by decide +kernel
theorem dL_jail_241 : decode cL_jail 241 = .ok (.iload_n 3, 1) := by decide +kernel
theorem dL_jail_242 : decode cL_jail 242 = .ok (.iadd, 1) := by decide +kernel
theorem dL_jail_243 : decode cL_jail 243 = .ok (.iaload, 1) := by decide +kernel
theorem dL_jail_244 : decode cL_jail 244 = .ok (.iload 4, 2) := by decide +kernel
theorem dL_jail_246 : decode cL_jail 246 = .ok (.ishr, 1) := by decide +kernel
theorem dL_jail_247 : decode cL_jail 247 = .ok (.iconst 1, 1) := by decide +kernel
theorem dL_jail_248 : decode cL_jail 248 = .ok (.iand, 1) := by decide +kernel
theorem dL_jail_249 : decode cL_jail 249 = .ok (.ifCond .ne 7, 3) := by decide +kernel
theorem dL_jail_252 : decode cL_jail 252 = .ok (.iload_n 2, 1) := by decide +kernel
theorem dL_jail_253 : decode cL_jail 253 = .ok (.goto 27, 3) := by decide +kernel
theorem dL_jail_256 : decode cL_jail 256 = .ok (.aload_n 0, 1) := by decide +kernel
theorem dL_jail_257 : decode cL_jail 257 = .ok (.aload_n 0, 1) := by decide +kernel
theorem dL_jail_258 : decode cL_jail 258 = .ok (.aload_n 0, 1) := by decide +kernel
theorem dL_jail_259 : decode cL_jail 259 = .ok (.iload_n 2, 1) := by decide +kernel
theorem dL_jail_260 : decode cL_jail 260 = .ok (.bipush 113, 2) := by decide +kernel
theorem dL_jail_262 : decode cL_jail 262 = .ok (.invokestatic 24, 3) := by decide +kernel
theorem dL_jail_265 : decode cL_jail 265 = .ok (.bipush 65, 2) := by decide +kernel
theorem dL_jail_267 : decode cL_jail 267 = .ok (.iload 4, 2) := by decide +kernel
theorem dL_jail_269 : decode cL_jail 269 = .ok (.iadd, 1) := by decide +kernel
theorem dL_jail_270 : decode cL_jail 270 = .ok (.invokestatic 24, 3) := by decide +kernel
theorem dL_jail_273 : decode cL_jail 273 = .ok (.bipush 65, 2) := by decide +kernel
theorem dL_jail_275 : decode cL_jail 275 = .ok (.iload_n 3, 1) := by decide +kernel
theorem dL_jail_276 : decode cL_jail 276 = .ok (.iadd, 1) := by decide +kernel
theorem dL_jail_277 : decode cL_jail 277 = .ok (.invokestatic 24, 3) := by decide +kernel
theorem dL_jail_280 : decode cL_jail 280 = .ok (.istore_n 2, 1) := by decide +kernel
theorem dL_jail_281 : decode cL_jail 281 = .ok (.iinc 4 1, 3) := by decide +kernel
theorem dL_jail_284 : decode cL_jail 284 = .ok (.goto (-54), 3) := by decide +kernel
theorem dL_jail_287 : decode cL_jail 287 = .ok (.iinc 3 1, 3) := by decide +kernel
theorem dL_jail_290 : decode cL_jail 290 = .ok (.goto (-72), 3) := by decide +kernel
theorem dL_jail_293 : decode cL_jail 293 = .ok (.iload_n 2, 1) := by decide +kernel
theorem dL_jail_294 : decode cL_jail 294 = .ok (.ifCond .le 28, 3) := by decide +kernel
theorem dL_jail_297 : decode cL_jail 297 = .ok (.aload_n 0, 1) := by decide +kernel
theorem dL_jail_298 : decode cL_jail 298 = .ok (.iconst 3, 1) := by decide +kernel
theorem dL_jail_299 : decode cL_jail 299 = .ok (.invokevirtual 27, 3) := by decide +kernel
theorem dL_jail_302 : decode cL_jail 302 = .ok (.bipush (-9), 2) := by decide +kernel
theorem dL_jail_304 : decode cL_jail 304 = .ok (.if_icmp .ne 18, 3) := by decide +kernel
theorem dL_jail_307 : decode cL_jail 307 = .ok (.aload_n 0, 1) := by decide +kernel
theorem dL_jail_308 : decode cL_jail 308 = .ok (.iconst 3, 1) := by decide +kernel
theorem dL_jail_309 : decode cL_jail 309 = .ok (.invokevirtual 31, 3) := by decide +kernel
theorem dL_jail_312 : decode cL_jail 312 = .ok (.aload_n 1, 1) := by decide +kernel
theorem dL_jail_313 : decode cL_jail 313 = .ok (.iconst 0, 1) := by decide +kernel
theorem dL_jail_314 : decode cL_jail 314 = .ok (.iaload, 1) := by decide +kernel
theorem dL_jail_315 : decode cL_jail 315 = .ok (.if_icmp .ne 7, 3) := by decide +kernel
theorem dL_jail_318 : decode cL_jail 318 = .ok (.iconst 1, 1) := by decide +kernel
theorem dL_jail_319 : decode cL_jail 319 = .ok (.goto 4, 3) := by decide +kernel
theorem dL_jail_322 : decode cL_jail 322 = .ok (.iconst 0, 1) := by decide +kernel
theorem dL_jail_323 : decode cL_jail 323 = .ok (.ireturn, 1) := by decide +kernel
theorem dL_in_0 : decode cL_in 0 = .ok (.iload_n 0, 1) := by decide +kernel
theorem dL_in_1 : decode cL_in 1 = .ok (.iload_n 1, 1) := by decide +kernel
theorem dL_in_2 : decode cL_in 2 = .ok (.ishr, 1) := by decide +kernel
theorem dL_in_3 : decode cL_in 3 = .ok (.iconst 1, 1) := by decide +kernel
theorem dL_in_4 : decode cL_in 4 = .ok (.iand, 1) := by decide +kernel
theorem dL_in_5 : decode cL_in 5 = .ok (.iconst 1, 1) := by decide +kernel
theorem dL_in_6 : decode cL_in 6 = .ok (.if_icmp .ne 7, 3) := by decide +kernel
theorem dL_in_9 : decode cL_in 9 = .ok (.iconst 1, 1) := by decide +kernel
theorem dL_in_10 : decode cL_in 10 = .ok (.goto 4, 3) := by decide +kernel
theorem dL_in_13 : decode cL_in 13 = .ok (.iconst 0, 1) := by decide +kernel
theorem dL_in_14 : decode cL_in 14 = .ok (.ireturn, 1) := by decide +kernel
theorem dL_bits_0 : decode cL_bits 0 = .ok (.iconst 0, 1) := by decide +kernel
theorem dL_bits_1 : decode cL_bits 1 = .ok (.istore_n 1, 1) := by decide +kernel
theorem dL_bits_2 : decode cL_bits 2 = .ok (.iconst 0, 1) := by decide +kernel
theorem dL_bits_3 : decode cL_bits 3 = .ok (.istore_n 2, 1) := by decide +kernel
theorem dL_bits_4 : decode cL_bits 4 = .ok (.iload_n 2, 1) := by decide +kernel
theorem dL_bits_5 : decode cL_bits 5 = .ok (.bipush 8, 2) := by decide +kernel
theorem dL_bits_7 : decode cL_bits 7 = .ok (.if_icmp .ge 17, 3) := by decide +kernel
theorem dL_bits_10 : decode cL_bits 10 = .ok (.iload_n 1, 1) := by decide +kernel
theorem dL_bits_11 : decode cL_bits 11 = .ok (.iload_n 0, 1) := by decide +kernel
theorem dL_bits_12 : decode cL_bits 12 = .ok (.iload_n 2, 1) := by decide +kernel
theorem dL_bits_13 : decode cL_bits 13 = .ok (.ishr, 1) := by decide +kernel
theorem dL_bits_14 : decode cL_bits 14 = .ok (.iconst 1, 1) := by decide +kernel
theorem dL_bits_15 : decode cL_bits 15 = .ok (.iand, 1) := by decide +kernel
theorem dL_bits_16 : decode cL_bits 16 = .ok (.iadd, 1) := by decide +kernel
theorem dL_bits_17 : decode cL_bits 17 = .ok (.istore_n 1, 1) := by decide +kernel
theorem dL_bits_18 : decode cL_bits 18 = .ok (.iinc 2 1, 3) := by decide +kernel
theorem dL_bits_21 : decode cL_bits 21 = .ok (.goto (-17), 3) := by decide +kernel
theorem dL_bits_24 : decode cL_bits 24 = .ok (.iload_n 1, 1) := by decide +kernel
theorem dL_bits_25 : decode cL_bits 25 = .ok (.ireturn, 1) := by decide +kernel
set_option maxRecDepth 20000 in
theorem ggL_tells_X10_asked : GoodIn wsL_tells wsX10_asked := goodIn_r _ [5, 6, 7, 8, 9, 10, 11, 12, 13, 14, 15, 16, 17, 18, 19, 20, 21, 22, 23, 24, 25, 26, 27] (by decide +kernel) (by decide +kernel)
set_option maxRecDepth 20000 in
theorem gL_tells_X10_asked : GoodIn wsL_tells (wsV RL 49 RX10 yX10_asked wsX10_asked) := goodIn_app (goodIn_of _ (by decide +kernel)) ggL_tells_X10_asked
theorem dL_tells_0 : decode cL_tells 0 = .ok (.iload_n 1, 1) := by decide +kernel
theorem dL_tells_1 : decode cL_tells 1 = .ok (.iconst 1, 1) := by decide +kernel
theorem dL_tells_2 : decode cL_tells 2 = .ok (.if_icmp .ne 10, 3) := by decide +kernel
theorem dL_tells_5 : decode cL_tells 5 = .ok (.aload_n 0, 1) := by decide +kernel
theorem dL_tells_6 : decode cL_tells 6 = .ok (.invokevirtual 49, 3) := by decide +kernel
theorem dL_tells_9 : decode cL_tells 9 = .ok (.goto 6, 3) := by decide +kernel
theorem dL_tells_12 : decode cL_tells 12 = .ok (.sipush (-7777), 3) := by decide +kernel
theorem dL_tells_15 : decode cL_tells 15 = .ok (.ireturn, 1) := by decide +kernel
theorem dL_law_0 : decode cL_law 0 = .ok (.new 9, 3) := by decide +kernel
theorem dL_law_3 : decode cL_law 3 = .ok (.dup, 1) := by decide +kernel
theorem dL_law_4 : decode cL_law 4 = .ok (.invokespecial 53, 3) := by decide +kernel
theorem dL_law_7 : decode cL_law 7 = .ok (.astore_n 1, 1) := by decide +kernel
theorem dL_law_8 : decode cL_law 8 = .ok (.bipush 48, 2) := by decide +kernel
theorem dL_law_10 : decode cL_law 10 = .ok (.newarray .int, 2) := by decide +kernel
theorem dL_law_12 : decode cL_law 12 = .ok (.astore_n 2, 1) := by decide +kernel
theorem dL_law_13 : decode cL_law 13 = .ok (.aload_n 0, 1) := by decide +kernel
theorem dL_law_14 : decode cL_law 14 = .ok (.bipush 10, 2) := by decide +kernel
theorem dL_law_16 : decode cL_law 16 = .ok (.bipush 6, 2) := by decide +kernel
theorem dL_law_18 : decode cL_law 18 = .ok (.aload_n 2, 1) := by decide +kernel
theorem dL_law_19 : decode cL_law 19 = .ok (.invokestatic 54, 3) := by decide +kernel
theorem dL_law_22 : decode cL_law 22 = .ok (.aload_n 1, 1) := by decide +kernel
theorem dL_law_23 : decode cL_law 23 = .ok (.aload_n 2, 1) := by decide +kernel
theorem dL_law_24 : decode cL_law 24 = .ok (.invokestatic 58, 3) := by decide +kernel
theorem dL_law_27 : decode cL_law 27 = .ok (.ifCond .ne 5, 3) := by decide +kernel
theorem dL_law_30 : decode cL_law 30 = .ok (.iconst 0, 1) := by decide +kernel
theorem dL_law_31 : decode cL_law 31 = .ok (.ireturn, 1) := by decide +kernel
theorem dL_law_32 : decode cL_law 32 = .ok (.aload_n 2, 1) := by decide +kernel
theorem dL_law_33 : decode cL_law 33 = .ok (.iconst 0, 1) := by decide +kernel
theorem dL_law_34 : decode cL_law 34 = .ok (.iaload, 1) := by decide +kernel
theorem dL_law_35 : decode cL_law 35 = .ok (.istore_n 3, 1) := by decide +kernel
theorem dL_law_36 : decode cL_law 36 = .ok (.iconst 1, 1) := by decide +kernel
theorem dL_law_37 : decode cL_law 37 = .ok (.iload_n 3, 1) := by decide +kernel
theorem dL_law_38 : decode cL_law 38 = .ok (.ishl, 1) := by decide +kernel
theorem dL_law_39 : decode cL_law 39 = .ok (.iconst 1, 1) := by decide +kernel
theorem dL_law_40 : decode cL_law 40 = .ok (.isub, 1) := by decide +kernel
theorem dL_law_41 : decode cL_law 41 = .ok (.istore 4, 2) := by decide +kernel
theorem dL_law_43 : decode cL_law 43 = .ok (.bipush 64, 2) := by decide +kernel
theorem dL_law_45 : decode cL_law 45 = .ok (.newarray .int, 2) := by decide +kernel
theorem dL_law_47 : decode cL_law 47 = .ok (.astore 5, 2) := by decide +kernel
theorem dL_law_49 : decode cL_law 49 = .ok (.aload_n 1, 1) := by decide +kernel
theorem dL_law_50 : decode cL_law 50 = .ok (.invokevirtual 61, 3) := by decide +kernel
theorem dL_law_53 : decode cL_law 53 = .ok (.istore 6, 2) := by decide +kernel
theorem dL_law_55 : decode cL_law 55 = .ok (.aload_n 1, 1) := by decide +kernel
theorem dL_law_56 : decode cL_law 56 = .ok (.invokevirtual 49, 3) := by decide +kernel
theorem dL_law_59 : decode cL_law 59 = .ok (.istore 7, 2) := by decide +kernel
theorem dL_law_61 : decode cL_law 61 = .ok (.aload_n 1, 1) := by decide +kernel
theorem dL_law_62 : decode cL_law 62 = .ok (.invokevirtual 64, 3) := by decide +kernel
theorem dL_law_65 : decode cL_law 65 = .ok (.istore 8, 2) := by decide +kernel
theorem dL_law_67 : decode cL_law 67 = .ok (.aload_n 1, 1) := by decide +kernel
theorem dL_law_68 : decode cL_law 68 = .ok (.invokevirtual 49, 3) := by decide +kernel
theorem dL_law_71 : decode cL_law 71 = .ok (.iload 8, 2) := by decide +kernel
theorem dL_law_73 : decode cL_law 73 = .ok (.ior, 1) := by decide +kernel
theorem dL_law_74 : decode cL_law 74 = .ok (.iload 4, 2) := by decide +kernel
theorem dL_law_76 : decode cL_law 76 = .ok (.if_icmp .ne 13, 3) := by decide +kernel
theorem dL_law_79 : decode cL_law 79 = .ok (.aload_n 1, 1) := by decide +kernel
theorem dL_law_80 : decode cL_law 80 = .ok (.invokevirtual 49, 3) := by decide +kernel
theorem dL_law_83 : decode cL_law 83 = .ok (.iload 8, 2) := by decide +kernel
theorem dL_law_85 : decode cL_law 85 = .ok (.iand, 1) := by decide +kernel
theorem dL_law_86 : decode cL_law 86 = .ok (.ifCond .eq 5, 3) := by decide +kernel
theorem dL_law_89 : decode cL_law 89 = .ok (.iconst 0, 1) := by decide +kernel
theorem dL_law_90 : decode cL_law 90 = .ok (.ireturn, 1) := by decide +kernel
theorem dL_law_91 : decode cL_law 91 = .ok (.iconst 0, 1) := by decide +kernel
theorem dL_law_92 : decode cL_law 92 = .ok (.istore 9, 2) := by decide +kernel
theorem dL_law_94 : decode cL_law 94 = .ok (.iconst 0, 1) := by decide +kernel
theorem dL_law_95 : decode cL_law 95 = .ok (.istore 10, 2) := by decide +kernel
theorem dL_law_97 : decode cL_law 97 = .ok (.iload 10, 2) := by decide +kernel
theorem dL_law_99 : decode cL_law 99 = .ok (.iload 4, 2) := by decide +kernel
theorem dL_law_101 : decode cL_law 101 = .ok (.if_icmp .gt 401, 3) := by decide +kernel
theorem dL_law_104 : decode cL_law 104 = .ok (.aload 5, 2) := by decide +kernel
theorem dL_law_106 : decode cL_law 106 = .ok (.iload 10, 2) := by decide +kernel
theorem dL_law_108 : decode cL_law 108 = .ok (.aload_n 1, 1) := by decide +kernel
theorem dL_law_109 : decode cL_law 109 = .ok (.iload 10, 2) := by decide +kernel
theorem dL_law_111 : decode cL_law 111 = .ok (.invokevirtual 67, 3) := by decide +kernel
theorem dL_law_114 : decode cL_law 114 = .ok (.iastore, 1) := by decide +kernel
theorem dL_law_115 : decode cL_law 115 = .ok (.iload 9, 2) := by decide +kernel
theorem dL_law_117 : decode cL_law 117 = .ok (.aload 5, 2) := by decide +kernel
theorem dL_law_119 : decode cL_law 119 = .ok (.iload 10, 2) := by decide +kernel
theorem dL_law_121 : decode cL_law 121 = .ok (.iaload, 1) := by decide +kernel
theorem dL_law_122 : decode cL_law 122 = .ok (.ifCond .le 7, 3) := by decide +kernel
theorem dL_law_125 : decode cL_law 125 = .ok (.iconst 1, 1) := by decide +kernel
theorem dL_law_126 : decode cL_law 126 = .ok (.goto 4, 3) := by decide +kernel
theorem dL_law_129 : decode cL_law 129 = .ok (.iconst 0, 1) := by decide +kernel
theorem dL_law_130 : decode cL_law 130 = .ok (.iadd, 1) := by decide +kernel
theorem dL_law_131 : decode cL_law 131 = .ok (.istore 9, 2) := by decide +kernel
theorem dL_law_133 : decode cL_law 133 = .ok (.aload_n 1, 1) := by decide +kernel
theorem dL_law_134 : decode cL_law 134 = .ok (.iload 10, 2) := by decide +kernel
theorem dL_law_136 : decode cL_law 136 = .ok (.iconst 1, 1) := by decide +kernel
theorem dL_law_137 : decode cL_law 137 = .ok (.invokevirtual 70, 3) := by decide +kernel
theorem dL_law_140 : decode cL_law 140 = .ok (.istore 11, 2) := by decide +kernel
theorem dL_law_142 : decode cL_law 142 = .ok (.aload_n 1, 1) := by decide +kernel
theorem dL_law_143 : decode cL_law 143 = .ok (.iload 10, 2) := by decide +kernel
theorem dL_law_145 : decode cL_law 145 = .ok (.invokevirtual 73, 3) := by decide +kernel
theorem dL_law_148 : decode cL_law 148 = .ok (.istore 12, 2) := by decide +kernel
theorem dL_law_150 : decode cL_law 150 = .ok (.aload_n 1, 1) := by decide +kernel
theorem dL_law_151 : decode cL_law 151 = .ok (.invokevirtual 49, 3) := by decide +kernel
theorem dL_law_154 : decode cL_law 154 = .ok (.istore 13, 2) := by decide +kernel
theorem dL_law_156 : decode cL_law 156 = .ok (.iconst 0, 1) := by decide +kernel
theorem dL_law_157 : decode cL_law 157 = .ok (.istore 14, 2) := by decide +kernel
theorem dL_law_159 : decode cL_law 159 = .ok (.iconst 0, 1) := by decide +kernel
theorem dL_law_160 : decode cL_law 160 = .ok (.istore 15, 2) := by decide +kernel
theorem dL_law_162 : decode cL_law 162 = .ok (.iload 15, 2) := by decide +kernel
theorem dL_law_164 : decode cL_law 164 = .ok (.iload_n 3, 1) := by decide +kernel
theorem dL_law_165 : decode cL_law 165 = .ok (.if_icmp .ge 44, 3) := by decide +kernel
theorem dL_law_168 : decode cL_law 168 = .ok (.iload 14, 2) := by decide +kernel
theorem dL_law_170 : decode cL_law 170 = .ok (.iload 10, 2) := by decide +kernel
theorem dL_law_172 : decode cL_law 172 = .ok (.iload 15, 2) := by decide +kernel
theorem dL_law_174 : decode cL_law 174 = .ok (.invokestatic 34, 3) := by decide +kernel
theorem dL_law_177 : decode cL_law 177 = .ok (.ifCond .eq 22, 3) := by decide +kernel
theorem dL_law_180 : decode cL_law 180 = .ok (.aload 5, 2) := by decide +kernel
theorem dL_law_182 : decode cL_law 182 = .ok (.iload 10, 2) := by decide +kernel
theorem dL_law_184 : decode cL_law 184 = .ok (.iconst 1, 1) := by decide +kernel
theorem dL_law_185 : decode cL_law 185 = .ok (.iload 15, 2) := by decide +kernel
theorem dL_law_187 : decode cL_law 187 = .ok (.ishl, 1) := by decide +kernel
theorem dL_law_188 : decode cL_law 188 = .ok (.iconst (-1), 1) := by decide +kernel
theorem dL_law_189 : decode cL_law 189 = .ok (.ixor, 1) := by decide +kernel
theorem dL_law_190 : decode cL_law 190 = .ok (.iand, 1) := by decide +kernel
theorem dL_law_191 : decode cL_law 191 = .ok (.iaload, 1) := by decide +kernel
theorem dL_law_192 : decode cL_law 192 = .ok (.ifCond .le 7, 3) := by decide +kernel
theorem dL_law_195 : decode cL_law 195 = .ok (.iconst 1, 1) := by decide +kernel
theorem dL_law_196 : decode cL_law 196 = .ok (.goto 4, 3) := by decide +kernel
theorem dL_law_199 : decode cL_law 199 = .ok (.iconst 0, 1) := by decide +kernel
theorem dL_law_200 : decode cL_law 200 = .ok (.iadd, 1) := by decide +kernel
theorem dL_law_201 : decode cL_law 201 = .ok (.istore 14, 2) := by decide +kernel
theorem dL_law_203 : decode cL_law 203 = .ok (.iinc 15 1, 3) := by decide +kernel
theorem dL_law_206 : decode cL_law 206 = .ok (.goto (-44), 3) := by decide +kernel
theorem dL_law_209 : decode cL_law 209 = .ok (.iload 11, 2) := by decide +kernel
theorem dL_law_211 : decode cL_law 211 = .ok (.ifCond .ge 7, 3) := by decide +kernel
theorem dL_law_214 : decode cL_law 214 = .ok (.iconst 1, 1) := by decide +kernel
theorem dL_law_215 : decode cL_law 215 = .ok (.goto 4, 3) := by decide +kernel
theorem dL_law_218 : decode cL_law 218 = .ok (.iconst 0, 1) := by decide +kernel
theorem dL_law_219 : decode cL_law 219 = .ok (.aload 5, 2) := by decide +kernel
theorem dL_law_221 : decode cL_law 221 = .ok (.iload 10, 2) := by decide +kernel
theorem dL_law_223 : decode cL_law 223 = .ok (.iaload, 1) := by decide +kernel
theorem dL_law_224 : decode cL_law 224 = .ok (.ifCond .ne 7, 3) := by decide +kernel
theorem dL_law_227 : decode cL_law 227 = .ok (.iconst 1, 1) := by decide +kernel
theorem dL_law_228 : decode cL_law 228 = .ok (.goto 4, 3) := by decide +kernel
theorem dL_law_231 : decode cL_law 231 = .ok (.iconst 0, 1) := by decide +kernel
theorem dL_law_232 : decode cL_law 232 = .ok (.if_icmp .ne 60, 3) := by decide +kernel
theorem dL_law_235 : decode cL_law 235 = .ok (.iload 11, 2) := by decide +kernel
theorem dL_law_237 : decode cL_law 237 = .ok (.ifCond .lt 57, 3) := by decide +kernel
theorem dL_law_240 : decode cL_law 240 = .ok (.iload 12, 2) := by decide +kernel
theorem dL_law_242 : decode cL_law 242 = .ok (.iload 11, 2) := by decide +kernel
theorem dL_law_244 : decode cL_law 244 = .ok (.if_icmp .gt 48, 3) := by decide +kernel
theorem dL_law_247 : decode cL_law 247 = .ok (.iload 12, 2) := by decide +kernel
theorem dL_law_249 : decode cL_law 249 = .ok (.ifCond .lt 43, 3) := by decide +kernel
theorem dL_law_252 : decode cL_law 252 = .ok (.iload 13, 2) := by decide +kernel
theorem dL_law_254 : decode cL_law 254 = .ok (.iload 10, 2) := by decide +kernel
theorem dL_law_256 : decode cL_law 256 = .ok (.iand, 1) := by decide +kernel
theorem dL_law_257 : decode cL_law 257 = .ok (.iload 10, 2) := by decide +kernel
theorem dL_law_259 : decode cL_law 259 = .ok (.if_icmp .ne 33, 3) := by decide +kernel
theorem dL_law_262 : decode cL_law 262 = .ok (.iload 10, 2) := by decide +kernel
theorem dL_law_264 : decode cL_law 264 = .ok (.invokestatic 38, 3) := by decide +kernel
theorem dL_law_267 : decode cL_law 267 = .ok (.iload 7, 2) := by decide +kernel
theorem dL_law_269 : decode cL_law 269 = .ok (.if_icmp .gt 23, 3) := by decide +kernel
theorem dL_law_272 : decode cL_law 272 = .ok (.iload 10, 2) := by decide +kernel
theorem dL_law_274 : decode cL_law 274 = .ok (.iload 8, 2) := by decide +kernel
theorem dL_law_276 : decode cL_law 276 = .ok (.iconst (-1), 1) := by decide +kernel
theorem dL_law_277 : decode cL_law 277 = .ok (.ixor, 1) := by decide +kernel
theorem dL_law_278 : decode cL_law 278 = .ok (.iand, 1) := by decide +kernel
theorem dL_law_279 : decode cL_law 279 = .ok (.ifCond .ne 13, 3) := by decide +kernel
theorem dL_law_282 : decode cL_law 282 = .ok (.iload 10, 2) := by decide +kernel
theorem dL_law_284 : decode cL_law 284 = .ok (.ifCond .le 10, 3) := by decide +kernel
theorem dL_law_287 : decode cL_law 287 = .ok (.iload 14, 2) := by decide +kernel
theorem dL_law_289 : decode cL_law 289 = .ok (.ifCond .ne 5, 3) := by decide +kernel
theorem dL_law_292 : decode cL_law 292 = .ok (.iconst 0, 1) := by decide +kernel
theorem dL_law_293 : decode cL_law 293 = .ok (.ireturn, 1) := by decide +kernel
theorem dL_law_294 : decode cL_law 294 = .ok (.iload 11, 2) := by decide +kernel
theorem dL_law_296 : decode cL_law 296 = .ok (.ifCond .lt 200, 3) := by decide +kernel
theorem dL_law_299 : decode cL_law 299 = .ok (.iconst 0, 1) := by decide +kernel
theorem dL_law_300 : decode cL_law 300 = .ok (.istore 15, 2) := by decide +kernel
theorem dL_law_302 : decode cL_law 302 = .ok (.iconst 0, 1) := by decide +kernel
theorem dL_law_303 : decode cL_law 303 = .ok (.istore 16, 2) := by decide +kernel
theorem dL_law_305 : decode cL_law 305 = .ok (.iload 16, 2) := by decide +kernel
theorem dL_law_307 : decode cL_law 307 = .ok (.iload 10, 2) := by decide +kernel
theorem dL_law_309 : decode cL_law 309 = .ok (.invokestatic 38, 3) := by decide +kernel
theorem dL_law_312 : decode cL_law 312 = .ok (.if_icmp .ge 61, 3) := by decide +kernel
theorem dL_law_315 : decode cL_law 315 = .ok (.aload_n 1, 1) := by decide +kernel
theorem dL_law_316 : decode cL_law 316 = .ok (.iconst 1, 1) := by decide +kernel
theorem dL_law_317 : decode cL_law 317 = .ok (.iload 16, 2) := by decide +kernel
theorem dL_law_319 : decode cL_law 319 = .ok (.invokevirtual 76, 3) := by decide +kernel
theorem dL_law_322 : decode cL_law 322 = .ok (.iconst 1, 1) := by decide +kernel
theorem dL_law_323 : decode cL_law 323 = .ok (.if_icmp .eq 5, 3) := by decide +kernel
theorem dL_law_326 : decode cL_law 326 = .ok (.iconst 0, 1) := by decide +kernel
theorem dL_law_327 : decode cL_law 327 = .ok (.ireturn, 1) := by decide +kernel
theorem dL_law_328 : decode cL_law 328 = .ok (.aload_n 1, 1) := by decide +kernel
theorem dL_law_329 : decode cL_law 329 = .ok (.invokevirtual 49, 3) := by decide +kernel
theorem dL_law_332 : decode cL_law 332 = .ok (.istore 17, 2) := by decide +kernel
theorem dL_law_334 : decode cL_law 334 = .ok (.aload_n 1, 1) := by decide +kernel
theorem dL_law_335 : decode cL_law 335 = .ok (.iload 17, 2) := by decide +kernel
theorem dL_law_337 : decode cL_law 337 = .ok (.invokevirtual 79, 3) := by decide +kernel
theorem dL_law_340 : decode cL_law 340 = .ok (.istore 18, 2) := by decide +kernel
theorem dL_law_342 : decode cL_law 342 = .ok (.iload 18, 2) := by decide +kernel
theorem dL_law_344 : decode cL_law 344 = .ok (.ifCond .lt 14, 3) := by decide +kernel
theorem dL_law_347 : decode cL_law 347 = .ok (.aload_n 1, 1) := by decide +kernel
theorem dL_law_348 : decode cL_law 348 = .ok (.iload 17, 2) := by decide +kernel
theorem dL_law_350 : decode cL_law 350 = .ok (.invokevirtual 82, 3) := by decide +kernel
theorem dL_law_353 : decode cL_law 353 = .ok (.iload 18, 2) := by decide +kernel
theorem dL_law_355 : decode cL_law 355 = .ok (.if_icmp .eq 5, 3) := by decide +kernel
theorem dL_law_358 : decode cL_law 358 = .ok (.iconst 0, 1) := by decide +kernel
theorem dL_law_359 : decode cL_law 359 = .ok (.ireturn, 1) := by decide +kernel
theorem dL_law_360 : decode cL_law 360 = .ok (.iload 15, 2) := by decide +kernel
theorem dL_law_362 : decode cL_law 362 = .ok (.iload 18, 2) := by decide +kernel
theorem dL_law_364 : decode cL_law 364 = .ok (.iadd, 1) := by decide +kernel
theorem dL_law_365 : decode cL_law 365 = .ok (.istore 15, 2) := by decide +kernel
theorem dL_law_367 : decode cL_law 367 = .ok (.iinc 16 1, 3) := by decide +kernel
theorem dL_law_370 : decode cL_law 370 = .ok (.goto (-65), 3) := by decide +kernel
theorem dL_law_373 : decode cL_law 373 = .ok (.iload 15, 2) := by decide +kernel
theorem dL_law_375 : decode cL_law 375 = .ok (.iload 11, 2) := by decide +kernel
theorem dL_law_377 : decode cL_law 377 = .ok (.if_icmp .ne 43, 3) := by decide +kernel
theorem dL_law_380 : decode cL_law 380 = .ok (.aload_n 1, 1) := by decide +kernel
theorem dL_law_381 : decode cL_law 381 = .ok (.invokevirtual 85, 3) := by decide +kernel
theorem dL_law_384 : decode cL_law 384 = .ok (.iload 10, 2) := by decide +kernel
theorem dL_law_386 : decode cL_law 386 = .ok (.if_icmp .ne 34, 3) := by decide +kernel
theorem dL_law_389 : decode cL_law 389 = .ok (.aload_n 1, 1) := by decide +kernel
theorem dL_law_390 : decode cL_law 390 = .ok (.invokevirtual 49, 3) := by decide +kernel
theorem dL_law_393 : decode cL_law 393 = .ok (.iload 15, 2) := by decide +kernel
theorem dL_law_395 : decode cL_law 395 = .ok (.if_icmp .ne 25, 3) := by decide +kernel
theorem dL_law_398 : decode cL_law 398 = .ok (.aload_n 1, 1) := by decide +kernel
theorem dL_law_399 : decode cL_law 399 = .ok (.iconst 1, 1) := by decide +kernel
theorem dL_law_400 : decode cL_law 400 = .ok (.invokevirtual 88, 3) := by decide +kernel
theorem dL_law_403 : decode cL_law 403 = .ok (.iload 10, 2) := by decide +kernel
theorem dL_law_405 : decode cL_law 405 = .ok (.invokestatic 38, 3) := by decide +kernel
theorem dL_law_408 : decode cL_law 408 = .ok (.if_icmp .ne 12, 3) := by decide +kernel
theorem dL_law_411 : decode cL_law 411 = .ok (.aload_n 1, 1) := by decide +kernel
theorem dL_law_412 : decode cL_law 412 = .ok (.invokevirtual 49, 3) := by decide +kernel
theorem dL_law_415 : decode cL_law 415 = .ok (.iload 15, 2) := by decide +kernel
theorem dL_law_417 : decode cL_law 417 = .ok (.if_icmp .eq 5, 3) := by decide +kernel
theorem dL_law_420 : decode cL_law 420 = .ok (.iconst 0, 1) := by decide +kernel
theorem dL_law_421 : decode cL_law 421 = .ok (.ireturn, 1) := by decide +kernel
theorem dL_law_422 : decode cL_law 422 = .ok (.iconst 0, 1) := by decide +kernel
theorem dL_law_423 : decode cL_law 423 = .ok (.istore 16, 2) := by decide +kernel
theorem dL_law_425 : decode cL_law 425 = .ok (.iload 16, 2) := by decide +kernel
theorem dL_law_427 : decode cL_law 427 = .ok (.iload_n 3, 1) := by decide +kernel
theorem dL_law_428 : decode cL_law 428 = .ok (.if_icmp .ge 54, 3) := by decide +kernel
theorem dL_law_431 : decode cL_law 431 = .ok (.aload_n 1, 1) := by decide +kernel
theorem dL_law_432 : decode cL_law 432 = .ok (.iload 16, 2) := by decide +kernel
theorem dL_law_434 : decode cL_law 434 = .ok (.invokevirtual 79, 3) := by decide +kernel
theorem dL_law_437 : decode cL_law 437 = .ok (.istore 17, 2) := by decide +kernel
theorem dL_law_439 : decode cL_law 439 = .ok (.iload 10, 2) := by decide +kernel
theorem dL_law_441 : decode cL_law 441 = .ok (.iload 16, 2) := by decide +kernel
theorem dL_law_443 : decode cL_law 443 = .ok (.invokestatic 34, 3) := by decide +kernel
theorem dL_law_446 : decode cL_law 446 = .ok (.ifCond .eq 13, 3) := by decide +kernel
theorem dL_law_449 : decode cL_law 449 = .ok (.iload 17, 2) := by decide +kernel
theorem dL_law_451 : decode cL_law 451 = .ok (.bipush (-4), 2) := by decide +kernel
theorem dL_law_453 : decode cL_law 453 = .ok (.if_icmp .eq 23, 3) := by decide +kernel
theorem dL_law_456 : decode cL_law 456 = .ok (.goto 18, 3) := by decide +kernel
theorem dL_law_459 : decode cL_law 459 = .ok (.iload 17, 2) := by decide +kernel
theorem dL_law_461 : decode cL_law 461 = .ok (.ifCond .lt 15, 3) := by decide +kernel
theorem dL_law_464 : decode cL_law 464 = .ok (.iload 8, 2) := by decide +kernel
theorem dL_law_466 : decode cL_law 466 = .ok (.iload 16, 2) := by decide +kernel
theorem dL_law_468 : decode cL_law 468 = .ok (.invokestatic 34, 3) := by decide +kernel
theorem dL_law_471 : decode cL_law 471 = .ok (.ifCond .ne 5, 3) := by decide +kernel
theorem dL_law_474 : decode cL_law 474 = .ok (.iconst 0, 1) := by decide +kernel
theorem dL_law_475 : decode cL_law 475 = .ok (.ireturn, 1) := by decide +kernel
theorem dL_law_476 : decode cL_law 476 = .ok (.iinc 16 1, 3) := by decide +kernel
theorem dL_law_479 : decode cL_law 479 = .ok (.goto (-54), 3) := by decide +kernel
theorem dL_law_482 : decode cL_law 482 = .ok (.aload_n 1, 1) := by decide +kernel
theorem dL_law_483 : decode cL_law 483 = .ok (.invokevirtual 91, 3) := by decide +kernel
theorem dL_law_486 : decode cL_law 486 = .ok (.iload 10, 2) := by decide +kernel
theorem dL_law_488 : decode cL_law 488 = .ok (.invokestatic 38, 3) := by decide +kernel
theorem dL_law_491 : decode cL_law 491 = .ok (.if_icmp .eq 5, 3) := by decide +kernel
theorem dL_law_494 : decode cL_law 494 = .ok (.iconst 0, 1) := by decide +kernel
theorem dL_law_495 : decode cL_law 495 = .ok (.ireturn, 1) := by decide +kernel
theorem dL_law_496 : decode cL_law 496 = .ok (.iinc 10 1, 3) := by decide +kernel
theorem dL_law_499 : decode cL_law 499 = .ok (.goto (-402), 3) := by decide +kernel
theorem dL_law_502 : decode cL_law 502 = .ok (.aload_n 1, 1) := by decide +kernel
theorem dL_law_503 : decode cL_law 503 = .ok (.invokevirtual 94, 3) := by decide +kernel
theorem dL_law_506 : decode cL_law 506 = .ok (.istore 10, 2) := by decide +kernel
theorem dL_law_508 : decode cL_law 508 = .ok (.iload 9, 2) := by decide +kernel
theorem dL_law_510 : decode cL_law 510 = .ok (.iload 6, 2) := by decide +kernel
theorem dL_law_512 : decode cL_law 512 = .ok (.if_icmp .ne 27, 3) := by decide +kernel
theorem dL_law_515 : decode cL_law 515 = .ok (.iload 10, 2) := by decide +kernel
theorem dL_law_517 : decode cL_law 517 = .ok (.invokestatic 38, 3) := by decide +kernel
theorem dL_law_520 : decode cL_law 520 = .ok (.iload 7, 2) := by decide +kernel
theorem dL_law_522 : decode cL_law 522 = .ok (.if_icmp .ne 17, 3) := by decide +kernel
theorem dL_law_525 : decode cL_law 525 = .ok (.aload_n 1, 1) := by decide +kernel
theorem dL_law_526 : decode cL_law 526 = .ok (.invokevirtual 49, 3) := by decide +kernel
theorem dL_law_529 : decode cL_law 529 = .ok (.aload_n 1, 1) := by decide +kernel
theorem dL_law_530 : decode cL_law 530 = .ok (.iload 10, 2) := by decide +kernel
theorem dL_law_532 : decode cL_law 532 = .ok (.iconst 1, 1) := by decide +kernel
theorem dL_law_533 : decode cL_law 533 = .ok (.invokevirtual 70, 3) := by decide +kernel
theorem dL_law_536 : decode cL_law 536 = .ok (.if_icmp .eq 5, 3) := by decide +kernel
theorem dL_law_539 : decode cL_law 539 = .ok (.iconst 0, 1) := by decide +kernel
theorem dL_law_540 : decode cL_law 540 = .ok (.ireturn, 1) := by decide +kernel
theorem dL_law_541 : decode cL_law 541 = .ok (.aload_n 1, 1) := by decide +kernel
theorem dL_law_542 : decode cL_law 542 = .ok (.iload_n 3, 1) := by decide +kernel
theorem dL_law_543 : decode cL_law 543 = .ok (.aload 5, 2) := by decide +kernel
theorem dL_law_545 : decode cL_law 545 = .ok (.iload 6, 2) := by decide +kernel
theorem dL_law_547 : decode cL_law 547 = .ok (.invokestatic 97, 3) := by decide +kernel
theorem dL_law_550 : decode cL_law 550 = .ok (.ifCond .eq 30, 3) := by decide +kernel
theorem dL_law_553 : decode cL_law 553 = .ok (.aload_n 1, 1) := by decide +kernel
theorem dL_law_554 : decode cL_law 554 = .ok (.aload_n 0, 1) := by decide +kernel
theorem dL_law_555 : decode cL_law 555 = .ok (.iload_n 3, 1) := by decide +kernel
theorem dL_law_556 : decode cL_law 556 = .ok (.iload 8, 2) := by decide +kernel
theorem dL_law_558 : decode cL_law 558 = .ok (.invokestatic 101, 3) := by decide +kernel
theorem dL_law_561 : decode cL_law 561 = .ok (.ifCond .eq 19, 3) := by decide +kernel
theorem dL_law_564 : decode cL_law 564 = .ok (.aload_n 1, 1) := by decide +kernel
theorem dL_law_565 : decode cL_law 565 = .ok (.aload_n 0, 1) := by decide +kernel
theorem dL_law_566 : decode cL_law 566 = .ok (.aload_n 2, 1) := by decide +kernel
theorem dL_law_567 : decode cL_law 567 = .ok (.iload_n 3, 1) := by decide +kernel
theorem dL_law_568 : decode cL_law 568 = .ok (.iload 6, 2) := by decide +kernel
theorem dL_law_570 : decode cL_law 570 = .ok (.invokestatic 105, 3) := by decide +kernel
theorem dL_law_573 : decode cL_law 573 = .ok (.ifCond .eq 7, 3) := by decide +kernel
theorem dL_law_576 : decode cL_law 576 = .ok (.iconst 1, 1) := by decide +kernel
theorem dL_law_577 : decode cL_law 577 = .ok (.goto 4, 3) := by decide +kernel
theorem dL_law_580 : decode cL_law 580 = .ok (.iconst 0, 1) := by decide +kernel
theorem dL_law_581 : decode cL_law 581 = .ok (.ireturn, 1) := by decide +kernel
set_option maxRecDepth 20000 in
theorem ggL_bands_X10_band : GoodIn wsL_bands wsX10_band := goodIn_r _ [6, 7, 8, 9, 10, 11, 12, 13, 14, 15, 16, 17, 18, 19, 20, 21, 5, 22, 23, 24, 25, 26, 27, 28, 29, 30, 31, 32, 33, 34, 35, 36, 37, 38, 39, 40, 41, 42, 43, 44, 45, 46, 47, 48, 49, 50, 51, 52, 53, 54, 55, 56, 57, 58, 59, 60, 61, 62, 63, 64, 65, 66, 67, 68, 69, 70, 71, 72, 179, 180, 181, 182, 183, 184, 185, 186, 187, 188, 189, 190, 191, 192, 193, 194, 195, 196, 197, 198] (by decide +kernel) (by decide +kernel)
set_option maxRecDepth 20000 in
theorem gL_bands_X10_band : GoodIn wsL_bands (wsV RL 109 RX10 yX10_band wsX10_band) := goodIn_app (goodIn_of _ (by decide +kernel)) ggL_bands_X10_band
set_option maxRecDepth 20000 in
theorem ggL_bands_L_bits : GoodIn wsL_bands wsL_bits := goodIn_r _ [76] (by decide +kernel) (by decide +kernel)
set_option maxRecDepth 20000 in
theorem gL_bands_L_bits : GoodIn wsL_bands (va_wsS RL 38 yL_bits wsL_bits) := goodIn_app (goodIn_of _ (by decide +kernel)) ggL_bands_L_bits
set_option maxRecDepth 20000 in
theorem ggL_bands_X10_order : GoodIn wsL_bands wsX10_order := goodIn_r _ [80, 7, 81, 82, 9, 10, 11, 12, 13, 14, 15, 16, 17, 18, 83, 84, 85, 86, 87, 88, 89, 90, 91, 92, 93, 94, 95, 96, 97, 98, 99, 100, 101, 102, 103, 104, 31, 32, 33, 34, 35, 36, 37, 38, 39, 40, 41, 42, 43, 44, 45, 46, 47, 48, 49, 50, 51, 52, 53, 54, 55, 56, 57, 58, 59, 60, 61, 62, 63, 105, 106, 107, 108, 109, 110, 111, 112, 113, 114, 115, 116, 117, 118, 119, 120, 121, 122, 123, 124, 125, 126, 127, 128, 129, 130, 131, 132, 133, 179, 180, 181, 182, 183, 184, 185, 186, 187, 188, 189, 190, 191, 192, 193, 194, 195, 196, 199, 200, 201, 202, 203, 204] (by decide +kernel) (by decide +kernel)
set_option maxRecDepth 20000 in
theorem gL_bands_X10_order : GoodIn wsL_bands (wsV RL 70 RX10 yX10_order wsX10_order) := goodIn_app (goodIn_of _ (by decide +kernel)) ggL_bands_X10_order
set_option maxRecDepth 20000 in
theorem ggL_bands_X10_bands : GoodIn wsL_bands wsX10_bands := goodIn_r _ [137, 7, 138, 139, 140, 141, 12, 142, 18, 143, 15, 16, 17, 110, 47, 48, 49, 50, 51, 52, 19, 20, 21, 5, 22, 8, 23, 24, 25, 26, 27, 28, 29, 30, 31, 32, 33, 34, 35, 36, 37, 38, 39, 40, 41, 42, 43, 44, 45, 46, 53, 54, 55, 56, 57, 58, 59, 60, 61, 62, 63, 64, 65, 66, 67, 68, 69, 70, 71, 144, 145, 146, 147, 148, 149, 179, 180, 181, 182, 183, 184, 185, 186, 187, 188, 189, 190, 191, 192, 193, 194, 195, 196, 197, 198, 205, 206, 207, 208, 209] (by decide +kernel) (by decide +kernel)
set_option maxRecDepth 20000 in
theorem gL_bands_X10_bands : GoodIn wsL_bands (wsV RL 112 RX10 yX10_bands wsX10_bands) := goodIn_app (goodIn_of _ (by decide +kernel)) ggL_bands_X10_bands
set_option maxRecDepth 20000 in
theorem ggL_bands_X10_asked : GoodIn wsL_bands wsX10_asked := goodIn_r _ [153, 138, 154, 155, 156, 147, 157, 149, 179, 180, 181, 182, 183, 184, 185, 186, 187, 188, 205, 206, 207, 208, 209] (by decide +kernel) (by decide +kernel)
set_option maxRecDepth 20000 in
theorem gL_bands_X10_asked : GoodIn wsL_bands (wsV RL 49 RX10 yX10_asked wsX10_asked) := goodIn_app (goodIn_of _ (by decide +kernel)) ggL_bands_X10_asked
set_option maxRecDepth 20000 in
theorem ggL_bands_X10_without : GoodIn wsL_bands wsX10_without := goodIn_r _ [161, 7, 8, 138, 162, 39, 40, 12, 41, 18, 163, 164, 165, 5, 166, 143, 15, 16, 17, 23, 24, 25, 26, 27, 28, 29, 30, 31, 32, 33, 34, 35, 36, 37, 38, 42, 43, 44, 45, 46, 47, 48, 49, 50, 51, 52, 53, 54, 55, 56, 57, 58, 59, 60, 61, 62, 63, 167, 168, 169, 170, 171, 65, 66, 67, 68, 69, 70, 71, 172, 173, 174, 175, 144, 145, 146, 147, 148, 149, 179, 180, 181, 182, 183, 184, 185, 186, 187, 188, 189, 190, 191, 192, 193, 194, 195, 196, 197, 198, 205, 206, 207, 208, 209] (by decide +kernel) (by decide +kernel)
set_option maxRecDepth 20000 in
theorem gL_bands_X10_without : GoodIn wsL_bands (wsV RL 114 RX10 yX10_without wsX10_without) := goodIn_app (goodIn_of _ (by decide +kernel)) ggL_bands_X10_without
set_option maxRecDepth 20000 in
theorem ggL_bands_L_in : GoodIn wsL_bands wsL_in := goodIn_r _ [178] (by decide +kernel) (by decide +kernel)
set_option maxRecDepth 20000 in
theorem gL_bands_L_in : GoodIn wsL_bands (va_wsS RL 34 yL_in wsL_in) := goodIn_app (goodIn_of _ (by decide +kernel)) ggL_bands_L_in
theorem dL_bands_0 : decode cL_bands 0 = .ok (.bipush 8, 2) := by decide +kernel
theorem dL_bands_2 : decode cL_bands 2 = .ok (.newarray .int, 2) := by decide +kernel
theorem dL_bands_4 : decode cL_bands 4 = .ok (.astore 4, 2) := by decide +kernel
theorem dL_bands_6 : decode cL_bands 6 = .ok (.iconst 1, 1) := by decide +kernel
theorem dL_bands_7 : decode cL_bands 7 = .ok (.istore 5, 2) := by decide +kernel
theorem dL_bands_9 : decode cL_bands 9 = .ok (.iload 5, 2) := by decide +kernel
theorem dL_bands_11 : decode cL_bands 11 = .ok (.iconst 1, 1) := by decide +kernel
theorem dL_bands_12 : decode cL_bands 12 = .ok (.iload_n 1, 1) := by decide +kernel
theorem dL_bands_13 : decode cL_bands 13 = .ok (.ishl, 1) := by decide +kernel
theorem dL_bands_14 : decode cL_bands 14 = .ok (.if_icmp .ge 64, 3) := by decide +kernel
theorem dL_bands_17 : decode cL_bands 17 = .ok (.aload_n 0, 1) := by decide +kernel
theorem dL_bands_18 : decode cL_bands 18 = .ok (.iload 5, 2) := by decide +kernel
theorem dL_bands_20 : decode cL_bands 20 = .ok (.invokevirtual 109, 3) := by decide +kernel
theorem dL_bands_23 : decode cL_bands 23 = .ok (.istore 6, 2) := by decide +kernel
theorem dL_bands_25 : decode cL_bands 25 = .ok (.aload 4, 2) := by decide +kernel
theorem dL_bands_27 : decode cL_bands 27 = .ok (.iload 5, 2) := by decide +kernel
theorem dL_bands_29 : decode cL_bands 29 = .ok (.invokestatic 38, 3) := by decide +kernel
theorem dL_bands_32 : decode cL_bands 32 = .ok (.dup2, 1) := by decide +kernel
theorem dL_bands_33 : decode cL_bands 33 = .ok (.iaload, 1) := by decide +kernel
theorem dL_bands_34 : decode cL_bands 34 = .ok (.iload 6, 2) := by decide +kernel
theorem dL_bands_36 : decode cL_bands 36 = .ok (.ifCond .ge 7, 3) := by decide +kernel
theorem dL_bands_39 : decode cL_bands 39 = .ok (.iconst 0, 1) := by decide +kernel
theorem dL_bands_40 : decode cL_bands 40 = .ok (.goto 4, 3) := by decide +kernel
theorem dL_bands_43 : decode cL_bands 43 = .ok (.iconst 1, 1) := by decide +kernel
theorem dL_bands_44 : decode cL_bands 44 = .ok (.iadd, 1) := by decide +kernel
theorem dL_bands_45 : decode cL_bands 45 = .ok (.iastore, 1) := by decide +kernel
theorem dL_bands_46 : decode cL_bands 46 = .ok (.iload 6, 2) := by decide +kernel
theorem dL_bands_48 : decode cL_bands 48 = .ok (.ifCond .lt 24, 3) := by decide +kernel
theorem dL_bands_51 : decode cL_bands 51 = .ok (.aload_n 2, 1) := by decide +kernel
theorem dL_bands_52 : decode cL_bands 52 = .ok (.iload 5, 2) := by decide +kernel
theorem dL_bands_54 : decode cL_bands 54 = .ok (.iaload, 1) := by decide +kernel
theorem dL_bands_55 : decode cL_bands 55 = .ok (.ifCond .eq 15, 3) := by decide +kernel
theorem dL_bands_58 : decode cL_bands 58 = .ok (.aload_n 0, 1) := by decide +kernel
theorem dL_bands_59 : decode cL_bands 59 = .ok (.iload 5, 2) := by decide +kernel
theorem dL_bands_61 : decode cL_bands 61 = .ok (.iconst 2, 1) := by decide +kernel
theorem dL_bands_62 : decode cL_bands 62 = .ok (.invokevirtual 70, 3) := by decide +kernel
theorem dL_bands_65 : decode cL_bands 65 = .ok (.iload 6, 2) := by decide +kernel
theorem dL_bands_67 : decode cL_bands 67 = .ok (.if_icmp .le 5, 3) := by decide +kernel
theorem dL_bands_70 : decode cL_bands 70 = .ok (.iconst 0, 1) := by decide +kernel
theorem dL_bands_71 : decode cL_bands 71 = .ok (.ireturn, 1) := by decide +kernel
theorem dL_bands_72 : decode cL_bands 72 = .ok (.iinc 5 1, 3) := by decide +kernel
theorem dL_bands_75 : decode cL_bands 75 = .ok (.goto (-66), 3) := by decide +kernel
theorem dL_bands_78 : decode cL_bands 78 = .ok (.iconst 1, 1) := by decide +kernel
theorem dL_bands_79 : decode cL_bands 79 = .ok (.istore 5, 2) := by decide +kernel
theorem dL_bands_81 : decode cL_bands 81 = .ok (.iload 5, 2) := by decide +kernel
theorem dL_bands_83 : decode cL_bands 83 = .ok (.iload_n 1, 1) := by decide +kernel
theorem dL_bands_84 : decode cL_bands 84 = .ok (.if_icmp .gt 84, 3) := by decide +kernel
theorem dL_bands_87 : decode cL_bands 87 = .ok (.aload_n 0, 1) := by decide +kernel
theorem dL_bands_88 : decode cL_bands 88 = .ok (.iload 5, 2) := by decide +kernel
theorem dL_bands_90 : decode cL_bands 90 = .ok (.invokevirtual 112, 3) := by decide +kernel
theorem dL_bands_93 : decode cL_bands 93 = .ok (.istore 6, 2) := by decide +kernel
theorem dL_bands_95 : decode cL_bands 95 = .ok (.aload_n 0, 1) := by decide +kernel
theorem dL_bands_96 : decode cL_bands 96 = .ok (.invokevirtual 49, 3) := by decide +kernel
theorem dL_bands_99 : decode cL_bands 99 = .ok (.istore 7, 2) := by decide +kernel
theorem dL_bands_101 : decode cL_bands 101 = .ok (.iload 6, 2) := by decide +kernel
theorem dL_bands_103 : decode cL_bands 103 = .ok (.aload 4, 2) := by decide +kernel
theorem dL_bands_105 : decode cL_bands 105 = .ok (.iload 5, 2) := by decide +kernel
theorem dL_bands_107 : decode cL_bands 107 = .ok (.iaload, 1) := by decide +kernel
theorem dL_bands_108 : decode cL_bands 108 = .ok (.if_icmp .ne 52, 3) := by decide +kernel
theorem dL_bands_111 : decode cL_bands 111 = .ok (.iload 6, 2) := by decide +kernel
theorem dL_bands_113 : decode cL_bands 113 = .ok (.ifCond .ne 7, 3) := by decide +kernel
theorem dL_bands_116 : decode cL_bands 116 = .ok (.iconst 1, 1) := by decide +kernel
theorem dL_bands_117 : decode cL_bands 117 = .ok (.goto 4, 3) := by decide +kernel
theorem dL_bands_120 : decode cL_bands 120 = .ok (.iconst 0, 1) := by decide +kernel
theorem dL_bands_121 : decode cL_bands 121 = .ok (.iload 7, 2) := by decide +kernel
theorem dL_bands_123 : decode cL_bands 123 = .ok (.bipush (-9), 2) := by decide +kernel
theorem dL_bands_125 : decode cL_bands 125 = .ok (.if_icmp .ne 7, 3) := by decide +kernel
theorem dL_bands_128 : decode cL_bands 128 = .ok (.iconst 1, 1) := by decide +kernel
theorem dL_bands_129 : decode cL_bands 129 = .ok (.goto 4, 3) := by decide +kernel
theorem dL_bands_132 : decode cL_bands 132 = .ok (.iconst 0, 1) := by decide +kernel
theorem dL_bands_133 : decode cL_bands 133 = .ok (.if_icmp .ne 27, 3) := by decide +kernel
theorem dL_bands_136 : decode cL_bands 136 = .ok (.iload 6, 2) := by decide +kernel
theorem dL_bands_138 : decode cL_bands 138 = .ok (.ifCond .le 24, 3) := by decide +kernel
theorem dL_bands_141 : decode cL_bands 141 = .ok (.iload 7, 2) := by decide +kernel
theorem dL_bands_143 : decode cL_bands 143 = .ok (.invokestatic 38, 3) := by decide +kernel
theorem dL_bands_146 : decode cL_bands 146 = .ok (.iload 5, 2) := by decide +kernel
theorem dL_bands_148 : decode cL_bands 148 = .ok (.if_icmp .ne 12, 3) := by decide +kernel
theorem dL_bands_151 : decode cL_bands 151 = .ok (.aload_n 0, 1) := by decide +kernel
theorem dL_bands_152 : decode cL_bands 152 = .ok (.iload 7, 2) := by decide +kernel
theorem dL_bands_154 : decode cL_bands 154 = .ok (.invokevirtual 109, 3) := by decide +kernel
theorem dL_bands_157 : decode cL_bands 157 = .ok (.ifCond .ge 5, 3) := by decide +kernel
theorem dL_bands_160 : decode cL_bands 160 = .ok (.iconst 0, 1) := by decide +kernel
theorem dL_bands_161 : decode cL_bands 161 = .ok (.ireturn, 1) := by decide +kernel
theorem dL_bands_162 : decode cL_bands 162 = .ok (.iinc 5 1, 3) := by decide +kernel
theorem dL_bands_165 : decode cL_bands 165 = .ok (.goto (-84), 3) := by decide +kernel
theorem dL_bands_168 : decode cL_bands 168 = .ok (.iconst 0, 1) := by decide +kernel
theorem dL_bands_169 : decode cL_bands 169 = .ok (.istore 5, 2) := by decide +kernel
theorem dL_bands_171 : decode cL_bands 171 = .ok (.iload 5, 2) := by decide +kernel
theorem dL_bands_173 : decode cL_bands 173 = .ok (.iload_n 1, 1) := by decide +kernel
theorem dL_bands_174 : decode cL_bands 174 = .ok (.if_icmp .ge 46, 3) := by decide +kernel
theorem dL_bands_177 : decode cL_bands 177 = .ok (.aload_n 0, 1) := by decide +kernel
theorem dL_bands_178 : decode cL_bands 178 = .ok (.iload 5, 2) := by decide +kernel
theorem dL_bands_180 : decode cL_bands 180 = .ok (.invokevirtual 114, 3) := by decide +kernel
theorem dL_bands_183 : decode cL_bands 183 = .ok (.istore 6, 2) := by decide +kernel
theorem dL_bands_185 : decode cL_bands 185 = .ok (.aload_n 0, 1) := by decide +kernel
theorem dL_bands_186 : decode cL_bands 186 = .ok (.invokevirtual 49, 3) := by decide +kernel
theorem dL_bands_189 : decode cL_bands 189 = .ok (.istore 7, 2) := by decide +kernel
theorem dL_bands_191 : decode cL_bands 191 = .ok (.iload 6, 2) := by decide +kernel
theorem dL_bands_193 : decode cL_bands 193 = .ok (.ifCond .lt 19, 3) := by decide +kernel
theorem dL_bands_196 : decode cL_bands 196 = .ok (.iload 6, 2) := by decide +kernel
theorem dL_bands_198 : decode cL_bands 198 = .ok (.iload_n 3, 1) := by decide +kernel
theorem dL_bands_199 : decode cL_bands 199 = .ok (.if_icmp .ge 13, 3) := by decide +kernel
theorem dL_bands_202 : decode cL_bands 202 = .ok (.iload 7, 2) := by decide +kernel
theorem dL_bands_204 : decode cL_bands 204 = .ok (.iload 5, 2) := by decide +kernel
theorem dL_bands_206 : decode cL_bands 206 = .ok (.invokestatic 34, 3) := by decide +kernel
theorem dL_bands_209 : decode cL_bands 209 = .ok (.ifCond .eq 5, 3) := by decide +kernel
theorem dL_bands_212 : decode cL_bands 212 = .ok (.iconst 0, 1) := by decide +kernel
theorem dL_bands_213 : decode cL_bands 213 = .ok (.ireturn, 1) := by decide +kernel
theorem dL_bands_214 : decode cL_bands 214 = .ok (.iinc 5 1, 3) := by decide +kernel
theorem dL_bands_217 : decode cL_bands 217 = .ok (.goto (-46), 3) := by decide +kernel
theorem dL_bands_220 : decode cL_bands 220 = .ok (.iconst 1, 1) := by decide +kernel
theorem dL_bands_221 : decode cL_bands 221 = .ok (.ireturn, 1) := by decide +kernel
set_option maxRecDepth 20000 in
theorem ggL_nights_L_cell : GoodIn wsL_nights wsL_cell := goodIn_r _ [4, 5] (by decide +kernel) (by decide +kernel)
set_option maxRecDepth 20000 in
theorem gL_nights_L_cell : GoodIn wsL_nights (va_wsS RL 14 yL_cell wsL_cell) := goodIn_app (goodIn_of _ (by decide +kernel)) ggL_nights_L_cell
set_option maxRecDepth 20000 in
theorem ggL_nights_X10_culprits : GoodIn wsL_nights wsX10_culprits := goodIn_r _ [10, 11, 12, 13, 14, 9, 15, 16, 17, 18, 19, 20, 21, 22, 23, 24, 25, 26, 27, 28, 29, 30, 31, 32, 33, 34, 35, 36, 37, 38, 39, 40, 41, 42, 43, 44, 45, 46, 47, 48, 49, 50, 51, 52, 53, 54, 55, 56, 57, 58, 59, 60, 61, 62, 63, 64, 65, 66, 67, 68, 69, 70, 71, 72, 73, 74, 75, 76, 77, 78, 79, 80, 81, 82, 83, 84, 85, 86, 87, 88, 89, 90, 91, 92, 93, 94, 95, 168, 169, 170, 171, 172, 173, 174, 175, 176, 177, 178, 179, 180, 181, 182, 183, 184, 185, 186, 187, 188, 189, 190, 191, 192, 193, 194, 195] (by decide +kernel) (by decide +kernel)
set_option maxRecDepth 20000 in
theorem gL_nights_X10_culprits : GoodIn wsL_nights (wsV RL 117 RX10 yX10_culprits wsX10_culprits) := goodIn_app (goodIn_of _ (by decide +kernel)) ggL_nights_X10_culprits
set_option maxRecDepth 20000 in
theorem ggL_nights_X10_asked : GoodIn wsL_nights wsX10_asked := goodIn_r _ [99, 12, 100, 101, 102, 93, 103, 95, 168, 169, 170, 171, 172, 173, 174, 175, 176, 177, 191, 192, 193, 194, 195] (by decide +kernel) (by decide +kernel)
set_option maxRecDepth 20000 in
theorem gL_nights_X10_asked : GoodIn wsL_nights (wsV RL 49 RX10 yX10_asked wsX10_asked) := goodIn_app (goodIn_of _ (by decide +kernel)) ggL_nights_X10_asked
set_option maxRecDepth 20000 in
theorem ggL_nights_X10_odds : GoodIn wsL_nights wsX10_odds := goodIn_r _ [107, 11, 12, 13, 14, 9, 15, 108, 43, 44, 24, 45, 26, 16, 17, 18, 19, 20, 21, 22, 23, 25, 27, 28, 29, 30, 31, 32, 33, 34, 35, 36, 37, 38, 39, 40, 41, 42, 46, 47, 48, 49, 50, 51, 52, 53, 54, 55, 56, 57, 58, 59, 60, 61, 62, 63, 64, 65, 66, 67, 68, 69, 70, 71, 72, 73, 74, 75, 76, 77, 78, 79, 80, 81, 82, 83, 84, 85, 86, 87, 88, 89, 109, 110, 111, 93, 112, 113, 114, 115, 116, 117, 118, 119, 120, 168, 169, 170, 171, 172, 173, 174, 175, 176, 177, 178, 179, 180, 181, 182, 183, 184, 185, 186, 187, 188, 189, 190, 191, 192, 193, 194, 195] (by decide +kernel) (by decide +kernel)
set_option maxRecDepth 20000 in
theorem gL_nights_X10_odds : GoodIn wsL_nights (wsV RL 120 RX10 yX10_odds wsX10_odds) := goodIn_app (goodIn_of _ (by decide +kernel)) ggL_nights_X10_odds
set_option maxRecDepth 20000 in
theorem ggL_nights_L_in : GoodIn wsL_nights wsL_in := goodIn_r _ [123] (by decide +kernel) (by decide +kernel)
set_option maxRecDepth 20000 in
theorem gL_nights_L_in : GoodIn wsL_nights (va_wsS RL 34 yL_in wsL_in) := goodIn_app (goodIn_of _ (by decide +kernel)) ggL_nights_L_in
set_option maxRecDepth 20000 in
theorem ggL_nights_X10_upper : GoodIn wsL_nights wsX10_upper := goodIn_r _ [127, 12, 128, 129, 130, 93, 131, 119, 168, 169, 170, 171, 172, 173, 174, 175, 176, 177, 191, 192, 193, 194, 195] (by decide +kernel) (by decide +kernel)
set_option maxRecDepth 20000 in
theorem gL_nights_X10_upper : GoodIn wsL_nights (wsV RL 123 RX10 yX10_upper wsX10_upper) := goodIn_app (goodIn_of _ (by decide +kernel)) ggL_nights_X10_upper
set_option maxRecDepth 20000 in
theorem ggL_nights_X10_lower : GoodIn wsL_nights wsX10_lower := goodIn_r _ [135, 12, 136, 137, 138, 93, 139, 120, 168, 169, 170, 171, 172, 173, 174, 175, 176, 177, 191, 192, 193, 194, 195] (by decide +kernel) (by decide +kernel)
set_option maxRecDepth 20000 in
theorem gL_nights_X10_lower : GoodIn wsL_nights (wsV RL 127 RX10 yX10_lower wsX10_lower) := goodIn_app (goodIn_of _ (by decide +kernel)) ggL_nights_X10_lower
set_option maxRecDepth 20000 in
theorem ggL_nights_X10_saw : GoodIn wsL_nights wsX10_saw := goodIn_r _ [143, 11, 72, 108, 43, 44, 24, 45, 26, 144, 145, 9, 146, 147, 148, 149, 85, 150, 87, 151, 152, 153, 154, 88, 89, 155, 168, 169, 170, 171, 172, 173, 174, 175, 176, 177, 178, 179, 180, 181, 182, 183, 184, 185, 188, 189, 190] (by decide +kernel) (by decide +kernel)
set_option maxRecDepth 20000 in
theorem gL_nights_X10_saw : GoodIn wsL_nights (wsV RL 130 RX10 yX10_saw wsX10_saw) := goodIn_app (goodIn_of _ (by decide +kernel)) ggL_nights_X10_saw
set_option maxRecDepth 20000 in
theorem ggL_nights_X10_forget : GoodIn wsL_nights wsX10_forget := goodIn_r _ [159, 72, 160, 161, 162, 85, 163, 87, 164, 165, 166, 167, 168, 169, 170, 171, 172, 173, 174, 175, 176, 177, 188, 189, 190] (by decide +kernel) (by decide +kernel)
set_option maxRecDepth 20000 in
theorem gL_nights_X10_forget : GoodIn wsL_nights (wsV RL 133 RX10 yX10_forget wsX10_forget) := goodIn_app (goodIn_of _ (by decide +kernel)) ggL_nights_X10_forget
theorem dL_nights_0 : decode cL_nights 0 = .ok (.aload_n 1, 1) := by decide +kernel
theorem dL_nights_1 : decode cL_nights 1 = .ok (.iconst 0, 1) := by decide +kernel
theorem dL_nights_2 : decode cL_nights 2 = .ok (.invokestatic 14, 3) := by decide +kernel
theorem dL_nights_5 : decode cL_nights 5 = .ok (.bipush 20, 2) := by decide +kernel
theorem dL_nights_7 : decode cL_nights 7 = .ok (.irem, 1) := by decide +kernel
theorem dL_nights_8 : decode cL_nights 8 = .ok (.istore 4, 2) := by decide +kernel
theorem dL_nights_10 : decode cL_nights 10 = .ok (.aload_n 0, 1) := by decide +kernel
theorem dL_nights_11 : decode cL_nights 11 = .ok (.iload 4, 2) := by decide +kernel
theorem dL_nights_13 : decode cL_nights 13 = .ok (.invokevirtual 117, 3) := by decide +kernel
theorem dL_nights_16 : decode cL_nights 16 = .ok (.istore 5, 2) := by decide +kernel
theorem dL_nights_18 : decode cL_nights 18 = .ok (.aload_n 0, 1) := by decide +kernel
theorem dL_nights_19 : decode cL_nights 19 = .ok (.invokevirtual 49, 3) := by decide +kernel
theorem dL_nights_22 : decode cL_nights 22 = .ok (.istore 6, 2) := by decide +kernel
theorem dL_nights_24 : decode cL_nights 24 = .ok (.iload 5, 2) := by decide +kernel
theorem dL_nights_26 : decode cL_nights 26 = .ok (.ifCond .lt 17, 3) := by decide +kernel
theorem dL_nights_29 : decode cL_nights 29 = .ok (.iload 6, 2) := by decide +kernel
theorem dL_nights_31 : decode cL_nights 31 = .ok (.ifCond .ne 12, 3) := by decide +kernel
theorem dL_nights_34 : decode cL_nights 34 = .ok (.iload 5, 2) := by decide +kernel
theorem dL_nights_36 : decode cL_nights 36 = .ok (.iload_n 3, 1) := by decide +kernel
theorem dL_nights_37 : decode cL_nights 37 = .ok (.iconst (-1), 1) := by decide +kernel
theorem dL_nights_38 : decode cL_nights 38 = .ok (.ixor, 1) := by decide +kernel
theorem dL_nights_39 : decode cL_nights 39 = .ok (.iand, 1) := by decide +kernel
theorem dL_nights_40 : decode cL_nights 40 = .ok (.ifCond .eq 5, 3) := by decide +kernel
theorem dL_nights_43 : decode cL_nights 43 = .ok (.iconst 0, 1) := by decide +kernel
theorem dL_nights_44 : decode cL_nights 44 = .ok (.ireturn, 1) := by decide +kernel
theorem dL_nights_45 : decode cL_nights 45 = .ok (.aload_n 1, 1) := by decide +kernel
theorem dL_nights_46 : decode cL_nights 46 = .ok (.iconst 1, 1) := by decide +kernel
theorem dL_nights_47 : decode cL_nights 47 = .ok (.invokestatic 14, 3) := by decide +kernel
theorem dL_nights_50 : decode cL_nights 50 = .ok (.iload_n 2, 1) := by decide +kernel
theorem dL_nights_51 : decode cL_nights 51 = .ok (.irem, 1) := by decide +kernel
theorem dL_nights_52 : decode cL_nights 52 = .ok (.istore 7, 2) := by decide +kernel
theorem dL_nights_54 : decode cL_nights 54 = .ok (.aload_n 1, 1) := by decide +kernel
theorem dL_nights_55 : decode cL_nights 55 = .ok (.iconst 2, 1) := by decide +kernel
theorem dL_nights_56 : decode cL_nights 56 = .ok (.invokestatic 14, 3) := by decide +kernel
theorem dL_nights_59 : decode cL_nights 59 = .ok (.iconst 2, 1) := by decide +kernel
theorem dL_nights_60 : decode cL_nights 60 = .ok (.irem, 1) := by decide +kernel
theorem dL_nights_61 : decode cL_nights 61 = .ok (.istore 8, 2) := by decide +kernel
theorem dL_nights_63 : decode cL_nights 63 = .ok (.aload_n 0, 1) := by decide +kernel
theorem dL_nights_64 : decode cL_nights 64 = .ok (.iload 4, 2) := by decide +kernel
theorem dL_nights_66 : decode cL_nights 66 = .ok (.iload 7, 2) := by decide +kernel
theorem dL_nights_68 : decode cL_nights 68 = .ok (.invokevirtual 120, 3) := by decide +kernel
theorem dL_nights_71 : decode cL_nights 71 = .ok (.istore 9, 2) := by decide +kernel
theorem dL_nights_73 : decode cL_nights 73 = .ok (.iload 9, 2) := by decide +kernel
theorem dL_nights_75 : decode cL_nights 75 = .ok (.ifCond .lt 58, 3) := by decide +kernel
theorem dL_nights_78 : decode cL_nights 78 = .ok (.iload 9, 2) := by decide +kernel
theorem dL_nights_80 : decode cL_nights 80 = .ok (.ifCond .le 7, 3) := by decide +kernel
theorem dL_nights_83 : decode cL_nights 83 = .ok (.iconst 1, 1) := by decide +kernel
theorem dL_nights_84 : decode cL_nights 84 = .ok (.goto 4, 3) := by decide +kernel
theorem dL_nights_87 : decode cL_nights 87 = .ok (.iconst 0, 1) := by decide +kernel
theorem dL_nights_88 : decode cL_nights 88 = .ok (.iload 5, 2) := by decide +kernel
theorem dL_nights_90 : decode cL_nights 90 = .ok (.iload 7, 2) := by decide +kernel
theorem dL_nights_92 : decode cL_nights 92 = .ok (.invokestatic 34, 3) := by decide +kernel
theorem dL_nights_95 : decode cL_nights 95 = .ok (.if_icmp .ne 38, 3) := by decide +kernel
theorem dL_nights_98 : decode cL_nights 98 = .ok (.aload_n 0, 1) := by decide +kernel
theorem dL_nights_99 : decode cL_nights 99 = .ok (.invokevirtual 123, 3) := by decide +kernel
theorem dL_nights_102 : decode cL_nights 102 = .ok (.aload_n 0, 1) := by decide +kernel
theorem dL_nights_103 : decode cL_nights 103 = .ok (.invokevirtual 127, 3) := by decide +kernel
theorem dL_nights_106 : decode cL_nights 106 = .ok (.lcmp, 1) := by decide +kernel
theorem dL_nights_107 : decode cL_nights 107 = .ok (.ifCond .gt 26, 3) := by decide +kernel
theorem dL_nights_110 : decode cL_nights 110 = .ok (.aload_n 0, 1) := by decide +kernel
theorem dL_nights_111 : decode cL_nights 111 = .ok (.invokevirtual 123, 3) := by decide +kernel
theorem dL_nights_114 : decode cL_nights 114 = .ok (.aload_n 0, 1) := by decide +kernel
theorem dL_nights_115 : decode cL_nights 115 = .ok (.invokevirtual 127, 3) := by decide +kernel
theorem dL_nights_118 : decode cL_nights 118 = .ok (.lcmp, 1) := by decide +kernel
theorem dL_nights_119 : decode cL_nights 119 = .ok (.ifCond .eq 14, 3) := by decide +kernel
theorem dL_nights_122 : decode cL_nights 122 = .ok (.aload_n 0, 1) := by decide +kernel
theorem dL_nights_123 : decode cL_nights 123 = .ok (.iload 7, 2) := by decide +kernel
theorem dL_nights_125 : decode cL_nights 125 = .ok (.iload 8, 2) := by decide +kernel
theorem dL_nights_127 : decode cL_nights 127 = .ok (.invokevirtual 130, 3) := by decide +kernel
theorem dL_nights_130 : decode cL_nights 130 = .ok (.ifCond .eq 5, 3) := by decide +kernel
theorem dL_nights_133 : decode cL_nights 133 = .ok (.iconst 0, 1) := by decide +kernel
theorem dL_nights_134 : decode cL_nights 134 = .ok (.ireturn, 1) := by decide +kernel
theorem dL_nights_135 : decode cL_nights 135 = .ok (.aload_n 0, 1) := by decide +kernel
theorem dL_nights_136 : decode cL_nights 136 = .ok (.iload 4, 2) := by decide +kernel
theorem dL_nights_138 : decode cL_nights 138 = .ok (.invokevirtual 117, 3) := by decide +kernel
theorem dL_nights_141 : decode cL_nights 141 = .ok (.istore 10, 2) := by decide +kernel
theorem dL_nights_143 : decode cL_nights 143 = .ok (.aload_n 0, 1) := by decide +kernel
theorem dL_nights_144 : decode cL_nights 144 = .ok (.invokevirtual 49, 3) := by decide +kernel
theorem dL_nights_147 : decode cL_nights 147 = .ok (.istore 11, 2) := by decide +kernel
theorem dL_nights_149 : decode cL_nights 149 = .ok (.iload 8, 2) := by decide +kernel
theorem dL_nights_151 : decode cL_nights 151 = .ok (.iconst 1, 1) := by decide +kernel
theorem dL_nights_152 : decode cL_nights 152 = .ok (.if_icmp .ne 26, 3) := by decide +kernel
theorem dL_nights_155 : decode cL_nights 155 = .ok (.iload 10, 2) := by decide +kernel
theorem dL_nights_157 : decode cL_nights 157 = .ok (.ifCond .lt 7, 3) := by decide +kernel
theorem dL_nights_160 : decode cL_nights 160 = .ok (.iconst 1, 1) := by decide +kernel
theorem dL_nights_161 : decode cL_nights 161 = .ok (.goto 4, 3) := by decide +kernel
theorem dL_nights_164 : decode cL_nights 164 = .ok (.iconst 0, 1) := by decide +kernel
theorem dL_nights_165 : decode cL_nights 165 = .ok (.iload 9, 2) := by decide +kernel
theorem dL_nights_167 : decode cL_nights 167 = .ok (.ifCond .le 7, 3) := by decide +kernel
theorem dL_nights_170 : decode cL_nights 170 = .ok (.iconst 1, 1) := by decide +kernel
theorem dL_nights_171 : decode cL_nights 171 = .ok (.goto 4, 3) := by decide +kernel
theorem dL_nights_174 : decode cL_nights 174 = .ok (.iconst 0, 1) := by decide +kernel
theorem dL_nights_175 : decode cL_nights 175 = .ok (.if_icmp .ne 80, 3) := by decide +kernel
theorem dL_nights_178 : decode cL_nights 178 = .ok (.iload 8, 2) := by decide +kernel
theorem dL_nights_180 : decode cL_nights 180 = .ok (.ifCond .ne 8, 3) := by decide +kernel
theorem dL_nights_183 : decode cL_nights 183 = .ok (.iload 10, 2) := by decide +kernel
theorem dL_nights_185 : decode cL_nights 185 = .ok (.ifCond .lt 70, 3) := by decide +kernel
theorem dL_nights_188 : decode cL_nights 188 = .ok (.iload 10, 2) := by decide +kernel
theorem dL_nights_190 : decode cL_nights 190 = .ok (.ifCond .lt 67, 3) := by decide +kernel
theorem dL_nights_193 : decode cL_nights 193 = .ok (.iload 10, 2) := by decide +kernel
theorem dL_nights_195 : decode cL_nights 195 = .ok (.iload 5, 2) := by decide +kernel
theorem dL_nights_197 : decode cL_nights 197 = .ok (.iconst (-1), 1) := by decide +kernel
theorem dL_nights_198 : decode cL_nights 198 = .ok (.ixor, 1) := by decide +kernel
theorem dL_nights_199 : decode cL_nights 199 = .ok (.iand, 1) := by decide +kernel
theorem dL_nights_200 : decode cL_nights 200 = .ok (.ifCond .ne 55, 3) := by decide +kernel
theorem dL_nights_203 : decode cL_nights 203 = .ok (.iload 11, 2) := by decide +kernel
theorem dL_nights_205 : decode cL_nights 205 = .ok (.iload 10, 2) := by decide +kernel
theorem dL_nights_207 : decode cL_nights 207 = .ok (.iconst (-1), 1) := by decide +kernel
theorem dL_nights_208 : decode cL_nights 208 = .ok (.ixor, 1) := by decide +kernel
theorem dL_nights_209 : decode cL_nights 209 = .ok (.iand, 1) := by decide +kernel
theorem dL_nights_210 : decode cL_nights 210 = .ok (.ifCond .ne 45, 3) := by decide +kernel
theorem dL_nights_213 : decode cL_nights 213 = .ok (.iload 10, 2) := by decide +kernel
theorem dL_nights_215 : decode cL_nights 215 = .ok (.iload 7, 2) := by decide +kernel
theorem dL_nights_217 : decode cL_nights 217 = .ok (.invokestatic 34, 3) := by decide +kernel
theorem dL_nights_220 : decode cL_nights 220 = .ok (.iload 8, 2) := by decide +kernel
theorem dL_nights_222 : decode cL_nights 222 = .ok (.iconst 1, 1) := by decide +kernel
theorem dL_nights_223 : decode cL_nights 223 = .ok (.if_icmp .ne 7, 3) := by decide +kernel
theorem dL_nights_226 : decode cL_nights 226 = .ok (.iconst 1, 1) := by decide +kernel
theorem dL_nights_227 : decode cL_nights 227 = .ok (.goto 4, 3) := by decide +kernel
theorem dL_nights_230 : decode cL_nights 230 = .ok (.iconst 0, 1) := by decide +kernel
theorem dL_nights_231 : decode cL_nights 231 = .ok (.if_icmp .ne 24, 3) := by decide +kernel
theorem dL_nights_234 : decode cL_nights 234 = .ok (.iload 11, 2) := by decide +kernel
theorem dL_nights_236 : decode cL_nights 236 = .ok (.iload 7, 2) := by decide +kernel
theorem dL_nights_238 : decode cL_nights 238 = .ok (.invokestatic 34, 3) := by decide +kernel
theorem dL_nights_241 : decode cL_nights 241 = .ok (.iload 8, 2) := by decide +kernel
theorem dL_nights_243 : decode cL_nights 243 = .ok (.iconst 1, 1) := by decide +kernel
theorem dL_nights_244 : decode cL_nights 244 = .ok (.if_icmp .ne 7, 3) := by decide +kernel
theorem dL_nights_247 : decode cL_nights 247 = .ok (.iconst 1, 1) := by decide +kernel
theorem dL_nights_248 : decode cL_nights 248 = .ok (.goto 4, 3) := by decide +kernel
theorem dL_nights_251 : decode cL_nights 251 = .ok (.iconst 0, 1) := by decide +kernel
theorem dL_nights_252 : decode cL_nights 252 = .ok (.if_icmp .eq 5, 3) := by decide +kernel
theorem dL_nights_255 : decode cL_nights 255 = .ok (.iconst 0, 1) := by decide +kernel
theorem dL_nights_256 : decode cL_nights 256 = .ok (.ireturn, 1) := by decide +kernel
theorem dL_nights_257 : decode cL_nights 257 = .ok (.aload_n 0, 1) := by decide +kernel
theorem dL_nights_258 : decode cL_nights 258 = .ok (.bipush 99, 2) := by decide +kernel
theorem dL_nights_260 : decode cL_nights 260 = .ok (.invokevirtual 117, 3) := by decide +kernel
theorem dL_nights_263 : decode cL_nights 263 = .ok (.bipush (-9), 2) := by decide +kernel
theorem dL_nights_265 : decode cL_nights 265 = .ok (.if_icmp .lt 27, 3) := by decide +kernel
theorem dL_nights_268 : decode cL_nights 268 = .ok (.aload_n 0, 1) := by decide +kernel
theorem dL_nights_269 : decode cL_nights 269 = .ok (.iconst 0, 1) := by decide +kernel
theorem dL_nights_270 : decode cL_nights 270 = .ok (.invokevirtual 133, 3) := by decide +kernel
theorem dL_nights_273 : decode cL_nights 273 = .ok (.iconst 1, 1) := by decide +kernel
theorem dL_nights_274 : decode cL_nights 274 = .ok (.if_icmp .ne 18, 3) := by decide +kernel
theorem dL_nights_277 : decode cL_nights 277 = .ok (.aload_n 0, 1) := by decide +kernel
theorem dL_nights_278 : decode cL_nights 278 = .ok (.iload 4, 2) := by decide +kernel
theorem dL_nights_280 : decode cL_nights 280 = .ok (.invokevirtual 117, 3) := by decide +kernel
theorem dL_nights_283 : decode cL_nights 283 = .ok (.iload 5, 2) := by decide +kernel
theorem dL_nights_285 : decode cL_nights 285 = .ok (.if_icmp .ne 7, 3) := by decide +kernel
theorem dL_nights_288 : decode cL_nights 288 = .ok (.iconst 1, 1) := by decide +kernel
theorem dL_nights_289 : decode cL_nights 289 = .ok (.goto 4, 3) := by decide +kernel
theorem dL_nights_292 : decode cL_nights 292 = .ok (.iconst 0, 1) := by decide +kernel
theorem dL_nights_293 : decode cL_nights 293 = .ok (.ireturn, 1) := by decide +kernel
set_option maxRecDepth 20000 in
theorem ggL_friends_X10_quarrel : GoodIn wsL_friends wsX10_quarrel := goodIn_r _ [5, 6, 7, 8, 9, 10, 11, 12, 13, 14, 4, 15, 16, 17, 18, 19, 20, 21, 22, 23, 24, 25, 358, 359, 360, 361, 362, 363, 364, 365, 366, 367, 368, 369, 370, 371, 372, 373, 374, 375] (by decide +kernel) (by decide +kernel)
set_option maxRecDepth 20000 in
theorem gL_friends_X10_quarrel : GoodIn wsL_friends (wsV RL 136 RX10 yX10_quarrel wsX10_quarrel) := goodIn_app (goodIn_of _ (by decide +kernel)) ggL_friends_X10_quarrel
set_option maxRecDepth 20000 in
theorem ggL_friends_X10_count : GoodIn wsL_friends wsX10_count := goodIn_r _ [29, 6, 30, 31, 32, 33, 34, 35, 36, 10, 37, 12, 38, 39, 40, 41, 42, 43, 44, 45, 46, 47, 48, 49, 50, 51, 52, 53, 54, 55, 56, 57, 58, 59, 21, 8, 9, 11, 60, 61, 62, 63, 20, 64, 65, 66, 67, 68, 69, 70, 71, 72, 73, 74, 75, 76, 77, 78, 79, 80, 81, 82, 83, 84, 85, 86, 87, 88, 89, 90, 91, 92, 93, 94, 95, 96, 97, 98, 99, 100, 101, 102, 103, 104, 105, 106, 358, 359, 360, 361, 362, 363, 364, 365, 366, 367, 368, 369, 370, 371, 372, 373, 374, 375, 376, 377, 378, 379, 380, 381, 382, 383, 384, 385, 386] (by decide +kernel) (by decide +kernel)
set_option maxRecDepth 20000 in
theorem gL_friends_X10_count : GoodIn wsL_friends (wsV RL 139 RX10 yX10_count wsX10_count) := goodIn_app (goodIn_of _ (by decide +kernel)) ggL_friends_X10_count
set_option maxRecDepth 20000 in
theorem ggL_friends_X10_reached : GoodIn wsL_friends wsX10_reached := goodIn_r _ [110, 111, 112, 113, 114, 115, 4, 116, 6, 117, 118, 119, 10, 120, 12, 121, 122, 123, 124, 125, 126, 127, 128, 129, 130, 131, 59, 132, 133, 134, 21, 8, 9, 11, 55, 56, 57, 58, 64, 45, 46, 47, 48, 49, 50, 135, 136, 137, 138, 20, 139, 140, 141, 142, 143, 144, 145, 146, 147, 148, 149, 150, 151, 152, 153, 154, 155, 156, 157, 158, 159, 160, 161, 162, 163, 164, 165, 166, 167, 168, 169, 170, 171, 172, 358, 359, 360, 361, 362, 363, 364, 365, 366, 367, 368, 369, 370, 371, 372, 373, 374, 375, 387, 388, 389, 390, 391, 392, 393] (by decide +kernel) (by decide +kernel)
set_option maxRecDepth 20000 in
theorem gL_friends_X10_reached : GoodIn wsL_friends (wsV RL 61 RX10 yX10_reached wsX10_reached) := goodIn_app (goodIn_of _ (by decide +kernel)) ggL_friends_X10_reached
set_option maxRecDepth 20000 in
theorem ggL_friends_X10_row : GoodIn wsL_friends wsX10_row := goodIn_r _ [176, 32, 111, 177, 86, 87, 74, 88, 178, 179, 180, 166, 181, 182, 183, 184, 185, 186, 187, 84, 188, 85, 358, 359, 360, 361, 362, 363, 364, 365, 366, 367, 389, 390, 391, 392, 393, 383, 384] (by decide +kernel) (by decide +kernel)
set_option maxRecDepth 20000 in
theorem gL_friends_X10_row : GoodIn wsL_friends (wsV RL 142 RX10 yX10_row wsX10_row) := goodIn_app (goodIn_of _ (by decide +kernel)) ggL_friends_X10_row
set_option maxRecDepth 20000 in
theorem ggL_friends_X10_lay : GoodIn wsL_friends wsX10_lay := goodIn_r _ [192, 111, 32, 193, 194, 195, 4, 196, 197, 198, 199, 200, 177, 86, 87, 74, 88, 201, 77, 78, 79, 80, 81, 82, 83, 84, 85, 178, 179, 180, 166, 181, 182, 183, 202, 203, 204, 205, 206, 207, 208, 209, 188, 210, 163, 164, 165, 167, 168, 211, 212, 213, 214, 358, 359, 360, 361, 362, 363, 364, 365, 366, 367, 383, 384, 389, 390, 391, 392, 393] (by decide +kernel) (by decide +kernel)
set_option maxRecDepth 20000 in
theorem gL_friends_X10_lay : GoodIn wsL_friends (wsV RL 145 RX10 yX10_lay wsX10_lay) := goodIn_app (goodIn_of _ (by decide +kernel)) ggL_friends_X10_lay
set_option maxRecDepth 20000 in
theorem ggL_friends_X10_digest : GoodIn wsL_friends wsX10_digest := goodIn_r _ [218, 219, 220, 30, 6, 31, 32, 33, 221, 27, 28, 4, 29, 34, 35, 36, 10, 37, 12, 38, 39, 40, 41, 42, 43, 44, 45, 46, 47, 48, 49, 50, 51, 52, 53, 54, 55, 56, 57, 58, 59, 21, 8, 9, 11, 60, 61, 62, 63, 20, 64, 65, 66, 67, 68, 69, 70, 71, 72, 73, 74, 75, 76, 77, 78, 79, 80, 81, 82, 83, 84, 85, 86, 87, 88, 89, 90, 91, 92, 93, 94, 95, 96, 97, 98, 99, 100, 101, 102, 103, 104, 105, 106, 222, 223, 224, 225, 226, 227, 228, 229, 230, 231, 232, 233, 234, 235, 236, 237, 238, 239, 133, 134, 132, 240, 241, 242, 243, 244, 245, 246, 247, 248, 249, 250, 251, 252, 253, 254, 255, 256, 257, 258, 259, 260, 261, 262, 263, 264, 265, 266, 267, 207, 208, 209, 188, 210, 203, 204, 205, 268, 269, 270, 271, 272, 273, 274, 275, 276, 277, 278, 279, 280, 281, 358, 359, 360, 361, 362, 363, 364, 365, 366, 367, 368, 369, 370, 371, 372, 373, 374, 375, 376, 377, 378, 379, 380, 381, 382, 383, 384, 385, 386] (by decide +kernel) (by decide +kernel)
set_option maxRecDepth 20000 in
theorem gL_friends_X10_digest : GoodIn wsL_friends (wsV RL 148 RX10 yX10_digest wsX10_digest) := goodIn_app (goodIn_of _ (by decide +kernel)) ggL_friends_X10_digest
set_option maxRecDepth 20000 in
theorem ggL_friends_X10_trades : GoodIn wsL_friends wsX10_trades := goodIn_r _ [285, 286, 6, 287, 288, 289, 290, 291, 292, 293, 294, 118, 119, 10, 120, 12, 295, 122, 123, 124, 125, 126, 127, 128, 129, 130, 131, 59, 132, 133, 134, 21, 8, 9, 11, 55, 56, 57, 58, 64, 45, 46, 47, 48, 49, 50, 135, 136, 137, 138, 20, 139, 140, 141, 142, 143, 144, 296, 297, 298, 299, 300, 301, 302, 303, 304, 305, 306, 307, 153, 154, 155, 156, 308, 35, 36, 37, 309, 310, 311, 312, 313, 314, 315, 316, 317, 318, 319, 320, 321, 322, 323, 324, 325, 326, 327, 328, 329, 330, 331, 332, 358, 359, 360, 361, 362, 363, 364, 365, 366, 367, 394, 395, 396, 397, 368, 369, 370, 371, 372, 373, 374, 375, 387, 388] (by decide +kernel) (by decide +kernel)
set_option maxRecDepth 20000 in
theorem gL_friends_X10_trades : GoodIn wsL_friends (wsV RL 151 RX10 yX10_trades wsX10_trades) := goodIn_app (goodIn_of _ (by decide +kernel)) ggL_friends_X10_trades
set_option maxRecDepth 20000 in
theorem ggL_friends_X10_door : GoodIn wsL_friends wsX10_door := goodIn_r _ [336, 6, 111, 7, 8, 9, 10, 11, 12, 337, 237, 238, 239, 59, 133, 134, 132, 21, 163, 164, 165, 166, 167, 168, 358, 359, 360, 361, 362, 363, 364, 365, 366, 367, 368, 369, 370, 371, 372, 373, 374, 375, 389, 390, 391, 392, 393] (by decide +kernel) (by decide +kernel)
set_option maxRecDepth 20000 in
theorem gL_friends_X10_door : GoodIn wsL_friends (wsV RL 154 RX10 yX10_door wsX10_door) := goodIn_app (goodIn_of _ (by decide +kernel)) ggL_friends_X10_door
set_option maxRecDepth 20000 in
theorem ggL_friends_L_tells : GoodIn wsL_friends wsL_tells := goodIn_r _ [341, 342, 343, 344, 4, 345, 111, 346, 347, 348, 166, 349, 168, 358, 359, 360, 361, 362, 363, 364, 365, 366, 367, 389, 390, 391, 392, 393] (by decide +kernel) (by decide +kernel)
set_option maxRecDepth 20000 in
theorem gL_friends_L_tells : GoodIn wsL_friends (va_wsS RL 157 yL_tells wsL_tells) := goodIn_app (goodIn_of _ (by decide +kernel)) ggL_friends_L_tells
set_option maxRecDepth 20000 in
theorem ggL_friends_X10_dealt : GoodIn wsL_friends wsX10_dealt := goodIn_r _ [353, 32, 6, 111, 197, 198, 199, 4, 200, 177, 86, 87, 74, 88, 201, 77, 78, 79, 80, 81, 82, 83, 84, 85, 178, 179, 180, 166, 181, 182, 183, 354, 34, 35, 36, 10, 37, 12, 355, 56, 57, 58, 59, 21, 8, 9, 11, 206, 207, 208, 209, 188, 210, 203, 204, 205, 356, 318, 319, 320, 134, 357, 326, 327, 328, 133, 358, 359, 360, 361, 362, 363, 364, 365, 366, 367, 383, 384, 389, 390, 391, 392, 393, 368, 369, 370, 371, 372, 373, 374, 375] (by decide +kernel) (by decide +kernel)
set_option maxRecDepth 20000 in
theorem gL_friends_X10_dealt : GoodIn wsL_friends (wsV RL 161 RX10 yX10_dealt wsX10_dealt) := goodIn_app (goodIn_of _ (by decide +kernel)) ggL_friends_X10_dealt
theorem dL_friends_0 : decode cL_friends 0 = .ok (.iconst 0, 1) := by decide +kernel
theorem dL_friends_1 : decode cL_friends 1 = .ok (.istore 5, 2) := by decide +kernel
theorem dL_friends_3 : decode cL_friends 3 = .ok (.iload 5, 2) := by decide +kernel
theorem dL_friends_5 : decode cL_friends 5 = .ok (.iload_n 3, 1) := by decide +kernel
theorem dL_friends_6 : decode cL_friends 6 = .ok (.if_icmp .ge 63, 3) := by decide +kernel
theorem dL_friends_9 : decode cL_friends 9 = .ok (.iconst 0, 1) := by decide +kernel
theorem dL_friends_10 : decode cL_friends 10 = .ok (.istore 6, 2) := by decide +kernel
theorem dL_friends_12 : decode cL_friends 12 = .ok (.iload 6, 2) := by decide +kernel
theorem dL_friends_14 : decode cL_friends 14 = .ok (.iload 5, 2) := by decide +kernel
theorem dL_friends_16 : decode cL_friends 16 = .ok (.if_icmp .ge 47, 3) := by decide +kernel
theorem dL_friends_19 : decode cL_friends 19 = .ok (.aload_n 0, 1) := by decide +kernel
theorem dL_friends_20 : decode cL_friends 20 = .ok (.iload 5, 2) := by decide +kernel
theorem dL_friends_22 : decode cL_friends 22 = .ok (.iload 6, 2) := by decide +kernel
theorem dL_friends_24 : decode cL_friends 24 = .ok (.iconst 0, 1) := by decide +kernel
theorem dL_friends_25 : decode cL_friends 25 = .ok (.invokevirtual 136, 3) := by decide +kernel
theorem dL_friends_28 : decode cL_friends 28 = .ok (.aload_n 2, 1) := by decide +kernel
theorem dL_friends_29 : decode cL_friends 29 = .ok (.bipush 33, 2) := by decide +kernel
theorem dL_friends_31 : decode cL_friends 31 = .ok (.iload 5, 2) := by decide +kernel
theorem dL_friends_33 : decode cL_friends 33 = .ok (.iadd, 1) := by decide +kernel
theorem dL_friends_34 : decode cL_friends 34 = .ok (.iaload, 1) := by decide +kernel
theorem dL_friends_35 : decode cL_friends 35 = .ok (.iload 6, 2) := by decide +kernel
theorem dL_friends_37 : decode cL_friends 37 = .ok (.ishr, 1) := by decide +kernel
theorem dL_friends_38 : decode cL_friends 38 = .ok (.iconst 1, 1) := by decide +kernel
theorem dL_friends_39 : decode cL_friends 39 = .ok (.iand, 1) := by decide +kernel
theorem dL_friends_40 : decode cL_friends 40 = .ok (.if_icmp .ne 15, 3) := by decide +kernel
theorem dL_friends_43 : decode cL_friends 43 = .ok (.aload_n 0, 1) := by decide +kernel
theorem dL_friends_44 : decode cL_friends 44 = .ok (.iload 6, 2) := by decide +kernel
theorem dL_friends_46 : decode cL_friends 46 = .ok (.iload 5, 2) := by decide +kernel
theorem dL_friends_48 : decode cL_friends 48 = .ok (.iconst 0, 1) := by decide +kernel
theorem dL_friends_49 : decode cL_friends 49 = .ok (.invokevirtual 136, 3) := by decide +kernel
theorem dL_friends_52 : decode cL_friends 52 = .ok (.ifCond .eq 5, 3) := by decide +kernel
theorem dL_friends_55 : decode cL_friends 55 = .ok (.iconst 0, 1) := by decide +kernel
theorem dL_friends_56 : decode cL_friends 56 = .ok (.ireturn, 1) := by decide +kernel
theorem dL_friends_57 : decode cL_friends 57 = .ok (.iinc 6 1, 3) := by decide +kernel
theorem dL_friends_60 : decode cL_friends 60 = .ok (.goto (-48), 3) := by decide +kernel
theorem dL_friends_63 : decode cL_friends 63 = .ok (.iinc 5 1, 3) := by decide +kernel
theorem dL_friends_66 : decode cL_friends 66 = .ok (.goto (-63), 3) := by decide +kernel
theorem dL_friends_69 : decode cL_friends 69 = .ok (.aload_n 0, 1) := by decide +kernel
theorem dL_friends_70 : decode cL_friends 70 = .ok (.iconst 4, 1) := by decide +kernel
theorem dL_friends_71 : decode cL_friends 71 = .ok (.invokevirtual 139, 3) := by decide +kernel
theorem dL_friends_74 : decode cL_friends 74 = .ok (.ifCond .ne 12, 3) := by decide +kernel
theorem dL_friends_77 : decode cL_friends 77 = .ok (.aload_n 0, 1) := by decide +kernel
theorem dL_friends_78 : decode cL_friends 78 = .ok (.invokevirtual 61, 3) := by decide +kernel
theorem dL_friends_81 : decode cL_friends 81 = .ok (.iload 4, 2) := by decide +kernel
theorem dL_friends_83 : decode cL_friends 83 = .ok (.if_icmp .ge 5, 3) := by decide +kernel
theorem dL_friends_86 : decode cL_friends 86 = .ok (.iconst 0, 1) := by decide +kernel
theorem dL_friends_87 : decode cL_friends 87 = .ok (.ireturn, 1) := by decide +kernel
theorem dL_friends_88 : decode cL_friends 88 = .ok (.aload_n 0, 1) := by decide +kernel
theorem dL_friends_89 : decode cL_friends 89 = .ok (.invokevirtual 61, 3) := by decide +kernel
theorem dL_friends_92 : decode cL_friends 92 = .ok (.istore 5, 2) := by decide +kernel
theorem dL_friends_94 : decode cL_friends 94 = .ok (.aload_n 0, 1) := by decide +kernel
theorem dL_friends_95 : decode cL_friends 95 = .ok (.iconst 4, 1) := by decide +kernel
theorem dL_friends_96 : decode cL_friends 96 = .ok (.iload_n 3, 1) := by decide +kernel
theorem dL_friends_97 : decode cL_friends 97 = .ok (.invokevirtual 142, 3) := by decide +kernel
theorem dL_friends_100 : decode cL_friends 100 = .ok (.iload_n 3, 1) := by decide +kernel
theorem dL_friends_101 : decode cL_friends 101 = .ok (.if_icmp .eq 5, 3) := by decide +kernel
theorem dL_friends_104 : decode cL_friends 104 = .ok (.iconst 0, 1) := by decide +kernel
theorem dL_friends_105 : decode cL_friends 105 = .ok (.ireturn, 1) := by decide +kernel
theorem dL_friends_106 : decode cL_friends 106 = .ok (.iconst 0, 1) := by decide +kernel
theorem dL_friends_107 : decode cL_friends 107 = .ok (.istore 6, 2) := by decide +kernel
theorem dL_friends_109 : decode cL_friends 109 = .ok (.iload 6, 2) := by decide +kernel
theorem dL_friends_111 : decode cL_friends 111 = .ok (.iload_n 3, 1) := by decide +kernel
theorem dL_friends_112 : decode cL_friends 112 = .ok (.if_icmp .ge 30, 3) := by decide +kernel
theorem dL_friends_115 : decode cL_friends 115 = .ok (.aload_n 0, 1) := by decide +kernel
theorem dL_friends_116 : decode cL_friends 116 = .ok (.iconst 4, 1) := by decide +kernel
theorem dL_friends_117 : decode cL_friends 117 = .ok (.iload 6, 2) := by decide +kernel
theorem dL_friends_119 : decode cL_friends 119 = .ok (.aload_n 2, 1) := by decide +kernel
theorem dL_friends_120 : decode cL_friends 120 = .ok (.iconst 2, 1) := by decide +kernel
theorem dL_friends_121 : decode cL_friends 121 = .ok (.iconst 4, 1) := by decide +kernel
theorem dL_friends_122 : decode cL_friends 122 = .ok (.iload 6, 2) := by decide +kernel
theorem dL_friends_124 : decode cL_friends 124 = .ok (.imul, 1) := by decide +kernel
theorem dL_friends_125 : decode cL_friends 125 = .ok (.iadd, 1) := by decide +kernel
theorem dL_friends_126 : decode cL_friends 126 = .ok (.iaload, 1) := by decide +kernel
theorem dL_friends_127 : decode cL_friends 127 = .ok (.invokevirtual 145, 3) := by decide +kernel
theorem dL_friends_130 : decode cL_friends 130 = .ok (.iconst 1, 1) := by decide +kernel
theorem dL_friends_131 : decode cL_friends 131 = .ok (.if_icmp .eq 5, 3) := by decide +kernel
theorem dL_friends_134 : decode cL_friends 134 = .ok (.iconst 0, 1) := by decide +kernel
theorem dL_friends_135 : decode cL_friends 135 = .ok (.ireturn, 1) := by decide +kernel
theorem dL_friends_136 : decode cL_friends 136 = .ok (.iinc 6 1, 3) := by decide +kernel
theorem dL_friends_139 : decode cL_friends 139 = .ok (.goto (-30), 3) := by decide +kernel
theorem dL_friends_142 : decode cL_friends 142 = .ok (.aload_n 0, 1) := by decide +kernel
theorem dL_friends_143 : decode cL_friends 143 = .ok (.invokevirtual 148, 3) := by decide +kernel
theorem dL_friends_146 : decode cL_friends 146 = .ok (.lstore 6, 2) := by decide +kernel
theorem dL_friends_148 : decode cL_friends 148 = .ok (.aload_n 0, 1) := by decide +kernel
theorem dL_friends_149 : decode cL_friends 149 = .ok (.invokevirtual 151, 3) := by decide +kernel
theorem dL_friends_152 : decode cL_friends 152 = .ok (.istore 8, 2) := by decide +kernel
theorem dL_friends_154 : decode cL_friends 154 = .ok (.iload 8, 2) := by decide +kernel
theorem dL_friends_156 : decode cL_friends 156 = .ok (.ifCond .lt 44, 3) := by decide +kernel
theorem dL_friends_159 : decode cL_friends 159 = .ok (.iload 8, 2) := by decide +kernel
theorem dL_friends_161 : decode cL_friends 161 = .ok (.bipush 20, 2) := by decide +kernel
theorem dL_friends_163 : decode cL_friends 163 = .ok (.if_icmp .gt 37, 3) := by decide +kernel
theorem dL_friends_166 : decode cL_friends 166 = .ok (.iload 8, 2) := by decide +kernel
theorem dL_friends_168 : decode cL_friends 168 = .ok (.ifCond .ne 13, 3) := by decide +kernel
theorem dL_friends_171 : decode cL_friends 171 = .ok (.aload_n 0, 1) := by decide +kernel
theorem dL_friends_172 : decode cL_friends 172 = .ok (.invokevirtual 148, 3) := by decide +kernel
theorem dL_friends_175 : decode cL_friends 175 = .ok (.lload 6, 2) := by decide +kernel
theorem dL_friends_177 : decode cL_friends 177 = .ok (.lcmp, 1) := by decide +kernel
theorem dL_friends_178 : decode cL_friends 178 = .ok (.ifCond .ne 22, 3) := by decide +kernel
theorem dL_friends_181 : decode cL_friends 181 = .ok (.iload 8, 2) := by decide +kernel
theorem dL_friends_183 : decode cL_friends 183 = .ok (.ifCond .le 19, 3) := by decide +kernel
theorem dL_friends_186 : decode cL_friends 186 = .ok (.iload 8, 2) := by decide +kernel
theorem dL_friends_188 : decode cL_friends 188 = .ok (.bipush 20, 2) := by decide +kernel
theorem dL_friends_190 : decode cL_friends 190 = .ok (.if_icmp .ge 12, 3) := by decide +kernel
theorem dL_friends_193 : decode cL_friends 193 = .ok (.aload_n 0, 1) := by decide +kernel
theorem dL_friends_194 : decode cL_friends 194 = .ok (.invokevirtual 151, 3) := by decide +kernel
theorem dL_friends_197 : decode cL_friends 197 = .ok (.ifCond .eq 5, 3) := by decide +kernel
theorem dL_friends_200 : decode cL_friends 200 = .ok (.iconst 0, 1) := by decide +kernel
theorem dL_friends_201 : decode cL_friends 201 = .ok (.ireturn, 1) := by decide +kernel
theorem dL_friends_202 : decode cL_friends 202 = .ok (.iconst 0, 1) := by decide +kernel
theorem dL_friends_203 : decode cL_friends 203 = .ok (.istore 9, 2) := by decide +kernel
theorem dL_friends_205 : decode cL_friends 205 = .ok (.iconst 0, 1) := by decide +kernel
theorem dL_friends_206 : decode cL_friends 206 = .ok (.istore 10, 2) := by decide +kernel
theorem dL_friends_208 : decode cL_friends 208 = .ok (.iconst 0, 1) := by decide +kernel
theorem dL_friends_209 : decode cL_friends 209 = .ok (.istore 11, 2) := by decide +kernel
theorem dL_friends_211 : decode cL_friends 211 = .ok (.iload 11, 2) := by decide +kernel
theorem dL_friends_213 : decode cL_friends 213 = .ok (.iload_n 3, 1) := by decide +kernel
theorem dL_friends_214 : decode cL_friends 214 = .ok (.if_icmp .ge 129, 3) := by decide +kernel
theorem dL_friends_217 : decode cL_friends 217 = .ok (.aload_n 0, 1) := by decide +kernel
theorem dL_friends_218 : decode cL_friends 218 = .ok (.aload_n 0, 1) := by decide +kernel
theorem dL_friends_219 : decode cL_friends 219 = .ok (.iload 11, 2) := by decide +kernel
theorem dL_friends_221 : decode cL_friends 221 = .ok (.iconst 1, 1) := by decide +kernel
theorem dL_friends_222 : decode cL_friends 222 = .ok (.invokevirtual 154, 3) := by decide +kernel
theorem dL_friends_225 : decode cL_friends 225 = .ok (.invokestatic 157, 3) := by decide +kernel
theorem dL_friends_228 : decode cL_friends 228 = .ok (.istore 12, 2) := by decide +kernel
theorem dL_friends_230 : decode cL_friends 230 = .ok (.iload 9, 2) := by decide +kernel
theorem dL_friends_232 : decode cL_friends 232 = .ok (.iload 12, 2) := by decide +kernel
theorem dL_friends_234 : decode cL_friends 234 = .ok (.ifCond .ge 7, 3) := by decide +kernel
theorem dL_friends_237 : decode cL_friends 237 = .ok (.iconst 0, 1) := by decide +kernel
theorem dL_friends_238 : decode cL_friends 238 = .ok (.goto 4, 3) := by decide +kernel
theorem dL_friends_241 : decode cL_friends 241 = .ok (.iconst 1, 1) := by decide +kernel
theorem dL_friends_242 : decode cL_friends 242 = .ok (.iadd, 1) := by decide +kernel
theorem dL_friends_243 : decode cL_friends 243 = .ok (.istore 9, 2) := by decide +kernel
theorem dL_friends_245 : decode cL_friends 245 = .ok (.iload 10, 2) := by decide +kernel
theorem dL_friends_247 : decode cL_friends 247 = .ok (.aload_n 2, 1) := by decide +kernel
theorem dL_friends_248 : decode cL_friends 248 = .ok (.iconst 2, 1) := by decide +kernel
theorem dL_friends_249 : decode cL_friends 249 = .ok (.iconst 4, 1) := by decide +kernel
theorem dL_friends_250 : decode cL_friends 250 = .ok (.iload 11, 2) := by decide +kernel
theorem dL_friends_252 : decode cL_friends 252 = .ok (.imul, 1) := by decide +kernel
theorem dL_friends_253 : decode cL_friends 253 = .ok (.iadd, 1) := by decide +kernel
theorem dL_friends_254 : decode cL_friends 254 = .ok (.iaload, 1) := by decide +kernel
theorem dL_friends_255 : decode cL_friends 255 = .ok (.ifCond .ge 7, 3) := by decide +kernel
theorem dL_friends_258 : decode cL_friends 258 = .ok (.iconst 0, 1) := by decide +kernel
theorem dL_friends_259 : decode cL_friends 259 = .ok (.goto 4, 3) := by decide +kernel
theorem dL_friends_262 : decode cL_friends 262 = .ok (.iconst 1, 1) := by decide +kernel
theorem dL_friends_263 : decode cL_friends 263 = .ok (.iadd, 1) := by decide +kernel
theorem dL_friends_264 : decode cL_friends 264 = .ok (.istore 10, 2) := by decide +kernel
theorem dL_friends_266 : decode cL_friends 266 = .ok (.iload 12, 2) := by decide +kernel
theorem dL_friends_268 : decode cL_friends 268 = .ok (.iload 11, 2) := by decide +kernel
theorem dL_friends_270 : decode cL_friends 270 = .ok (.if_icmp .eq 65, 3) := by decide +kernel
theorem dL_friends_273 : decode cL_friends 273 = .ok (.iload 12, 2) := by decide +kernel
theorem dL_friends_275 : decode cL_friends 275 = .ok (.aload_n 2, 1) := by decide +kernel
theorem dL_friends_276 : decode cL_friends 276 = .ok (.iconst 3, 1) := by decide +kernel
theorem dL_friends_277 : decode cL_friends 277 = .ok (.iconst 4, 1) := by decide +kernel
theorem dL_friends_278 : decode cL_friends 278 = .ok (.iload 11, 2) := by decide +kernel
theorem dL_friends_280 : decode cL_friends 280 = .ok (.imul, 1) := by decide +kernel
theorem dL_friends_281 : decode cL_friends 281 = .ok (.iadd, 1) := by decide +kernel
theorem dL_friends_282 : decode cL_friends 282 = .ok (.iaload, 1) := by decide +kernel
theorem dL_friends_283 : decode cL_friends 283 = .ok (.if_icmp .ne 8, 3) := by decide +kernel
theorem dL_friends_286 : decode cL_friends 286 = .ok (.iload 12, 2) := by decide +kernel
theorem dL_friends_288 : decode cL_friends 288 = .ok (.ifCond .ge 47, 3) := by decide +kernel
theorem dL_friends_291 : decode cL_friends 291 = .ok (.aload_n 0, 1) := by decide +kernel
theorem dL_friends_292 : decode cL_friends 292 = .ok (.aload_n 0, 1) := by decide +kernel
theorem dL_friends_293 : decode cL_friends 293 = .ok (.iload 11, 2) := by decide +kernel
theorem dL_friends_295 : decode cL_friends 295 = .ok (.iconst 0, 1) := by decide +kernel
theorem dL_friends_296 : decode cL_friends 296 = .ok (.invokevirtual 154, 3) := by decide +kernel
theorem dL_friends_299 : decode cL_friends 299 = .ok (.invokestatic 157, 3) := by decide +kernel
theorem dL_friends_302 : decode cL_friends 302 = .ok (.aload_n 2, 1) := by decide +kernel
theorem dL_friends_303 : decode cL_friends 303 = .ok (.iconst 1, 1) := by decide +kernel
theorem dL_friends_304 : decode cL_friends 304 = .ok (.iconst 4, 1) := by decide +kernel
theorem dL_friends_305 : decode cL_friends 305 = .ok (.iload 11, 2) := by decide +kernel
theorem dL_friends_307 : decode cL_friends 307 = .ok (.imul, 1) := by decide +kernel
theorem dL_friends_308 : decode cL_friends 308 = .ok (.iadd, 1) := by decide +kernel
theorem dL_friends_309 : decode cL_friends 309 = .ok (.iaload, 1) := by decide +kernel
theorem dL_friends_310 : decode cL_friends 310 = .ok (.if_icmp .ne 25, 3) := by decide +kernel
theorem dL_friends_313 : decode cL_friends 313 = .ok (.aload_n 0, 1) := by decide +kernel
theorem dL_friends_314 : decode cL_friends 314 = .ok (.aload_n 0, 1) := by decide +kernel
theorem dL_friends_315 : decode cL_friends 315 = .ok (.iload 11, 2) := by decide +kernel
theorem dL_friends_317 : decode cL_friends 317 = .ok (.iconst 2, 1) := by decide +kernel
theorem dL_friends_318 : decode cL_friends 318 = .ok (.invokevirtual 154, 3) := by decide +kernel
theorem dL_friends_321 : decode cL_friends 321 = .ok (.invokestatic 157, 3) := by decide +kernel
theorem dL_friends_324 : decode cL_friends 324 = .ok (.aload_n 2, 1) := by decide +kernel
theorem dL_friends_325 : decode cL_friends 325 = .ok (.iconst 3, 1) := by decide +kernel
theorem dL_friends_326 : decode cL_friends 326 = .ok (.iconst 4, 1) := by decide +kernel
theorem dL_friends_327 : decode cL_friends 327 = .ok (.iload 11, 2) := by decide +kernel
theorem dL_friends_329 : decode cL_friends 329 = .ok (.imul, 1) := by decide +kernel
theorem dL_friends_330 : decode cL_friends 330 = .ok (.iadd, 1) := by decide +kernel
theorem dL_friends_331 : decode cL_friends 331 = .ok (.iaload, 1) := by decide +kernel
theorem dL_friends_332 : decode cL_friends 332 = .ok (.if_icmp .eq 5, 3) := by decide +kernel
theorem dL_friends_335 : decode cL_friends 335 = .ok (.iconst 0, 1) := by decide +kernel
theorem dL_friends_336 : decode cL_friends 336 = .ok (.ireturn, 1) := by decide +kernel
theorem dL_friends_337 : decode cL_friends 337 = .ok (.iinc 11 1, 3) := by decide +kernel
theorem dL_friends_340 : decode cL_friends 340 = .ok (.goto (-129), 3) := by decide +kernel
theorem dL_friends_343 : decode cL_friends 343 = .ok (.iload 9, 2) := by decide +kernel
theorem dL_friends_345 : decode cL_friends 345 = .ok (.iload 10, 2) := by decide +kernel
theorem dL_friends_347 : decode cL_friends 347 = .ok (.if_icmp .ne 35, 3) := by decide +kernel
theorem dL_friends_350 : decode cL_friends 350 = .ok (.aload_n 0, 1) := by decide +kernel
theorem dL_friends_351 : decode cL_friends 351 = .ok (.iconst 4, 1) := by decide +kernel
theorem dL_friends_352 : decode cL_friends 352 = .ok (.invokevirtual 161, 3) := by decide +kernel
theorem dL_friends_355 : decode cL_friends 355 = .ok (.iconst 1, 1) := by decide +kernel
theorem dL_friends_356 : decode cL_friends 356 = .ok (.if_icmp .ne 26, 3) := by decide +kernel
theorem dL_friends_359 : decode cL_friends 359 = .ok (.aload_n 0, 1) := by decide +kernel
theorem dL_friends_360 : decode cL_friends 360 = .ok (.invokevirtual 148, 3) := by decide +kernel
theorem dL_friends_363 : decode cL_friends 363 = .ok (.lload 6, 2) := by decide +kernel
theorem dL_friends_365 : decode cL_friends 365 = .ok (.lcmp, 1) := by decide +kernel
theorem dL_friends_366 : decode cL_friends 366 = .ok (.ifCond .ne 16, 3) := by decide +kernel
theorem dL_friends_369 : decode cL_friends 369 = .ok (.aload_n 0, 1) := by decide +kernel
theorem dL_friends_370 : decode cL_friends 370 = .ok (.invokevirtual 61, 3) := by decide +kernel
theorem dL_friends_373 : decode cL_friends 373 = .ok (.iload 5, 2) := by decide +kernel
theorem dL_friends_375 : decode cL_friends 375 = .ok (.if_icmp .ne 7, 3) := by decide +kernel
theorem dL_friends_378 : decode cL_friends 378 = .ok (.iconst 1, 1) := by decide +kernel
theorem dL_friends_379 : decode cL_friends 379 = .ok (.goto 4, 3) := by decide +kernel
theorem dL_friends_382 : decode cL_friends 382 = .ok (.iconst 0, 1) := by decide +kernel
theorem dL_friends_383 : decode cL_friends 383 = .ok (.ireturn, 1) := by decide +kernel
