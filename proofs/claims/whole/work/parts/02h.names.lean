theorem dX11_order_258 : decode cX11_order 258 = .ok (.iload_n 3, 1) := by decide +kernel
theorem dX11_order_259 : decode cX11_order 259 = .ok (.aload_n 0, 1) := by decide +kernel
theorem dX11_order_260 : decode cX11_order 260 = .ok (.invokevirtual 147, 3) := by decide +kernel
theorem dX11_order_263 : decode cX11_order 263 = .ok (.invokevirtual 195, 3) := by decide +kernel
theorem dX11_order_266 : decode cX11_order 266 = .ok (.aload_n 0, 1) := by decide +kernel
theorem dX11_order_267 : decode cX11_order 267 = .ok (.getfield 53, 3) := by decide +kernel
theorem dX11_order_270 : decode cX11_order 270 = .ok (.iload_n 3, 1) := by decide +kernel
theorem dX11_order_271 : decode cX11_order 271 = .ok (.iconst 1, 1) := by decide +kernel
theorem dX11_order_272 : decode cX11_order 272 = .ok (.iload 5, 2) := by decide +kernel
theorem dX11_order_274 : decode cX11_order 274 = .ok (.ishl, 1) := by decide +kernel
theorem dX11_order_275 : decode cX11_order 275 = .ok (.ior, 1) := by decide +kernel
theorem dX11_order_276 : decode cX11_order 276 = .ok (.iaload, 1) := by decide +kernel
theorem dX11_order_277 : decode cX11_order 277 = .ok (.iadd, 1) := by decide +kernel
theorem dX11_order_278 : decode cX11_order 278 = .ok (.aload_n 0, 1) := by decide +kernel
theorem dX11_order_279 : decode cX11_order 279 = .ok (.getfield 53, 3) := by decide +kernel
theorem dX11_order_282 : decode cX11_order 282 = .ok (.iload_n 3, 1) := by decide +kernel
theorem dX11_order_283 : decode cX11_order 283 = .ok (.iaload, 1) := by decide +kernel
theorem dX11_order_284 : decode cX11_order 284 = .ok (.if_icmp .eq 9, 3) := by decide +kernel
theorem dX11_order_287 : decode cX11_order 287 = .ok (.iinc 5 1, 3) := by decide +kernel
theorem dX11_order_290 : decode cX11_order 290 = .ok (.goto (-53), 3) := by decide +kernel
theorem dX11_order_293 : decode cX11_order 293 = .ok (.aload_n 0, 1) := by decide +kernel
theorem dX11_order_294 : decode cX11_order 294 = .ok (.getfield 16, 3) := by decide +kernel
theorem dX11_order_297 : decode cX11_order 297 = .ok (.bipush 60, 2) := by decide +kernel
theorem dX11_order_299 : decode cX11_order 299 = .ok (.iload_n 2, 1) := by decide +kernel
theorem dX11_order_300 : decode cX11_order 300 = .ok (.imul, 1) := by decide +kernel
theorem dX11_order_301 : decode cX11_order 301 = .ok (.iload 4, 2) := by decide +kernel
theorem dX11_order_303 : decode cX11_order 303 = .ok (.iadd, 1) := by decide +kernel
theorem dX11_order_304 : decode cX11_order 304 = .ok (.iload 5, 2) := by decide +kernel
theorem dX11_order_306 : decode cX11_order 306 = .ok (.iastore, 1) := by decide +kernel
theorem dX11_order_307 : decode cX11_order 307 = .ok (.iload_n 3, 1) := by decide +kernel
theorem dX11_order_308 : decode cX11_order 308 = .ok (.iconst 1, 1) := by decide +kernel
theorem dX11_order_309 : decode cX11_order 309 = .ok (.iload 5, 2) := by decide +kernel
theorem dX11_order_311 : decode cX11_order 311 = .ok (.ishl, 1) := by decide +kernel
theorem dX11_order_312 : decode cX11_order 312 = .ok (.ior, 1) := by decide +kernel
theorem dX11_order_313 : decode cX11_order 313 = .ok (.istore_n 3, 1) := by decide +kernel
theorem dX11_order_314 : decode cX11_order 314 = .ok (.iinc 4 1, 3) := by decide +kernel
theorem dX11_order_317 : decode cX11_order 317 = .ok (.goto (-94), 3) := by decide +kernel
theorem dX11_order_320 : decode cX11_order 320 = .ok (.aload_n 0, 1) := by decide +kernel
theorem dX11_order_321 : decode cX11_order 321 = .ok (.getfield 53, 3) := by decide +kernel
theorem dX11_order_324 : decode cX11_order 324 = .ok (.iconst 0, 1) := by decide +kernel
theorem dX11_order_325 : decode cX11_order 325 = .ok (.iaload, 1) := by decide +kernel
theorem dX11_order_326 : decode cX11_order 326 = .ok (.ireturn, 1) := by decide +kernel
set_option maxRecDepth 20000 in
theorem ggX11_reachedMany_X11_all : GoodIn wsX11_reachedMany wsX11_all := goodIn_r _ [6, 7, 8, 9, 10, 11, 12, 13, 14, 15, 16, 17, 18, 19, 20, 21, 22, 23, 24, 25, 26, 27, 28, 29, 30, 31, 32, 33, 34, 35, 36, 37, 38] (by decide +kernel) (by decide +kernel)
set_option maxRecDepth 20000 in
theorem gX11_reachedMany_X11_all : GoodIn wsX11_reachedMany (wsV RX11 147 RX11 yX11_all wsX11_all) := goodIn_app (goodIn_of _ (by decide +kernel)) ggX11_reachedMany_X11_all
theorem dX11_reachedMany_0 : decode cX11_reachedMany 0 = .ok (.iconst 0, 1) := by decide +kernel
theorem dX11_reachedMany_1 : decode cX11_reachedMany 1 = .ok (.istore_n 1, 1) := by decide +kernel
theorem dX11_reachedMany_2 : decode cX11_reachedMany 2 = .ok (.iconst 0, 1) := by decide +kernel
theorem dX11_reachedMany_3 : decode cX11_reachedMany 3 = .ok (.istore_n 2, 1) := by decide +kernel
theorem dX11_reachedMany_4 : decode cX11_reachedMany 4 = .ok (.iload_n 2, 1) := by decide +kernel
theorem dX11_reachedMany_5 : decode cX11_reachedMany 5 = .ok (.aload_n 0, 1) := by decide +kernel
theorem dX11_reachedMany_6 : decode cX11_reachedMany 6 = .ok (.invokevirtual 147, 3) := by decide +kernel
theorem dX11_reachedMany_9 : decode cX11_reachedMany 9 = .ok (.if_icmp .gt 26, 3) := by decide +kernel
theorem dX11_reachedMany_12 : decode cX11_reachedMany 12 = .ok (.iload_n 1, 1) := by decide +kernel
theorem dX11_reachedMany_13 : decode cX11_reachedMany 13 = .ok (.aload_n 0, 1) := by decide +kernel
theorem dX11_reachedMany_14 : decode cX11_reachedMany 14 = .ok (.getfield 50, 3) := by decide +kernel
theorem dX11_reachedMany_17 : decode cX11_reachedMany 17 = .ok (.iload_n 2, 1) := by decide +kernel
theorem dX11_reachedMany_18 : decode cX11_reachedMany 18 = .ok (.iaload, 1) := by decide +kernel
theorem dX11_reachedMany_19 : decode cX11_reachedMany 19 = .ok (.ifCond .le 7, 3) := by decide +kernel
theorem dX11_reachedMany_22 : decode cX11_reachedMany 22 = .ok (.iconst 1, 1) := by decide +kernel
theorem dX11_reachedMany_23 : decode cX11_reachedMany 23 = .ok (.goto 4, 3) := by decide +kernel
theorem dX11_reachedMany_26 : decode cX11_reachedMany 26 = .ok (.iconst 0, 1) := by decide +kernel
theorem dX11_reachedMany_27 : decode cX11_reachedMany 27 = .ok (.iadd, 1) := by decide +kernel
theorem dX11_reachedMany_28 : decode cX11_reachedMany 28 = .ok (.istore_n 1, 1) := by decide +kernel
theorem dX11_reachedMany_29 : decode cX11_reachedMany 29 = .ok (.iinc 2 1, 3) := by decide +kernel
theorem dX11_reachedMany_32 : decode cX11_reachedMany 32 = .ok (.goto (-28), 3) := by decide +kernel
theorem dX11_reachedMany_35 : decode cX11_reachedMany 35 = .ok (.iload_n 1, 1) := by decide +kernel
theorem dX11_reachedMany_36 : decode cX11_reachedMany 36 = .ok (.ireturn, 1) := by decide +kernel
set_option maxRecDepth 20000 in
theorem ggX11_reached_X11_all : GoodIn wsX11_reached wsX11_all := goodIn_r _ [6, 7, 71, 72, 73, 74, 75, 76, 77, 78, 79, 80, 81, 82, 83, 84, 85, 86, 87, 88, 89, 90, 91, 92, 93, 94, 95, 96, 97, 98, 99, 100, 101] (by decide +kernel) (by decide +kernel)
set_option maxRecDepth 20000 in
theorem gX11_reached_X11_all : GoodIn wsX11_reached (wsV RX11 147 RX11 yX11_all wsX11_all) := goodIn_app (goodIn_of _ (by decide +kernel)) ggX11_reached_X11_all
set_option maxRecDepth 20000 in
theorem ggX11_reached_X11_layLeasts : GoodIn wsX11_reached wsX11_layLeasts := goodIn_r _ [11, 12, 1, 7, 2, 3, 4, 5, 6, 13, 14, 15, 16, 17, 18, 19, 20, 21, 22, 23, 24, 25, 26, 27, 28, 29, 30, 31, 32, 33, 34, 35, 36, 37, 38, 39, 40, 41, 42, 43, 44, 45, 46, 47, 48, 49, 50, 51, 52, 53, 54, 55, 56, 57, 58, 59, 60, 61, 71, 72, 73, 74, 75, 76, 77, 78, 79, 80, 81, 82, 83, 84, 85, 86, 87, 88, 89, 90, 91, 92, 93, 94, 95, 96, 97, 98, 99, 100, 101] (by decide +kernel) (by decide +kernel)
set_option maxRecDepth 20000 in
theorem gX11_reached_X11_layLeasts : GoodIn wsX11_reached (wsV RX11 205 RX11 yX11_layLeasts wsX11_layLeasts) := goodIn_app (goodIn_of _ (by decide +kernel)) ggX11_reached_X11_layLeasts
set_option maxRecDepth 20000 in
theorem ggX11_reached_X11_bits : GoodIn wsX11_reached wsX11_bits := goodIn_r _ [31] (by decide +kernel) (by decide +kernel)
set_option maxRecDepth 20000 in
theorem gX11_reached_X11_bits : GoodIn wsX11_reached (va_wsS RX11 188 yX11_bits wsX11_bits) := goodIn_app (goodIn_of _ (by decide +kernel)) ggX11_reached_X11_bits
set_option maxRecDepth 20000 in
theorem ggX11_reached_X11_greater : GoodIn wsX11_reached wsX11_greater := goodIn_r _ [50] (by decide +kernel) (by decide +kernel)
set_option maxRecDepth 20000 in
theorem gX11_reached_X11_greater : GoodIn wsX11_reached (va_wsS RX11 185 yX11_greater wsX11_greater) := goodIn_app (goodIn_of _ (by decide +kernel)) ggX11_reached_X11_greater
set_option maxRecDepth 20000 in
theorem ggX11_reached_X11_reachedMany : GoodIn wsX11_reached wsX11_reachedMany := goodIn_r _ [65, 1, 2, 3, 4, 5, 6, 7, 71, 72, 73, 74, 75, 76, 77, 78, 79, 80, 81, 82, 83, 84, 85, 86, 87, 88, 89, 90, 91, 92, 93, 94, 95, 96, 97, 98, 99, 100, 101] (by decide +kernel) (by decide +kernel)
set_option maxRecDepth 20000 in
theorem gX11_reached_X11_reachedMany : GoodIn wsX11_reached (wsV RX11 212 RX11 yX11_reachedMany wsX11_reachedMany) := goodIn_app (goodIn_of _ (by decide +kernel)) ggX11_reached_X11_reachedMany
set_option maxRecDepth 20000 in
theorem ggX11_reached_X11_tells : GoodIn wsX11_reached wsX11_tells := goodIn_r _ [69, 70, 71, 72, 73, 74, 75, 76, 77, 78, 79, 80, 81, 82, 83, 84, 85, 86, 87, 88, 89, 90, 91, 92, 93, 94, 95, 96, 97, 98, 99, 100, 101] (by decide +kernel) (by decide +kernel)
set_option maxRecDepth 20000 in
theorem gX11_reached_X11_tells : GoodIn wsX11_reached (wsV RX11 98 RX11 yX11_tells wsX11_tells) := goodIn_app (goodIn_of _ (by decide +kernel)) ggX11_reached_X11_tells
theorem dX11_reached_0 : decode cX11_reached 0 = .ok (.aload_n 0, 1) := by decide +kernel
theorem dX11_reached_1 : decode cX11_reached 1 = .ok (.aload_n 0, 1) := by decide +kernel
theorem dX11_reached_2 : decode cX11_reached 2 = .ok (.invokevirtual 147, 3) := by decide +kernel
theorem dX11_reached_5 : decode cX11_reached 5 = .ok (.invokevirtual 205, 3) := by decide +kernel
theorem dX11_reached_8 : decode cX11_reached 8 = .ok (.iconst 0, 1) := by decide +kernel
theorem dX11_reached_9 : decode cX11_reached 9 = .ok (.istore_n 1, 1) := by decide +kernel
theorem dX11_reached_10 : decode cX11_reached 10 = .ok (.iconst 0, 1) := by decide +kernel
theorem dX11_reached_11 : decode cX11_reached 11 = .ok (.istore_n 2, 1) := by decide +kernel
theorem dX11_reached_12 : decode cX11_reached 12 = .ok (.iload_n 2, 1) := by decide +kernel
theorem dX11_reached_13 : decode cX11_reached 13 = .ok (.aload_n 0, 1) := by decide +kernel
theorem dX11_reached_14 : decode cX11_reached 14 = .ok (.invokevirtual 147, 3) := by decide +kernel
theorem dX11_reached_17 : decode cX11_reached 17 = .ok (.if_icmp .gt 31, 3) := by decide +kernel
theorem dX11_reached_20 : decode cX11_reached 20 = .ok (.aload_n 0, 1) := by decide +kernel
theorem dX11_reached_21 : decode cX11_reached 21 = .ok (.getfield 50, 3) := by decide +kernel
theorem dX11_reached_24 : decode cX11_reached 24 = .ok (.iload_n 2, 1) := by decide +kernel
theorem dX11_reached_25 : decode cX11_reached 25 = .ok (.iaload, 1) := by decide +kernel
theorem dX11_reached_26 : decode cX11_reached 26 = .ok (.ifCond .le 14, 3) := by decide +kernel
theorem dX11_reached_29 : decode cX11_reached 29 = .ok (.iload_n 1, 1) := by decide +kernel
theorem dX11_reached_30 : decode cX11_reached 30 = .ok (.iload_n 2, 1) := by decide +kernel
theorem dX11_reached_31 : decode cX11_reached 31 = .ok (.invokestatic 188, 3) := by decide +kernel
theorem dX11_reached_34 : decode cX11_reached 34 = .ok (.invokestatic 185, 3) := by decide +kernel
theorem dX11_reached_37 : decode cX11_reached 37 = .ok (.goto 4, 3) := by decide +kernel
theorem dX11_reached_40 : decode cX11_reached 40 = .ok (.iload_n 1, 1) := by decide +kernel
theorem dX11_reached_41 : decode cX11_reached 41 = .ok (.istore_n 1, 1) := by decide +kernel
theorem dX11_reached_42 : decode cX11_reached 42 = .ok (.iinc 2 1, 3) := by decide +kernel
theorem dX11_reached_45 : decode cX11_reached 45 = .ok (.goto (-33), 3) := by decide +kernel
theorem dX11_reached_48 : decode cX11_reached 48 = .ok (.aload_n 0, 1) := by decide +kernel
theorem dX11_reached_49 : decode cX11_reached 49 = .ok (.iload_n 1, 1) := by decide +kernel
theorem dX11_reached_50 : decode cX11_reached 50 = .ok (.aload_n 0, 1) := by decide +kernel
theorem dX11_reached_51 : decode cX11_reached 51 = .ok (.invokevirtual 212, 3) := by decide +kernel
theorem dX11_reached_54 : decode cX11_reached 54 = .ok (.invokevirtual 98, 3) := by decide +kernel
theorem dX11_reached_57 : decode cX11_reached 57 = .ok (.ireturn, 1) := by decide +kernel
set_option maxRecDepth 20000 in
theorem ggX11_most_X11_all : GoodIn wsX11_most wsX11_all := goodIn_r _ [7, 8, 67, 68, 69, 70, 71, 72, 73, 74, 75, 76, 77, 78, 79, 80, 81, 82, 83, 84, 85, 86, 87, 88, 89, 90, 91, 92, 93, 94, 95, 96, 97] (by decide +kernel) (by decide +kernel)
set_option maxRecDepth 20000 in
theorem gX11_most_X11_all : GoodIn wsX11_most (wsV RX11 147 RX11 yX11_all wsX11_all) := goodIn_app (goodIn_of _ (by decide +kernel)) ggX11_most_X11_all
set_option maxRecDepth 20000 in
theorem ggX11_most_X11_layLeasts : GoodIn wsX11_most wsX11_layLeasts := goodIn_r _ [12, 1, 2, 8, 3, 4, 5, 6, 7, 13, 14, 15, 16, 17, 18, 19, 20, 21, 22, 23, 24, 25, 26, 27, 28, 29, 30, 31, 32, 33, 34, 35, 36, 37, 38, 39, 40, 41, 42, 43, 44, 45, 46, 47, 48, 49, 50, 51, 52, 53, 54, 55, 56, 57, 58, 59, 60, 61, 67, 68, 69, 70, 71, 72, 73, 74, 75, 76, 77, 78, 79, 80, 81, 82, 83, 84, 85, 86, 87, 88, 89, 90, 91, 92, 93, 94, 95, 96, 97] (by decide +kernel) (by decide +kernel)
set_option maxRecDepth 20000 in
theorem gX11_most_X11_layLeasts : GoodIn wsX11_most (wsV RX11 205 RX11 yX11_layLeasts wsX11_layLeasts) := goodIn_app (goodIn_of _ (by decide +kernel)) ggX11_most_X11_layLeasts
set_option maxRecDepth 20000 in
theorem ggX11_most_X11_bits : GoodIn wsX11_most wsX11_bits := goodIn_r _ [31] (by decide +kernel) (by decide +kernel)
set_option maxRecDepth 20000 in
theorem gX11_most_X11_bits : GoodIn wsX11_most (va_wsS RX11 188 yX11_bits wsX11_bits) := goodIn_app (goodIn_of _ (by decide +kernel)) ggX11_most_X11_bits
set_option maxRecDepth 20000 in
theorem ggX11_most_X11_tells : GoodIn wsX11_most wsX11_tells := goodIn_r _ [65, 66, 67, 68, 69, 70, 71, 72, 73, 74, 75, 76, 77, 78, 79, 80, 81, 82, 83, 84, 85, 86, 87, 88, 89, 90, 91, 92, 93, 94, 95, 96, 97] (by decide +kernel) (by decide +kernel)
set_option maxRecDepth 20000 in
theorem gX11_most_X11_tells : GoodIn wsX11_most (wsV RX11 98 RX11 yX11_tells wsX11_tells) := goodIn_app (goodIn_of _ (by decide +kernel)) ggX11_most_X11_tells
theorem dX11_most_0 : decode cX11_most 0 = .ok (.aload_n 0, 1) := by decide +kernel
theorem dX11_most_1 : decode cX11_most 1 = .ok (.aload_n 0, 1) := by decide +kernel
theorem dX11_most_2 : decode cX11_most 2 = .ok (.invokevirtual 147, 3) := by decide +kernel
theorem dX11_most_5 : decode cX11_most 5 = .ok (.invokevirtual 205, 3) := by decide +kernel
theorem dX11_most_8 : decode cX11_most 8 = .ok (.iconst 0, 1) := by decide +kernel
theorem dX11_most_9 : decode cX11_most 9 = .ok (.istore_n 1, 1) := by decide +kernel
theorem dX11_most_10 : decode cX11_most 10 = .ok (.iconst 0, 1) := by decide +kernel
theorem dX11_most_11 : decode cX11_most 11 = .ok (.istore_n 2, 1) := by decide +kernel
theorem dX11_most_12 : decode cX11_most 12 = .ok (.iload_n 2, 1) := by decide +kernel
theorem dX11_most_13 : decode cX11_most 13 = .ok (.aload_n 0, 1) := by decide +kernel
theorem dX11_most_14 : decode cX11_most 14 = .ok (.invokevirtual 147, 3) := by decide +kernel
theorem dX11_most_17 : decode cX11_most 17 = .ok (.if_icmp .gt 71, 3) := by decide +kernel
theorem dX11_most_20 : decode cX11_most 20 = .ok (.iload_n 2, 1) := by decide +kernel
theorem dX11_most_21 : decode cX11_most 21 = .ok (.invokestatic 188, 3) := by decide +kernel
theorem dX11_most_24 : decode cX11_most 24 = .ok (.iload_n 1, 1) := by decide +kernel
theorem dX11_most_25 : decode cX11_most 25 = .ok (.invokestatic 188, 3) := by decide +kernel
theorem dX11_most_28 : decode cX11_most 28 = .ok (.if_icmp .gt 29, 3) := by decide +kernel
theorem dX11_most_31 : decode cX11_most 31 = .ok (.iload_n 2, 1) := by decide +kernel
theorem dX11_most_32 : decode cX11_most 32 = .ok (.invokestatic 188, 3) := by decide +kernel
theorem dX11_most_35 : decode cX11_most 35 = .ok (.iload_n 1, 1) := by decide +kernel
theorem dX11_most_36 : decode cX11_most 36 = .ok (.invokestatic 188, 3) := by decide +kernel
theorem dX11_most_39 : decode cX11_most 39 = .ok (.if_icmp .ne 22, 3) := by decide +kernel
theorem dX11_most_42 : decode cX11_most 42 = .ok (.aload_n 0, 1) := by decide +kernel
theorem dX11_most_43 : decode cX11_most 43 = .ok (.getfield 47, 3) := by decide +kernel
theorem dX11_most_46 : decode cX11_most 46 = .ok (.iload_n 2, 1) := by decide +kernel
theorem dX11_most_47 : decode cX11_most 47 = .ok (.iaload, 1) := by decide +kernel
theorem dX11_most_48 : decode cX11_most 48 = .ok (.aload_n 0, 1) := by decide +kernel
theorem dX11_most_49 : decode cX11_most 49 = .ok (.getfield 47, 3) := by decide +kernel
theorem dX11_most_52 : decode cX11_most 52 = .ok (.iload_n 1, 1) := by decide +kernel
theorem dX11_most_53 : decode cX11_most 53 = .ok (.iaload, 1) := by decide +kernel
theorem dX11_most_54 : decode cX11_most 54 = .ok (.if_icmp .ge 7, 3) := by decide +kernel
theorem dX11_most_57 : decode cX11_most 57 = .ok (.iconst 1, 1) := by decide +kernel
theorem dX11_most_58 : decode cX11_most 58 = .ok (.goto 4, 3) := by decide +kernel
theorem dX11_most_61 : decode cX11_most 61 = .ok (.iconst 0, 1) := by decide +kernel
theorem dX11_most_62 : decode cX11_most 62 = .ok (.istore_n 3, 1) := by decide +kernel
theorem dX11_most_63 : decode cX11_most 63 = .ok (.aload_n 0, 1) := by decide +kernel
theorem dX11_most_64 : decode cX11_most 64 = .ok (.getfield 50, 3) := by decide +kernel
theorem dX11_most_67 : decode cX11_most 67 = .ok (.iload_n 2, 1) := by decide +kernel
theorem dX11_most_68 : decode cX11_most 68 = .ok (.iaload, 1) := by decide +kernel
theorem dX11_most_69 : decode cX11_most 69 = .ok (.ifCond .le 11, 3) := by decide +kernel
theorem dX11_most_72 : decode cX11_most 72 = .ok (.iload_n 3, 1) := by decide +kernel
theorem dX11_most_73 : decode cX11_most 73 = .ok (.ifCond .eq 7, 3) := by decide +kernel
theorem dX11_most_76 : decode cX11_most 76 = .ok (.iload_n 2, 1) := by decide +kernel
theorem dX11_most_77 : decode cX11_most 77 = .ok (.goto 4, 3) := by decide +kernel
theorem dX11_most_80 : decode cX11_most 80 = .ok (.iload_n 1, 1) := by decide +kernel
theorem dX11_most_81 : decode cX11_most 81 = .ok (.istore_n 1, 1) := by decide +kernel
theorem dX11_most_82 : decode cX11_most 82 = .ok (.iinc 2 1, 3) := by decide +kernel
theorem dX11_most_85 : decode cX11_most 85 = .ok (.goto (-73), 3) := by decide +kernel
theorem dX11_most_88 : decode cX11_most 88 = .ok (.aload_n 0, 1) := by decide +kernel
theorem dX11_most_89 : decode cX11_most 89 = .ok (.aload_n 0, 1) := by decide +kernel
theorem dX11_most_90 : decode cX11_most 90 = .ok (.getfield 47, 3) := by decide +kernel
theorem dX11_most_93 : decode cX11_most 93 = .ok (.iload_n 1, 1) := by decide +kernel
theorem dX11_most_94 : decode cX11_most 94 = .ok (.iaload, 1) := by decide +kernel
theorem dX11_most_95 : decode cX11_most 95 = .ok (.iload_n 1, 1) := by decide +kernel
theorem dX11_most_96 : decode cX11_most 96 = .ok (.invokevirtual 98, 3) := by decide +kernel
theorem dX11_most_99 : decode cX11_most 99 = .ok (.ireturn, 1) := by decide +kernel
set_option maxRecDepth 20000 in
theorem ggX11_everOut_X11_all : GoodIn wsX11_everOut wsX11_all := goodIn_r _ [6, 7, 8, 9, 10, 11, 12, 13, 14, 15, 16, 17, 18, 19, 20, 21, 22, 23, 24, 25, 26, 27, 28, 29, 30, 31, 32, 33, 34, 35, 36, 37, 38] (by decide +kernel) (by decide +kernel)
set_option maxRecDepth 20000 in
theorem gX11_everOut_X11_all : GoodIn wsX11_everOut (wsV RX11 147 RX11 yX11_all wsX11_all) := goodIn_app (goodIn_of _ (by decide +kernel)) ggX11_everOut_X11_all
theorem dX11_everOut_0 : decode cX11_everOut 0 = .ok (.iconst 0, 1) := by decide +kernel
theorem dX11_everOut_1 : decode cX11_everOut 1 = .ok (.istore_n 1, 1) := by decide +kernel
theorem dX11_everOut_2 : decode cX11_everOut 2 = .ok (.iconst 0, 1) := by decide +kernel
theorem dX11_everOut_3 : decode cX11_everOut 3 = .ok (.istore_n 2, 1) := by decide +kernel
theorem dX11_everOut_4 : decode cX11_everOut 4 = .ok (.iload_n 2, 1) := by decide +kernel
theorem dX11_everOut_5 : decode cX11_everOut 5 = .ok (.aload_n 0, 1) := by decide +kernel
theorem dX11_everOut_6 : decode cX11_everOut 6 = .ok (.invokevirtual 147, 3) := by decide +kernel
theorem dX11_everOut_9 : decode cX11_everOut 9 = .ok (.if_icmp .gt 26, 3) := by decide +kernel
theorem dX11_everOut_12 : decode cX11_everOut 12 = .ok (.iload_n 1, 1) := by decide +kernel
theorem dX11_everOut_13 : decode cX11_everOut 13 = .ok (.aload_n 0, 1) := by decide +kernel
theorem dX11_everOut_14 : decode cX11_everOut 14 = .ok (.getfield 50, 3) := by decide +kernel
theorem dX11_everOut_17 : decode cX11_everOut 17 = .ok (.iload_n 2, 1) := by decide +kernel
theorem dX11_everOut_18 : decode cX11_everOut 18 = .ok (.iaload, 1) := by decide +kernel
theorem dX11_everOut_19 : decode cX11_everOut 19 = .ok (.ifCond .le 7, 3) := by decide +kernel
theorem dX11_everOut_22 : decode cX11_everOut 22 = .ok (.iload_n 2, 1) := by decide +kernel
theorem dX11_everOut_23 : decode cX11_everOut 23 = .ok (.goto 4, 3) := by decide +kernel
theorem dX11_everOut_26 : decode cX11_everOut 26 = .ok (.iconst 0, 1) := by decide +kernel
theorem dX11_everOut_27 : decode cX11_everOut 27 = .ok (.ior, 1) := by decide +kernel
theorem dX11_everOut_28 : decode cX11_everOut 28 = .ok (.istore_n 1, 1) := by decide +kernel
theorem dX11_everOut_29 : decode cX11_everOut 29 = .ok (.iinc 2 1, 3) := by decide +kernel
theorem dX11_everOut_32 : decode cX11_everOut 32 = .ok (.goto (-28), 3) := by decide +kernel
theorem dX11_everOut_35 : decode cX11_everOut 35 = .ok (.iload_n 1, 1) := by decide +kernel
theorem dX11_everOut_36 : decode cX11_everOut 36 = .ok (.ireturn, 1) := by decide +kernel
set_option maxRecDepth 20000 in
theorem ggX11_ever_X11_all : GoodIn wsX11_ever wsX11_all := goodIn_r _ [5, 6, 71, 72, 73, 74, 75, 76, 77, 78, 79, 80, 81, 82, 83, 84, 85, 86, 87, 88, 89, 90, 91, 92, 93, 94, 95, 96, 97, 98, 99, 100, 101] (by decide +kernel) (by decide +kernel)
set_option maxRecDepth 20000 in
theorem gX11_ever_X11_all : GoodIn wsX11_ever (wsV RX11 147 RX11 yX11_all wsX11_all) := goodIn_app (goodIn_of _ (by decide +kernel)) ggX11_ever_X11_all
set_option maxRecDepth 20000 in
theorem ggX11_ever_X11_layLeasts : GoodIn wsX11_ever wsX11_layLeasts := goodIn_r _ [10, 11, 12, 6, 1, 2, 3, 4, 5, 13, 14, 15, 16, 17, 18, 19, 20, 21, 22, 23, 24, 25, 26, 27, 28, 29, 30, 31, 32, 33, 34, 35, 36, 37, 38, 39, 40, 41, 42, 43, 44, 45, 46, 47, 48, 49, 50, 51, 52, 53, 54, 55, 56, 57, 58, 59, 60, 61, 71, 72, 73, 74, 75, 76, 77, 78, 79, 80, 81, 82, 83, 84, 85, 86, 87, 88, 89, 90, 91, 92, 93, 94, 95, 96, 97, 98, 99, 100, 101] (by decide +kernel) (by decide +kernel)
set_option maxRecDepth 20000 in
theorem gX11_ever_X11_layLeasts : GoodIn wsX11_ever (wsV RX11 205 RX11 yX11_layLeasts wsX11_layLeasts) := goodIn_app (goodIn_of _ (by decide +kernel)) ggX11_ever_X11_layLeasts
set_option maxRecDepth 20000 in
theorem ggX11_ever_X11_everOut : GoodIn wsX11_ever wsX11_everOut := goodIn_r _ [65, 12, 1, 2, 3, 4, 5, 6, 71, 72, 73, 74, 75, 76, 77, 78, 79, 80, 81, 82, 83, 84, 85, 86, 87, 88, 89, 90, 91, 92, 93, 94, 95, 96, 97, 98, 99, 100, 101] (by decide +kernel) (by decide +kernel)
set_option maxRecDepth 20000 in
theorem gX11_ever_X11_everOut : GoodIn wsX11_ever (wsV RX11 215 RX11 yX11_everOut wsX11_everOut) := goodIn_app (goodIn_of _ (by decide +kernel)) ggX11_ever_X11_everOut
set_option maxRecDepth 20000 in
theorem ggX11_ever_X11_tells : GoodIn wsX11_ever wsX11_tells := goodIn_r _ [69, 70, 71, 72, 73, 74, 75, 76, 77, 78, 79, 80, 81, 82, 83, 84, 85, 86, 87, 88, 89, 90, 91, 92, 93, 94, 95, 96, 97, 98, 99, 100, 101] (by decide +kernel) (by decide +kernel)
set_option maxRecDepth 20000 in
theorem gX11_ever_X11_tells : GoodIn wsX11_ever (wsV RX11 98 RX11 yX11_tells wsX11_tells) := goodIn_app (goodIn_of _ (by decide +kernel)) ggX11_ever_X11_tells
theorem dX11_ever_0 : decode cX11_ever 0 = .ok (.aload_n 0, 1) := by decide +kernel
theorem dX11_ever_1 : decode cX11_ever 1 = .ok (.aload_n 0, 1) := by decide +kernel
theorem dX11_ever_2 : decode cX11_ever 2 = .ok (.invokevirtual 147, 3) := by decide +kernel
theorem dX11_ever_5 : decode cX11_ever 5 = .ok (.invokevirtual 205, 3) := by decide +kernel
theorem dX11_ever_8 : decode cX11_ever 8 = .ok (.aload_n 0, 1) := by decide +kernel
theorem dX11_ever_9 : decode cX11_ever 9 = .ok (.invokevirtual 215, 3) := by decide +kernel
theorem dX11_ever_12 : decode cX11_ever 12 = .ok (.istore_n 1, 1) := by decide +kernel
theorem dX11_ever_13 : decode cX11_ever 13 = .ok (.aload_n 0, 1) := by decide +kernel
theorem dX11_ever_14 : decode cX11_ever 14 = .ok (.aload_n 0, 1) := by decide +kernel
theorem dX11_ever_15 : decode cX11_ever 15 = .ok (.invokevirtual 147, 3) := by decide +kernel
theorem dX11_ever_18 : decode cX11_ever 18 = .ok (.iload_n 1, 1) := by decide +kernel
theorem dX11_ever_19 : decode cX11_ever 19 = .ok (.iconst (-1), 1) := by decide +kernel
theorem dX11_ever_20 : decode cX11_ever 20 = .ok (.ixor, 1) := by decide +kernel
theorem dX11_ever_21 : decode cX11_ever 21 = .ok (.iand, 1) := by decide +kernel
theorem dX11_ever_22 : decode cX11_ever 22 = .ok (.iload_n 1, 1) := by decide +kernel
theorem dX11_ever_23 : decode cX11_ever 23 = .ok (.invokevirtual 98, 3) := by decide +kernel
theorem dX11_ever_26 : decode cX11_ever 26 = .ok (.ireturn, 1) := by decide +kernel
set_option maxRecDepth 20000 in
theorem ggX11_ways_X11_isSet : GoodIn wsX11_ways wsX11_isSet := goodIn_r _ [6, 7, 8, 9, 5, 10, 11, 12, 13, 14, 69, 70, 71, 72, 73, 74, 75, 76, 77, 78, 79, 80, 81, 82, 83, 84, 85, 86, 87, 88, 89, 90, 91, 92, 93, 94, 95, 96, 97, 98, 99] (by decide +kernel) (by decide +kernel)
set_option maxRecDepth 20000 in
theorem gX11_ways_X11_isSet : GoodIn wsX11_ways (wsV RX11 202 RX11 yX11_isSet wsX11_isSet) := goodIn_app (goodIn_of _ (by decide +kernel)) ggX11_ways_X11_isSet
set_option maxRecDepth 20000 in
theorem ggX11_ways_X11_all : GoodIn wsX11_ways wsX11_all := goodIn_r _ [10, 11, 69, 70, 71, 72, 73, 74, 75, 76, 77, 78, 79, 80, 81, 82, 83, 84, 85, 86, 87, 88, 89, 90, 91, 92, 93, 94, 95, 96, 97, 98, 99] (by decide +kernel) (by decide +kernel)
set_option maxRecDepth 20000 in
theorem gX11_ways_X11_all : GoodIn wsX11_ways (wsV RX11 147 RX11 yX11_all wsX11_all) := goodIn_app (goodIn_of _ (by decide +kernel)) ggX11_ways_X11_all
set_option maxRecDepth 20000 in
theorem ggX11_ways_X11_layLeasts : GoodIn wsX11_ways wsX11_layLeasts := goodIn_r _ [18, 19, 1, 11, 7, 8, 9, 5, 10, 20, 21, 22, 23, 24, 25, 26, 27, 28, 29, 30, 31, 32, 33, 34, 35, 36, 37, 38, 39, 40, 41, 42, 43, 44, 45, 46, 47, 48, 49, 50, 51, 52, 53, 54, 55, 56, 57, 58, 59, 60, 61, 62, 63, 64, 65, 66, 67, 68, 69, 70, 71, 72, 73, 74, 75, 76, 77, 78, 79, 80, 81, 82, 83, 84, 85, 86, 87, 88, 89, 90, 91, 92, 93, 94, 95, 96, 97, 98, 99] (by decide +kernel) (by decide +kernel)
set_option maxRecDepth 20000 in
theorem gX11_ways_X11_layLeasts : GoodIn wsX11_ways (wsV RX11 205 RX11 yX11_layLeasts wsX11_layLeasts) := goodIn_app (goodIn_of _ (by decide +kernel)) ggX11_ways_X11_layLeasts
theorem dX11_ways_0 : decode cX11_ways 0 = .ok (.aload_n 0, 1) := by decide +kernel
theorem dX11_ways_1 : decode cX11_ways 1 = .ok (.iload_n 1, 1) := by decide +kernel
theorem dX11_ways_2 : decode cX11_ways 2 = .ok (.invokevirtual 202, 3) := by decide +kernel
theorem dX11_ways_5 : decode cX11_ways 5 = .ok (.ifCond .ne 5, 3) := by decide +kernel
theorem dX11_ways_8 : decode cX11_ways 8 = .ok (.iconst (-1), 1) := by decide +kernel
theorem dX11_ways_9 : decode cX11_ways 9 = .ok (.ireturn, 1) := by decide +kernel
theorem dX11_ways_10 : decode cX11_ways 10 = .ok (.aload_n 0, 1) := by decide +kernel
theorem dX11_ways_11 : decode cX11_ways 11 = .ok (.aload_n 0, 1) := by decide +kernel
theorem dX11_ways_12 : decode cX11_ways 12 = .ok (.invokevirtual 147, 3) := by decide +kernel
theorem dX11_ways_15 : decode cX11_ways 15 = .ok (.invokevirtual 205, 3) := by decide +kernel
theorem dX11_ways_18 : decode cX11_ways 18 = .ok (.aload_n 0, 1) := by decide +kernel
theorem dX11_ways_19 : decode cX11_ways 19 = .ok (.getfield 50, 3) := by decide +kernel
theorem dX11_ways_22 : decode cX11_ways 22 = .ok (.iload_n 1, 1) := by decide +kernel
theorem dX11_ways_23 : decode cX11_ways 23 = .ok (.iaload, 1) := by decide +kernel
theorem dX11_ways_24 : decode cX11_ways 24 = .ok (.ireturn, 1) := by decide +kernel
set_option maxRecDepth 20000 in
theorem ggX11_ring_X11_isCell : GoodIn wsX11_ring wsX11_isCell := goodIn_r _ [5, 6, 7, 8, 4, 9, 23, 24, 25, 26, 27, 28, 29, 30, 31, 32, 33, 34, 35, 36, 37, 38, 39, 40, 41, 42, 43, 44, 45, 46, 47, 48, 49, 50, 51, 52, 53] (by decide +kernel) (by decide +kernel)
set_option maxRecDepth 20000 in
theorem gX11_ring_X11_isCell : GoodIn wsX11_ring (wsV RX11 158 RX11 yX11_isCell wsX11_isCell) := goodIn_app (goodIn_of _ (by decide +kernel)) ggX11_ring_X11_isCell
set_option maxRecDepth 20000 in
theorem ggX11_ring_X11_has : GoodIn wsX11_ring wsX11_has := goodIn_r _ [12] (by decide +kernel) (by decide +kernel)
set_option maxRecDepth 20000 in
theorem gX11_ring_X11_has : GoodIn wsX11_ring (va_wsS RX11 151 yX11_has wsX11_has) := goodIn_app (goodIn_of _ (by decide +kernel)) ggX11_ring_X11_has
set_option maxRecDepth 20000 in
theorem ggX11_ring_X11_keeper : GoodIn wsX11_ring wsX11_keeper := goodIn_r _ [16, 17, 23, 24, 25, 26, 27, 28, 29, 30, 31, 32, 33, 34, 35, 36, 37, 38, 39, 40, 41, 42, 43, 44, 45, 46, 47, 48, 49, 50, 51, 52, 53] (by decide +kernel) (by decide +kernel)
set_option maxRecDepth 20000 in
theorem gX11_ring_X11_keeper : GoodIn wsX11_ring (wsV RX11 167 RX11 yX11_keeper wsX11_keeper) := goodIn_app (goodIn_of _ (by decide +kernel)) ggX11_ring_X11_keeper
set_option maxRecDepth 20000 in
theorem ggX11_ring_X11_tells : GoodIn wsX11_ring wsX11_tells := goodIn_r _ [21, 22, 23, 24, 25, 26, 27, 28, 29, 30, 31, 32, 33, 34, 35, 36, 37, 38, 39, 40, 41, 42, 43, 44, 45, 46, 47, 48, 49, 50, 51, 52, 53] (by decide +kernel) (by decide +kernel)
set_option maxRecDepth 20000 in
theorem gX11_ring_X11_tells : GoodIn wsX11_ring (wsV RX11 98 RX11 yX11_tells wsX11_tells) := goodIn_app (goodIn_of _ (by decide +kernel)) ggX11_ring_X11_tells
theorem dX11_ring_0 : decode cX11_ring 0 = .ok (.aload_n 0, 1) := by decide +kernel
theorem dX11_ring_1 : decode cX11_ring 1 = .ok (.iload_n 1, 1) := by decide +kernel
theorem dX11_ring_2 : decode cX11_ring 2 = .ok (.invokevirtual 158, 3) := by decide +kernel
theorem dX11_ring_5 : decode cX11_ring 5 = .ok (.ifCond .ne 5, 3) := by decide +kernel
theorem dX11_ring_8 : decode cX11_ring 8 = .ok (.iconst (-1), 1) := by decide +kernel
theorem dX11_ring_9 : decode cX11_ring 9 = .ok (.ireturn, 1) := by decide +kernel
theorem dX11_ring_10 : decode cX11_ring 10 = .ok (.iconst 0, 1) := by decide +kernel
theorem dX11_ring_11 : decode cX11_ring 11 = .ok (.istore_n 2, 1) := by decide +kernel
theorem dX11_ring_12 : decode cX11_ring 12 = .ok (.iconst 0, 1) := by decide +kernel
theorem dX11_ring_13 : decode cX11_ring 13 = .ok (.istore_n 3, 1) := by decide +kernel
theorem dX11_ring_14 : decode cX11_ring 14 = .ok (.iload_n 1, 1) := by decide +kernel
theorem dX11_ring_15 : decode cX11_ring 15 = .ok (.istore 4, 2) := by decide +kernel
theorem dX11_ring_17 : decode cX11_ring 17 = .ok (.iload 4, 2) := by decide +kernel
theorem dX11_ring_19 : decode cX11_ring 19 = .ok (.bipush (-9), 2) := by decide +kernel
theorem dX11_ring_21 : decode cX11_ring 21 = .ok (.if_icmp .eq 33, 3) := by decide +kernel
theorem dX11_ring_24 : decode cX11_ring 24 = .ok (.iload_n 2, 1) := by decide +kernel
theorem dX11_ring_25 : decode cX11_ring 25 = .ok (.iload 4, 2) := by decide +kernel
theorem dX11_ring_27 : decode cX11_ring 27 = .ok (.invokestatic 151, 3) := by decide +kernel
theorem dX11_ring_30 : decode cX11_ring 30 = .ok (.ifCond .ne 24, 3) := by decide +kernel
theorem dX11_ring_33 : decode cX11_ring 33 = .ok (.iload_n 2, 1) := by decide +kernel
theorem dX11_ring_34 : decode cX11_ring 34 = .ok (.iconst 1, 1) := by decide +kernel
theorem dX11_ring_35 : decode cX11_ring 35 = .ok (.iload 4, 2) := by decide +kernel
theorem dX11_ring_37 : decode cX11_ring 37 = .ok (.ishl, 1) := by decide +kernel
theorem dX11_ring_38 : decode cX11_ring 38 = .ok (.ior, 1) := by decide +kernel
theorem dX11_ring_39 : decode cX11_ring 39 = .ok (.istore_n 2, 1) := by decide +kernel
theorem dX11_ring_40 : decode cX11_ring 40 = .ok (.iinc 3 1, 3) := by decide +kernel
theorem dX11_ring_43 : decode cX11_ring 43 = .ok (.aload_n 0, 1) := by decide +kernel
theorem dX11_ring_44 : decode cX11_ring 44 = .ok (.iload 4, 2) := by decide +kernel
theorem dX11_ring_46 : decode cX11_ring 46 = .ok (.invokevirtual 167, 3) := by decide +kernel
theorem dX11_ring_49 : decode cX11_ring 49 = .ok (.istore 4, 2) := by decide +kernel
theorem dX11_ring_51 : decode cX11_ring 51 = .ok (.goto (-34), 3) := by decide +kernel
theorem dX11_ring_54 : decode cX11_ring 54 = .ok (.iconst 0, 1) := by decide +kernel
theorem dX11_ring_55 : decode cX11_ring 55 = .ok (.istore 5, 2) := by decide +kernel
theorem dX11_ring_57 : decode cX11_ring 57 = .ok (.iload 4, 2) := by decide +kernel
theorem dX11_ring_59 : decode cX11_ring 59 = .ok (.istore 6, 2) := by decide +kernel
theorem dX11_ring_61 : decode cX11_ring 61 = .ok (.iload 6, 2) := by decide +kernel
theorem dX11_ring_63 : decode cX11_ring 63 = .ok (.bipush (-9), 2) := by decide +kernel
theorem dX11_ring_65 : decode cX11_ring 65 = .ok (.if_icmp .eq 29, 3) := by decide +kernel
theorem dX11_ring_68 : decode cX11_ring 68 = .ok (.iload 5, 2) := by decide +kernel
theorem dX11_ring_70 : decode cX11_ring 70 = .ok (.ifCond .eq 10, 3) := by decide +kernel
theorem dX11_ring_73 : decode cX11_ring 73 = .ok (.iload 6, 2) := by decide +kernel
theorem dX11_ring_75 : decode cX11_ring 75 = .ok (.iload 4, 2) := by decide +kernel
theorem dX11_ring_77 : decode cX11_ring 77 = .ok (.if_icmp .eq 17, 3) := by decide +kernel
theorem dX11_ring_80 : decode cX11_ring 80 = .ok (.aload_n 0, 1) := by decide +kernel
theorem dX11_ring_81 : decode cX11_ring 81 = .ok (.iload 6, 2) := by decide +kernel
theorem dX11_ring_83 : decode cX11_ring 83 = .ok (.invokevirtual 167, 3) := by decide +kernel
theorem dX11_ring_86 : decode cX11_ring 86 = .ok (.istore 6, 2) := by decide +kernel
theorem dX11_ring_88 : decode cX11_ring 88 = .ok (.iinc 5 1, 3) := by decide +kernel
theorem dX11_ring_91 : decode cX11_ring 91 = .ok (.goto (-30), 3) := by decide +kernel
theorem dX11_ring_94 : decode cX11_ring 94 = .ok (.aload_n 0, 1) := by decide +kernel
theorem dX11_ring_95 : decode cX11_ring 95 = .ok (.iload 5, 2) := by decide +kernel
theorem dX11_ring_97 : decode cX11_ring 97 = .ok (.iload_n 3, 1) := by decide +kernel
theorem dX11_ring_98 : decode cX11_ring 98 = .ok (.invokevirtual 98, 3) := by decide +kernel
theorem dX11_ring_101 : decode cX11_ring 101 = .ok (.ireturn, 1) := by decide +kernel
set_option maxRecDepth 20000 in
theorem ggX11_ill_X11_isCell : GoodIn wsX11_ill wsX11_isCell := goodIn_r _ [7, 1, 8, 9, 6, 10, 78, 79, 80, 81, 82, 83, 84, 85, 86, 87, 88, 89, 90, 91, 92, 93, 94, 95, 96, 97, 98, 99, 100, 101, 102, 103, 104, 105, 106, 107, 108] (by decide +kernel) (by decide +kernel)
set_option maxRecDepth 20000 in
theorem gX11_ill_X11_isCell : GoodIn wsX11_ill (wsV RX11 158 RX11 yX11_isCell wsX11_isCell) := goodIn_app (goodIn_of _ (by decide +kernel)) ggX11_ill_X11_isCell
set_option maxRecDepth 20000 in
theorem ggX11_ill_X11_all : GoodIn wsX11_ill wsX11_all := goodIn_r _ [14, 1, 78, 79, 80, 81, 82, 83, 84, 85, 86, 87, 88, 89, 90, 91, 92, 93, 94, 95, 96, 97, 98, 99, 100, 101, 102, 103, 104, 105, 106, 107, 108] (by decide +kernel) (by decide +kernel)
set_option maxRecDepth 20000 in
theorem gX11_ill_X11_all : GoodIn wsX11_ill (wsV RX11 147 RX11 yX11_all wsX11_all) := goodIn_app (goodIn_of _ (by decide +kernel)) ggX11_ill_X11_all
set_option maxRecDepth 20000 in
theorem ggX11_ill_X11_layLeasts : GoodIn wsX11_ill wsX11_layLeasts := goodIn_r _ [18, 2, 19, 1, 11, 12, 13, 6, 14, 20, 21, 22, 23, 24, 25, 26, 27, 28, 29, 30, 31, 32, 33, 34, 35, 36, 37, 38, 39, 40, 41, 42, 43, 44, 45, 46, 47, 48, 49, 50, 51, 52, 53, 54, 55, 56, 57, 58, 59, 60, 61, 62, 63, 64, 65, 66, 67, 68, 78, 79, 80, 81, 82, 83, 84, 85, 86, 87, 88, 89, 90, 91, 92, 93, 94, 95, 96, 97, 98, 99, 100, 101, 102, 103, 104, 105, 106, 107, 108] (by decide +kernel) (by decide +kernel)
set_option maxRecDepth 20000 in
theorem gX11_ill_X11_layLeasts : GoodIn wsX11_ill (wsV RX11 205 RX11 yX11_layLeasts wsX11_layLeasts) := goodIn_app (goodIn_of _ (by decide +kernel)) ggX11_ill_X11_layLeasts
set_option maxRecDepth 20000 in
theorem ggX11_ill_X11_firstWith : GoodIn wsX11_ill wsX11_firstWith := goodIn_r _ [72, 19, 2, 11, 12, 13, 6, 14, 1, 78, 79, 80, 81, 82, 83, 84, 85, 86, 87, 88, 89, 90, 91, 92, 93, 94, 95, 96, 97, 98, 99, 100, 101, 102, 103, 104, 105, 106, 107, 108] (by decide +kernel) (by decide +kernel)
set_option maxRecDepth 20000 in
theorem gX11_ill_X11_firstWith : GoodIn wsX11_ill (wsV RX11 209 RX11 yX11_firstWith wsX11_firstWith) := goodIn_app (goodIn_of _ (by decide +kernel)) ggX11_ill_X11_firstWith
set_option maxRecDepth 20000 in
theorem ggX11_ill_X11_doQuarrel : GoodIn wsX11_ill wsX11_doQuarrel := goodIn_r _ [50, 51, 20, 21, 6, 22, 78, 79, 80, 81, 82, 83, 84, 85, 86, 87, 88, 89, 90, 91, 92, 93, 94, 95, 96, 97, 98, 99, 100, 101, 102, 103, 104, 105, 106, 107, 108] (by decide +kernel) (by decide +kernel)
set_option maxRecDepth 20000 in
theorem gX11_ill_X11_doQuarrel : GoodIn wsX11_ill (wsV RX11 182 RX11 yX11_doQuarrel wsX11_doQuarrel) := goodIn_app (goodIn_of _ (by decide +kernel)) ggX11_ill_X11_doQuarrel
set_option maxRecDepth 20000 in
theorem ggX11_ill_X11_kind : GoodIn wsX11_ill wsX11_kind := goodIn_r _ [31, 27, 78, 79, 80, 81, 82, 83, 84, 85, 86, 87, 88, 89, 90, 91, 92, 93, 94, 95, 96, 97, 98, 99, 100, 101, 102, 103, 104, 105, 106, 107, 108] (by decide +kernel) (by decide +kernel)
set_option maxRecDepth 20000 in
theorem gX11_ill_X11_kind : GoodIn wsX11_ill (wsV RX11 155 RX11 yX11_kind wsX11_kind) := goodIn_app (goodIn_of _ (by decide +kernel)) ggX11_ill_X11_kind
set_option maxRecDepth 20000 in
theorem ggX11_ill_X11_tells : GoodIn wsX11_ill wsX11_tells := goodIn_r _ [76, 77, 78, 79, 80, 81, 82, 83, 84, 85, 86, 87, 88, 89, 90, 91, 92, 93, 94, 95, 96, 97, 98, 99, 100, 101, 102, 103, 104, 105, 106, 107, 108] (by decide +kernel) (by decide +kernel)
set_option maxRecDepth 20000 in
theorem gX11_ill_X11_tells : GoodIn wsX11_ill (wsV RX11 98 RX11 yX11_tells wsX11_tells) := goodIn_app (goodIn_of _ (by decide +kernel)) ggX11_ill_X11_tells
theorem dX11_ill_0 : decode cX11_ill 0 = .ok (.aload_n 0, 1) := by decide +kernel
theorem dX11_ill_1 : decode cX11_ill 1 = .ok (.iload_n 1, 1) := by decide +kernel
theorem dX11_ill_2 : decode cX11_ill 2 = .ok (.invokevirtual 158, 3) := by decide +kernel
theorem dX11_ill_5 : decode cX11_ill 5 = .ok (.ifCond .ne 5, 3) := by decide +kernel
theorem dX11_ill_8 : decode cX11_ill 8 = .ok (.iconst (-1), 1) := by decide +kernel
theorem dX11_ill_9 : decode cX11_ill 9 = .ok (.ireturn, 1) := by decide +kernel
theorem dX11_ill_10 : decode cX11_ill 10 = .ok (.aload_n 0, 1) := by decide +kernel
theorem dX11_ill_11 : decode cX11_ill 11 = .ok (.aload_n 0, 1) := by decide +kernel
theorem dX11_ill_12 : decode cX11_ill 12 = .ok (.invokevirtual 147, 3) := by decide +kernel
theorem dX11_ill_15 : decode cX11_ill 15 = .ok (.invokevirtual 205, 3) := by decide +kernel
theorem dX11_ill_18 : decode cX11_ill 18 = .ok (.bipush (-9), 2) := by decide +kernel
theorem dX11_ill_20 : decode cX11_ill 20 = .ok (.istore_n 2, 1) := by decide +kernel
theorem dX11_ill_21 : decode cX11_ill 21 = .ok (.iconst 0, 1) := by decide +kernel
theorem dX11_ill_22 : decode cX11_ill 22 = .ok (.istore_n 3, 1) := by decide +kernel
theorem dX11_ill_23 : decode cX11_ill 23 = .ok (.iconst 0, 1) := by decide +kernel
theorem dX11_ill_24 : decode cX11_ill 24 = .ok (.istore 4, 2) := by decide +kernel
theorem dX11_ill_26 : decode cX11_ill 26 = .ok (.iload 4, 2) := by decide +kernel
theorem dX11_ill_28 : decode cX11_ill 28 = .ok (.aload_n 0, 1) := by decide +kernel
theorem dX11_ill_29 : decode cX11_ill 29 = .ok (.getfield 135, 3) := by decide +kernel
theorem dX11_ill_32 : decode cX11_ill 32 = .ok (.if_icmp .ge 92, 3) := by decide +kernel
theorem dX11_ill_35 : decode cX11_ill 35 = .ok (.aload_n 0, 1) := by decide +kernel
theorem dX11_ill_36 : decode cX11_ill 36 = .ok (.iconst 1, 1) := by decide +kernel
theorem dX11_ill_37 : decode cX11_ill 37 = .ok (.iload 4, 2) := by decide +kernel
theorem dX11_ill_39 : decode cX11_ill 39 = .ok (.ishl, 1) := by decide +kernel
theorem dX11_ill_40 : decode cX11_ill 40 = .ok (.invokevirtual 209, 3) := by decide +kernel
theorem dX11_ill_43 : decode cX11_ill 43 = .ok (.istore 5, 2) := by decide +kernel
theorem dX11_ill_45 : decode cX11_ill 45 = .ok (.iload 4, 2) := by decide +kernel
theorem dX11_ill_47 : decode cX11_ill 47 = .ok (.iload_n 1, 1) := by decide +kernel
theorem dX11_ill_48 : decode cX11_ill 48 = .ok (.if_icmp .eq 34, 3) := by decide +kernel
theorem dX11_ill_51 : decode cX11_ill 51 = .ok (.aload_n 0, 1) := by decide +kernel
theorem dX11_ill_52 : decode cX11_ill 52 = .ok (.iload_n 1, 1) := by decide +kernel
theorem dX11_ill_53 : decode cX11_ill 53 = .ok (.iload 4, 2) := by decide +kernel
theorem dX11_ill_55 : decode cX11_ill 55 = .ok (.invokevirtual 182, 3) := by decide +kernel
theorem dX11_ill_58 : decode cX11_ill 58 = .ok (.ifCond .ne 24, 3) := by decide +kernel
theorem dX11_ill_61 : decode cX11_ill 61 = .ok (.aload_n 0, 1) := by decide +kernel
theorem dX11_ill_62 : decode cX11_ill 62 = .ok (.iload 4, 2) := by decide +kernel
theorem dX11_ill_64 : decode cX11_ill 64 = .ok (.invokevirtual 155, 3) := by decide +kernel
theorem dX11_ill_67 : decode cX11_ill 67 = .ok (.iconst 4, 1) := by decide +kernel
theorem dX11_ill_68 : decode cX11_ill 68 = .ok (.if_icmp .eq 14, 3) := by decide +kernel
theorem dX11_ill_71 : decode cX11_ill 71 = .ok (.iload 5, 2) := by decide +kernel
theorem dX11_ill_73 : decode cX11_ill 73 = .ok (.bipush (-9), 2) := by decide +kernel
theorem dX11_ill_75 : decode cX11_ill 75 = .ok (.if_icmp .eq 7, 3) := by decide +kernel
theorem dX11_ill_78 : decode cX11_ill 78 = .ok (.iconst 1, 1) := by decide +kernel
theorem dX11_ill_79 : decode cX11_ill 79 = .ok (.goto 4, 3) := by decide +kernel
theorem dX11_ill_82 : decode cX11_ill 82 = .ok (.iconst 0, 1) := by decide +kernel
theorem dX11_ill_83 : decode cX11_ill 83 = .ok (.istore 6, 2) := by decide +kernel
theorem dX11_ill_85 : decode cX11_ill 85 = .ok (.iload 6, 2) := by decide +kernel
theorem dX11_ill_87 : decode cX11_ill 87 = .ok (.ifCond .eq 31, 3) := by decide +kernel
theorem dX11_ill_90 : decode cX11_ill 90 = .ok (.iload_n 2, 1) := by decide +kernel
theorem dX11_ill_91 : decode cX11_ill 91 = .ok (.bipush (-9), 2) := by decide +kernel
theorem dX11_ill_93 : decode cX11_ill 93 = .ok (.if_icmp .eq 14, 3) := by decide +kernel
theorem dX11_ill_96 : decode cX11_ill 96 = .ok (.aload_n 0, 1) := by decide +kernel
theorem dX11_ill_97 : decode cX11_ill 97 = .ok (.getfield 47, 3) := by decide +kernel
theorem dX11_ill_100 : decode cX11_ill 100 = .ok (.iload 5, 2) := by decide +kernel
theorem dX11_ill_102 : decode cX11_ill 102 = .ok (.iaload, 1) := by decide +kernel
theorem dX11_ill_103 : decode cX11_ill 103 = .ok (.iload_n 3, 1) := by decide +kernel
theorem dX11_ill_104 : decode cX11_ill 104 = .ok (.if_icmp .ge 14, 3) := by decide +kernel
theorem dX11_ill_107 : decode cX11_ill 107 = .ok (.iload 4, 2) := by decide +kernel
theorem dX11_ill_109 : decode cX11_ill 109 = .ok (.istore_n 2, 1) := by decide +kernel
theorem dX11_ill_110 : decode cX11_ill 110 = .ok (.aload_n 0, 1) := by decide +kernel
theorem dX11_ill_111 : decode cX11_ill 111 = .ok (.getfield 47, 3) := by decide +kernel
theorem dX11_ill_114 : decode cX11_ill 114 = .ok (.iload 5, 2) := by decide +kernel
theorem dX11_ill_116 : decode cX11_ill 116 = .ok (.iaload, 1) := by decide +kernel
theorem dX11_ill_117 : decode cX11_ill 117 = .ok (.istore_n 3, 1) := by decide +kernel
theorem dX11_ill_118 : decode cX11_ill 118 = .ok (.iinc 4 1, 3) := by decide +kernel
theorem dX11_ill_121 : decode cX11_ill 121 = .ok (.goto (-95), 3) := by decide +kernel
theorem dX11_ill_124 : decode cX11_ill 124 = .ok (.iload_n 2, 1) := by decide +kernel
theorem dX11_ill_125 : decode cX11_ill 125 = .ok (.bipush (-9), 2) := by decide +kernel
theorem dX11_ill_127 : decode cX11_ill 127 = .ok (.if_icmp .ne 8, 3) := by decide +kernel
theorem dX11_ill_130 : decode cX11_ill 130 = .ok (.bipush (-9), 2) := by decide +kernel
theorem dX11_ill_132 : decode cX11_ill 132 = .ok (.goto 9, 3) := by decide +kernel
theorem dX11_ill_135 : decode cX11_ill 135 = .ok (.aload_n 0, 1) := by decide +kernel
theorem dX11_ill_136 : decode cX11_ill 136 = .ok (.iload_n 2, 1) := by decide +kernel
theorem dX11_ill_137 : decode cX11_ill 137 = .ok (.iload_n 3, 1) := by decide +kernel
theorem dX11_ill_138 : decode cX11_ill 138 = .ok (.invokevirtual 98, 3) := by decide +kernel
theorem dX11_ill_141 : decode cX11_ill 141 = .ok (.ireturn, 1) := by decide +kernel
set_option maxRecDepth 20000 in
theorem ggX11_without_X11_isCell : GoodIn wsX11_without wsX11_isCell := goodIn_r _ [5, 6, 7, 8, 4, 9, 82, 83, 84, 85, 86, 87, 88, 89, 90, 91, 92, 93, 94, 95, 96, 97, 98, 99, 100, 101, 102, 103, 104, 105, 106, 107, 108, 109, 110, 111, 112] (by decide +kernel) (by decide +kernel)
set_option maxRecDepth 20000 in
theorem gX11_without_X11_isCell : GoodIn wsX11_without (wsV RX11 158 RX11 yX11_isCell wsX11_isCell) := goodIn_app (goodIn_of _ (by decide +kernel)) ggX11_without_X11_isCell
set_option maxRecDepth 20000 in
theorem ggX11_without_X11_all : GoodIn wsX11_without wsX11_all := goodIn_r _ [13, 6, 82, 83, 84, 85, 86, 87, 88, 89, 90, 91, 92, 93, 94, 95, 96, 97, 98, 99, 100, 101, 102, 103, 104, 105, 106, 107, 108, 109, 110, 111, 112] (by decide +kernel) (by decide +kernel)
set_option maxRecDepth 20000 in
theorem gX11_without_X11_all : GoodIn wsX11_without (wsV RX11 147 RX11 yX11_all wsX11_all) := goodIn_app (goodIn_of _ (by decide +kernel)) ggX11_without_X11_all
set_option maxRecDepth 20000 in
theorem ggX11_without_X11_layLeasts : GoodIn wsX11_without wsX11_layLeasts := goodIn_r _ [17, 18, 19, 6, 10, 11, 12, 4, 13, 20, 21, 22, 23, 24, 25, 26, 27, 28, 29, 30, 31, 32, 33, 34, 35, 36, 37, 38, 39, 40, 41, 42, 43, 44, 45, 46, 47, 48, 49, 50, 51, 52, 53, 54, 55, 56, 57, 58, 59, 60, 61, 62, 63, 64, 65, 66, 67, 68, 82, 83, 84, 85, 86, 87, 88, 89, 90, 91, 92, 93, 94, 95, 96, 97, 98, 99, 100, 101, 102, 103, 104, 105, 106, 107, 108, 109, 110, 111, 112] (by decide +kernel) (by decide +kernel)
set_option maxRecDepth 20000 in
theorem gX11_without_X11_layLeasts : GoodIn wsX11_without (wsV RX11 205 RX11 yX11_layLeasts wsX11_layLeasts) := goodIn_app (goodIn_of _ (by decide +kernel)) ggX11_without_X11_layLeasts
set_option maxRecDepth 20000 in
theorem ggX11_without_X11_reachedMany : GoodIn wsX11_without wsX11_reachedMany := goodIn_r _ [72, 19, 10, 11, 12, 4, 13, 6, 82, 83, 84, 85, 86, 87, 88, 89, 90, 91, 92, 93, 94, 95, 96, 97, 98, 99, 100, 101, 102, 103, 104, 105, 106, 107, 108, 109, 110, 111, 112] (by decide +kernel) (by decide +kernel)
set_option maxRecDepth 20000 in
theorem gX11_without_X11_reachedMany : GoodIn wsX11_without (wsV RX11 212 RX11 yX11_reachedMany wsX11_reachedMany) := goodIn_app (goodIn_of _ (by decide +kernel)) ggX11_without_X11_reachedMany
set_option maxRecDepth 20000 in
theorem ggX11_without_X11_everOut : GoodIn wsX11_without wsX11_everOut := goodIn_r _ [76, 19, 10, 11, 12, 4, 13, 6, 82, 83, 84, 85, 86, 87, 88, 89, 90, 91, 92, 93, 94, 95, 96, 97, 98, 99, 100, 101, 102, 103, 104, 105, 106, 107, 108, 109, 110, 111, 112] (by decide +kernel) (by decide +kernel)
set_option maxRecDepth 20000 in
theorem gX11_without_X11_everOut : GoodIn wsX11_without (wsV RX11 215 RX11 yX11_everOut wsX11_everOut) := goodIn_app (goodIn_of _ (by decide +kernel)) ggX11_without_X11_everOut
set_option maxRecDepth 20000 in
theorem ggX11_without_X11_tells : GoodIn wsX11_without wsX11_tells := goodIn_r _ [80, 81, 82, 83, 84, 85, 86, 87, 88, 89, 90, 91, 92, 93, 94, 95, 96, 97, 98, 99, 100, 101, 102, 103, 104, 105, 106, 107, 108, 109, 110, 111, 112] (by decide +kernel) (by decide +kernel)
set_option maxRecDepth 20000 in
theorem gX11_without_X11_tells : GoodIn wsX11_without (wsV RX11 98 RX11 yX11_tells wsX11_tells) := goodIn_app (goodIn_of _ (by decide +kernel)) ggX11_without_X11_tells
theorem dX11_without_0 : decode cX11_without 0 = .ok (.aload_n 0, 1) := by decide +kernel
theorem dX11_without_1 : decode cX11_without 1 = .ok (.iload_n 1, 1) := by decide +kernel
theorem dX11_without_2 : decode cX11_without 2 = .ok (.invokevirtual 158, 3) := by decide +kernel
theorem dX11_without_5 : decode cX11_without 5 = .ok (.ifCond .ne 5, 3) := by decide +kernel
theorem dX11_without_8 : decode cX11_without 8 = .ok (.iconst (-1), 1) := by decide +kernel
theorem dX11_without_9 : decode cX11_without 9 = .ok (.ireturn, 1) := by decide +kernel
theorem dX11_without_10 : decode cX11_without 10 = .ok (.aload_n 0, 1) := by decide +kernel
theorem dX11_without_11 : decode cX11_without 11 = .ok (.aload_n 0, 1) := by decide +kernel
theorem dX11_without_12 : decode cX11_without 12 = .ok (.invokevirtual 147, 3) := by decide +kernel
theorem dX11_without_15 : decode cX11_without 15 = .ok (.invokevirtual 205, 3) := by decide +kernel
theorem dX11_without_18 : decode cX11_without 18 = .ok (.aload_n 0, 1) := by decide +kernel
theorem dX11_without_19 : decode cX11_without 19 = .ok (.invokevirtual 212, 3) := by decide +kernel
theorem dX11_without_22 : decode cX11_without 22 = .ok (.istore_n 2, 1) := by decide +kernel
theorem dX11_without_23 : decode cX11_without 23 = .ok (.aload_n 0, 1) := by decide +kernel
theorem dX11_without_24 : decode cX11_without 24 = .ok (.invokevirtual 215, 3) := by decide +kernel
theorem dX11_without_27 : decode cX11_without 27 = .ok (.istore_n 3, 1) := by decide +kernel
theorem dX11_without_28 : decode cX11_without 28 = .ok (.aload_n 0, 1) := by decide +kernel
theorem dX11_without_29 : decode cX11_without 29 = .ok (.aload_n 0, 1) := by decide +kernel
theorem dX11_without_30 : decode cX11_without 30 = .ok (.invokevirtual 147, 3) := by decide +kernel
theorem dX11_without_33 : decode cX11_without 33 = .ok (.iconst 1, 1) := by decide +kernel
theorem dX11_without_34 : decode cX11_without 34 = .ok (.iload_n 1, 1) := by decide +kernel
theorem dX11_without_35 : decode cX11_without 35 = .ok (.ishl, 1) := by decide +kernel
theorem dX11_without_36 : decode cX11_without 36 = .ok (.iconst (-1), 1) := by decide +kernel
theorem dX11_without_37 : decode cX11_without 37 = .ok (.ixor, 1) := by decide +kernel
theorem dX11_without_38 : decode cX11_without 38 = .ok (.iand, 1) := by decide +kernel
theorem dX11_without_39 : decode cX11_without 39 = .ok (.invokevirtual 205, 3) := by decide +kernel
theorem dX11_without_42 : decode cX11_without 42 = .ok (.aload_n 0, 1) := by decide +kernel
theorem dX11_without_43 : decode cX11_without 43 = .ok (.iload_n 3, 1) := by decide +kernel
theorem dX11_without_44 : decode cX11_without 44 = .ok (.aload_n 0, 1) := by decide +kernel
theorem dX11_without_45 : decode cX11_without 45 = .ok (.invokevirtual 215, 3) := by decide +kernel
theorem dX11_without_48 : decode cX11_without 48 = .ok (.iconst (-1), 1) := by decide +kernel
theorem dX11_without_49 : decode cX11_without 49 = .ok (.ixor, 1) := by decide +kernel
theorem dX11_without_50 : decode cX11_without 50 = .ok (.iand, 1) := by decide +kernel
theorem dX11_without_51 : decode cX11_without 51 = .ok (.iconst 1, 1) := by decide +kernel
theorem dX11_without_52 : decode cX11_without 52 = .ok (.iload_n 1, 1) := by decide +kernel
theorem dX11_without_53 : decode cX11_without 53 = .ok (.ishl, 1) := by decide +kernel
theorem dX11_without_54 : decode cX11_without 54 = .ok (.iconst (-1), 1) := by decide +kernel
theorem dX11_without_55 : decode cX11_without 55 = .ok (.ixor, 1) := by decide +kernel
theorem dX11_without_56 : decode cX11_without 56 = .ok (.iand, 1) := by decide +kernel
theorem dX11_without_57 : decode cX11_without 57 = .ok (.iload_n 2, 1) := by decide +kernel
theorem dX11_without_58 : decode cX11_without 58 = .ok (.aload_n 0, 1) := by decide +kernel
theorem dX11_without_59 : decode cX11_without 59 = .ok (.invokevirtual 212, 3) := by decide +kernel
theorem dX11_without_62 : decode cX11_without 62 = .ok (.isub, 1) := by decide +kernel
theorem dX11_without_63 : decode cX11_without 63 = .ok (.invokevirtual 98, 3) := by decide +kernel
theorem dX11_without_66 : decode cX11_without 66 = .ok (.ireturn, 1) := by decide +kernel
set_option maxRecDepth 20000 in
theorem ggX11_bandCost_X11_layLeasts : GoodIn wsX11_bandCost wsX11_layLeasts := goodIn_r _ [7, 2, 1, 8, 9, 10, 11, 6, 12, 13, 14, 15, 16, 17, 18, 19, 20, 21, 22, 23, 24, 25, 26, 27, 28, 29, 30, 31, 32, 33, 34, 35, 36, 37, 38, 39, 40, 41, 42, 43, 44, 45, 46, 47, 48, 49, 50, 51, 52, 53, 54, 55, 56, 57, 58, 59, 60, 61, 62, 63, 64, 65, 66, 67, 68, 69, 70, 71, 72, 73, 74, 75, 76, 77, 78, 79, 80, 81, 82, 83, 84, 85, 86, 87, 88, 89, 90, 91, 92] (by decide +kernel) (by decide +kernel)
set_option maxRecDepth 20000 in
theorem gX11_bandCost_X11_layLeasts : GoodIn wsX11_bandCost (wsV RX11 205 RX11 yX11_layLeasts wsX11_layLeasts) := goodIn_app (goodIn_of _ (by decide +kernel)) ggX11_bandCost_X11_layLeasts
theorem dX11_bandCost_0 : decode cX11_bandCost 0 = .ok (.aload_n 0, 1) := by decide +kernel
theorem dX11_bandCost_1 : decode cX11_bandCost 1 = .ok (.iload_n 1, 1) := by decide +kernel
theorem dX11_bandCost_2 : decode cX11_bandCost 2 = .ok (.invokevirtual 205, 3) := by decide +kernel
theorem dX11_bandCost_5 : decode cX11_bandCost 5 = .ok (.aload_n 0, 1) := by decide +kernel
theorem dX11_bandCost_6 : decode cX11_bandCost 6 = .ok (.getfield 50, 3) := by decide +kernel
theorem dX11_bandCost_9 : decode cX11_bandCost 9 = .ok (.iload_n 1, 1) := by decide +kernel
theorem dX11_bandCost_10 : decode cX11_bandCost 10 = .ok (.iaload, 1) := by decide +kernel
theorem dX11_bandCost_11 : decode cX11_bandCost 11 = .ok (.ifCond .le 12, 3) := by decide +kernel
theorem dX11_bandCost_14 : decode cX11_bandCost 14 = .ok (.aload_n 0, 1) := by decide +kernel
theorem dX11_bandCost_15 : decode cX11_bandCost 15 = .ok (.getfield 47, 3) := by decide +kernel
theorem dX11_bandCost_18 : decode cX11_bandCost 18 = .ok (.iload_n 1, 1) := by decide +kernel
theorem dX11_bandCost_19 : decode cX11_bandCost 19 = .ok (.iaload, 1) := by decide +kernel
theorem dX11_bandCost_20 : decode cX11_bandCost 20 = .ok (.goto 6, 3) := by decide +kernel
theorem dX11_bandCost_23 : decode cX11_bandCost 23 = .ok (.sipush 1000, 3) := by decide +kernel
theorem dX11_bandCost_26 : decode cX11_bandCost 26 = .ok (.ireturn, 1) := by decide +kernel
set_option maxRecDepth 20000 in
theorem ggX11_band_X11_isSet : GoodIn wsX11_band wsX11_isSet := goodIn_r _ [5, 6, 7, 8, 4, 9, 10, 11, 12, 13, 73, 74, 75, 76, 77, 78, 79, 80, 81, 82, 83, 84, 85, 86, 87, 88, 89, 90, 91, 92, 93, 94, 95, 96, 97, 98, 99, 100, 101, 102, 103] (by decide +kernel) (by decide +kernel)
set_option maxRecDepth 20000 in
theorem gX11_band_X11_isSet : GoodIn wsX11_band (wsV RX11 202 RX11 yX11_isSet wsX11_isSet) := goodIn_app (goodIn_of _ (by decide +kernel)) ggX11_band_X11_isSet
set_option maxRecDepth 20000 in
theorem ggX11_band_X11_bandCost : GoodIn wsX11_band wsX11_bandCost := goodIn_r _ [17, 18, 19, 20, 21, 22, 4, 23, 10, 6, 7, 8, 9, 24, 25, 26, 27, 28, 29, 30, 31, 32, 33, 34, 35, 36, 37, 38, 39, 40, 41, 42, 43, 44, 45, 46, 47, 48, 49, 50, 51, 52, 53, 54, 55, 56, 57, 58, 59, 60, 61, 62, 63, 64, 65, 66, 67, 68, 69, 70, 71, 72, 73, 74, 75, 76, 77, 78, 79, 80, 81, 82, 83, 84, 85, 86, 87, 88, 89, 90, 91, 92, 93, 94, 95, 96, 97, 98, 99, 100, 101, 102, 103] (by decide +kernel) (by decide +kernel)
set_option maxRecDepth 20000 in
theorem gX11_band_X11_bandCost : GoodIn wsX11_band (wsV RX11 218 RX11 yX11_bandCost wsX11_bandCost) := goodIn_app (goodIn_of _ (by decide +kernel)) ggX11_band_X11_bandCost
theorem dX11_band_0 : decode cX11_band 0 = .ok (.aload_n 0, 1) := by decide +kernel
theorem dX11_band_1 : decode cX11_band 1 = .ok (.iload_n 1, 1) := by decide +kernel
theorem dX11_band_2 : decode cX11_band 2 = .ok (.invokevirtual 202, 3) := by decide +kernel
theorem dX11_band_5 : decode cX11_band 5 = .ok (.ifCond .eq 7, 3) := by decide +kernel
theorem dX11_band_8 : decode cX11_band 8 = .ok (.iload_n 1, 1) := by decide +kernel
theorem dX11_band_9 : decode cX11_band 9 = .ok (.ifCond .ne 5, 3) := by decide +kernel
theorem dX11_band_12 : decode cX11_band 12 = .ok (.iconst (-1), 1) := by decide +kernel
theorem dX11_band_13 : decode cX11_band 13 = .ok (.ireturn, 1) := by decide +kernel
theorem dX11_band_14 : decode cX11_band 14 = .ok (.aload_n 0, 1) := by decide +kernel
theorem dX11_band_15 : decode cX11_band 15 = .ok (.iload_n 1, 1) := by decide +kernel
theorem dX11_band_16 : decode cX11_band 16 = .ok (.invokevirtual 218, 3) := by decide +kernel
theorem dX11_band_19 : decode cX11_band 19 = .ok (.istore_n 2, 1) := by decide +kernel
theorem dX11_band_20 : decode cX11_band 20 = .ok (.iload_n 2, 1) := by decide +kernel
theorem dX11_band_21 : decode cX11_band 21 = .ok (.sipush 1000, 3) := by decide +kernel
theorem dX11_band_24 : decode cX11_band 24 = .ok (.if_icmp .lt 8, 3) := by decide +kernel
theorem dX11_band_27 : decode cX11_band 27 = .ok (.bipush (-9), 2) := by decide +kernel
theorem dX11_band_29 : decode cX11_band 29 = .ok (.goto 4, 3) := by decide +kernel
theorem dX11_band_32 : decode cX11_band 32 = .ok (.iload_n 2, 1) := by decide +kernel
theorem dX11_band_33 : decode cX11_band 33 = .ok (.ireturn, 1) := by decide +kernel
set_option maxRecDepth 20000 in
theorem ggX11_bands_X11_in : GoodIn wsX11_bands wsX11_in := goodIn_r _ [5] (by decide +kernel) (by decide +kernel)
set_option maxRecDepth 20000 in
theorem gX11_bands_X11_in : GoodIn wsX11_bands (va_wsS RX11 76 yX11_in wsX11_in) := goodIn_app (goodIn_of _ (by decide +kernel)) ggX11_bands_X11_in
set_option maxRecDepth 20000 in
theorem ggX11_bands_X11_all : GoodIn wsX11_bands wsX11_all := goodIn_r _ [9, 1, 74, 75, 76, 77, 78, 79, 80, 81, 82, 83, 84, 85, 86, 87, 88, 89, 90, 91, 92, 93, 94, 95, 96, 97, 98, 99, 100, 101, 102, 103, 104] (by decide +kernel) (by decide +kernel)
set_option maxRecDepth 20000 in
theorem gX11_bands_X11_all : GoodIn wsX11_bands (wsV RX11 147 RX11 yX11_all wsX11_all) := goodIn_app (goodIn_of _ (by decide +kernel)) ggX11_bands_X11_all
set_option maxRecDepth 20000 in
theorem ggX11_bands_X11_bits : GoodIn wsX11_bands wsX11_bits := goodIn_r _ [12] (by decide +kernel) (by decide +kernel)
set_option maxRecDepth 20000 in
theorem gX11_bands_X11_bits : GoodIn wsX11_bands (va_wsS RX11 188 yX11_bits wsX11_bits) := goodIn_app (goodIn_of _ (by decide +kernel)) ggX11_bands_X11_bits
set_option maxRecDepth 20000 in
theorem ggX11_bands_X11_bandCost : GoodIn wsX11_bands wsX11_bandCost := goodIn_r _ [16, 17, 18, 19, 20, 21, 4, 22, 1, 6, 7, 8, 9, 23, 24, 25, 26, 27, 28, 29, 30, 31, 32, 33, 34, 35, 36, 37, 38, 10, 11, 12, 39, 40, 41, 42, 43, 44, 45, 46, 47, 48, 49, 50, 51, 52, 53, 54, 55, 56, 57, 58, 59, 60, 61, 62, 63, 64, 65, 66, 67, 68, 74, 75, 76, 77, 78, 79, 80, 81, 82, 83, 84, 85, 86, 87, 88, 89, 90, 91, 92, 93, 94, 95, 96, 97, 98, 99, 100, 101, 102, 103, 104] (by decide +kernel) (by decide +kernel)
set_option maxRecDepth 20000 in
theorem gX11_bands_X11_bandCost : GoodIn wsX11_bands (wsV RX11 218 RX11 yX11_bandCost wsX11_bandCost) := goodIn_app (goodIn_of _ (by decide +kernel)) ggX11_bands_X11_bandCost
set_option maxRecDepth 20000 in
theorem ggX11_bands_X11_tells : GoodIn wsX11_bands wsX11_tells := goodIn_r _ [72, 73, 74, 75, 76, 77, 78, 79, 80, 81, 82, 83, 84, 85, 86, 87, 88, 89, 90, 91, 92, 93, 94, 95, 96, 97, 98, 99, 100, 101, 102, 103, 104] (by decide +kernel) (by decide +kernel)
set_option maxRecDepth 20000 in
theorem gX11_bands_X11_tells : GoodIn wsX11_bands (wsV RX11 98 RX11 yX11_tells wsX11_tells) := goodIn_app (goodIn_of _ (by decide +kernel)) ggX11_bands_X11_tells
theorem dX11_bands_0 : decode cX11_bands 0 = .ok (.iload_n 1, 1) := by decide +kernel
theorem dX11_bands_1 : decode cX11_bands 1 = .ok (.iconst 1, 1) := by decide +kernel
theorem dX11_bands_2 : decode cX11_bands 2 = .ok (.aload_n 0, 1) := by decide +kernel
theorem dX11_bands_3 : decode cX11_bands 3 = .ok (.getfield 135, 3) := by decide +kernel
theorem dX11_bands_6 : decode cX11_bands 6 = .ok (.invokestatic 76, 3) := by decide +kernel
theorem dX11_bands_9 : decode cX11_bands 9 = .ok (.ifCond .ne 5, 3) := by decide +kernel
theorem dX11_bands_12 : decode cX11_bands 12 = .ok (.iconst (-1), 1) := by decide +kernel
theorem dX11_bands_13 : decode cX11_bands 13 = .ok (.ireturn, 1) := by decide +kernel
theorem dX11_bands_14 : decode cX11_bands 14 = .ok (.bipush (-9), 2) := by decide +kernel
theorem dX11_bands_16 : decode cX11_bands 16 = .ok (.istore_n 2, 1) := by decide +kernel
theorem dX11_bands_17 : decode cX11_bands 17 = .ok (.iconst 0, 1) := by decide +kernel
theorem dX11_bands_18 : decode cX11_bands 18 = .ok (.istore_n 3, 1) := by decide +kernel
theorem dX11_bands_19 : decode cX11_bands 19 = .ok (.iconst 1, 1) := by decide +kernel
theorem dX11_bands_20 : decode cX11_bands 20 = .ok (.istore 4, 2) := by decide +kernel
theorem dX11_bands_22 : decode cX11_bands 22 = .ok (.iload 4, 2) := by decide +kernel
theorem dX11_bands_24 : decode cX11_bands 24 = .ok (.aload_n 0, 1) := by decide +kernel
theorem dX11_bands_25 : decode cX11_bands 25 = .ok (.invokevirtual 147, 3) := by decide +kernel
theorem dX11_bands_28 : decode cX11_bands 28 = .ok (.if_icmp .gt 44, 3) := by decide +kernel
theorem dX11_bands_31 : decode cX11_bands 31 = .ok (.iload 4, 2) := by decide +kernel
theorem dX11_bands_33 : decode cX11_bands 33 = .ok (.invokestatic 188, 3) := by decide +kernel
theorem dX11_bands_36 : decode cX11_bands 36 = .ok (.iload_n 1, 1) := by decide +kernel
theorem dX11_bands_37 : decode cX11_bands 37 = .ok (.if_icmp .ne 29, 3) := by decide +kernel
theorem dX11_bands_40 : decode cX11_bands 40 = .ok (.aload_n 0, 1) := by decide +kernel
theorem dX11_bands_41 : decode cX11_bands 41 = .ok (.iload 4, 2) := by decide +kernel
theorem dX11_bands_43 : decode cX11_bands 43 = .ok (.invokevirtual 218, 3) := by decide +kernel
theorem dX11_bands_46 : decode cX11_bands 46 = .ok (.sipush 1000, 3) := by decide +kernel
theorem dX11_bands_49 : decode cX11_bands 49 = .ok (.if_icmp .ge 17, 3) := by decide +kernel
theorem dX11_bands_52 : decode cX11_bands 52 = .ok (.iload_n 3, 1) := by decide +kernel
theorem dX11_bands_53 : decode cX11_bands 53 = .ok (.ifCond .ne 8, 3) := by decide +kernel
theorem dX11_bands_56 : decode cX11_bands 56 = .ok (.iload 4, 2) := by decide +kernel
theorem dX11_bands_58 : decode cX11_bands 58 = .ok (.goto 4, 3) := by decide +kernel
theorem dX11_bands_61 : decode cX11_bands 61 = .ok (.iload_n 2, 1) := by decide +kernel
theorem dX11_bands_62 : decode cX11_bands 62 = .ok (.istore_n 2, 1) := by decide +kernel
theorem dX11_bands_63 : decode cX11_bands 63 = .ok (.iinc 3 1, 3) := by decide +kernel
theorem dX11_bands_66 : decode cX11_bands 66 = .ok (.iinc 4 1, 3) := by decide +kernel
theorem dX11_bands_69 : decode cX11_bands 69 = .ok (.goto (-47), 3) := by decide +kernel
theorem dX11_bands_72 : decode cX11_bands 72 = .ok (.aload_n 0, 1) := by decide +kernel
theorem dX11_bands_73 : decode cX11_bands 73 = .ok (.iload_n 2, 1) := by decide +kernel
theorem dX11_bands_74 : decode cX11_bands 74 = .ok (.iload_n 3, 1) := by decide +kernel
theorem dX11_bands_75 : decode cX11_bands 75 = .ok (.invokevirtual 98, 3) := by decide +kernel
theorem dX11_bands_78 : decode cX11_bands 78 = .ok (.ireturn, 1) := by decide +kernel
set_option maxRecDepth 20000 in
theorem ggX11_hasNoBand_X11_all : GoodIn wsX11_hasNoBand wsX11_all := goodIn_r _ [5, 6, 66, 67, 68, 69, 70, 71, 72, 73, 74, 75, 76, 77, 78, 79, 80, 81, 82, 83, 84, 85, 86, 87, 88, 89, 90, 91, 92, 93, 94, 95, 96] (by decide +kernel) (by decide +kernel)
set_option maxRecDepth 20000 in
theorem gX11_hasNoBand_X11_all : GoodIn wsX11_hasNoBand (wsV RX11 147 RX11 yX11_all wsX11_all) := goodIn_app (goodIn_of _ (by decide +kernel)) ggX11_hasNoBand_X11_all
set_option maxRecDepth 20000 in
theorem ggX11_hasNoBand_X11_bits : GoodIn wsX11_hasNoBand wsX11_bits := goodIn_r _ [9] (by decide +kernel) (by decide +kernel)
set_option maxRecDepth 20000 in
theorem gX11_hasNoBand_X11_bits : GoodIn wsX11_hasNoBand (va_wsS RX11 188 yX11_bits wsX11_bits) := goodIn_app (goodIn_of _ (by decide +kernel)) ggX11_hasNoBand_X11_bits
set_option maxRecDepth 20000 in
theorem ggX11_hasNoBand_X11_bandCost : GoodIn wsX11_hasNoBand wsX11_bandCost := goodIn_r _ [13, 14, 15, 16, 17, 18, 4, 19, 6, 1, 2, 3, 5, 20, 21, 22, 23, 24, 25, 26, 27, 28, 29, 30, 31, 32, 33, 34, 35, 7, 8, 9, 36, 37, 38, 39, 40, 41, 42, 43, 44, 45, 46, 47, 48, 49, 50, 51, 52, 53, 54, 55, 56, 57, 58, 59, 60, 61, 62, 63, 64, 65, 66, 67, 68, 69, 70, 71, 72, 73, 74, 75, 76, 77, 78, 79, 80, 81, 82, 83, 84, 85, 86, 87, 88, 89, 90, 91, 92, 93, 94, 95, 96] (by decide +kernel) (by decide +kernel)
set_option maxRecDepth 20000 in
theorem gX11_hasNoBand_X11_bandCost : GoodIn wsX11_hasNoBand (wsV RX11 218 RX11 yX11_bandCost wsX11_bandCost) := goodIn_app (goodIn_of _ (by decide +kernel)) ggX11_hasNoBand_X11_bandCost
theorem dX11_hasNoBand_0 : decode cX11_hasNoBand 0 = .ok (.iconst 1, 1) := by decide +kernel
theorem dX11_hasNoBand_1 : decode cX11_hasNoBand 1 = .ok (.istore_n 2, 1) := by decide +kernel
theorem dX11_hasNoBand_2 : decode cX11_hasNoBand 2 = .ok (.iload_n 2, 1) := by decide +kernel
theorem dX11_hasNoBand_3 : decode cX11_hasNoBand 3 = .ok (.aload_n 0, 1) := by decide +kernel
theorem dX11_hasNoBand_4 : decode cX11_hasNoBand 4 = .ok (.invokevirtual 147, 3) := by decide +kernel
theorem dX11_hasNoBand_7 : decode cX11_hasNoBand 7 = .ok (.if_icmp .gt 30, 3) := by decide +kernel
theorem dX11_hasNoBand_10 : decode cX11_hasNoBand 10 = .ok (.iload_n 2, 1) := by decide +kernel
theorem dX11_hasNoBand_11 : decode cX11_hasNoBand 11 = .ok (.invokestatic 188, 3) := by decide +kernel
theorem dX11_hasNoBand_14 : decode cX11_hasNoBand 14 = .ok (.iload_n 1, 1) := by decide +kernel
theorem dX11_hasNoBand_15 : decode cX11_hasNoBand 15 = .ok (.if_icmp .ne 16, 3) := by decide +kernel
theorem dX11_hasNoBand_18 : decode cX11_hasNoBand 18 = .ok (.aload_n 0, 1) := by decide +kernel
theorem dX11_hasNoBand_19 : decode cX11_hasNoBand 19 = .ok (.iload_n 2, 1) := by decide +kernel
theorem dX11_hasNoBand_20 : decode cX11_hasNoBand 20 = .ok (.invokevirtual 218, 3) := by decide +kernel
theorem dX11_hasNoBand_23 : decode cX11_hasNoBand 23 = .ok (.sipush 1000, 3) := by decide +kernel
theorem dX11_hasNoBand_26 : decode cX11_hasNoBand 26 = .ok (.if_icmp .ge 5, 3) := by decide +kernel
theorem dX11_hasNoBand_29 : decode cX11_hasNoBand 29 = .ok (.iconst 0, 1) := by decide +kernel
theorem dX11_hasNoBand_30 : decode cX11_hasNoBand 30 = .ok (.ireturn, 1) := by decide +kernel
theorem dX11_hasNoBand_31 : decode cX11_hasNoBand 31 = .ok (.iinc 2 1, 3) := by decide +kernel
theorem dX11_hasNoBand_34 : decode cX11_hasNoBand 34 = .ok (.goto (-32), 3) := by decide +kernel
theorem dX11_hasNoBand_37 : decode cX11_hasNoBand 37 = .ok (.iconst 1, 1) := by decide +kernel
theorem dX11_hasNoBand_38 : decode cX11_hasNoBand 38 = .ok (.ireturn, 1) := by decide +kernel
set_option maxRecDepth 20000 in
theorem ggX11_mayKeep_X11_otherKeeper : GoodIn wsX11_mayKeep wsX11_otherKeeper := goodIn_r _ [5, 6, 7, 8, 9, 10, 11, 12, 13, 14, 15, 16, 17, 18, 19, 20, 21, 22, 23, 24, 25, 26, 27, 28, 29, 30, 31, 32, 33, 34, 35, 36, 37] (by decide +kernel) (by decide +kernel)
set_option maxRecDepth 20000 in
theorem gX11_mayKeep_X11_otherKeeper : GoodIn wsX11_mayKeep (wsV RX11 170 RX11 yX11_otherKeeper wsX11_otherKeeper) := goodIn_app (goodIn_of _ (by decide +kernel)) ggX11_mayKeep_X11_otherKeeper
theorem dX11_mayKeep_0 : decode cX11_mayKeep 0 = .ok (.iload_n 2, 1) := by decide +kernel
theorem dX11_mayKeep_1 : decode cX11_mayKeep 1 = .ok (.iload_n 1, 1) := by decide +kernel
theorem dX11_mayKeep_2 : decode cX11_mayKeep 2 = .ok (.if_icmp .eq 16, 3) := by decide +kernel
theorem dX11_mayKeep_5 : decode cX11_mayKeep 5 = .ok (.iload_n 2, 1) := by decide +kernel
theorem dX11_mayKeep_6 : decode cX11_mayKeep 6 = .ok (.aload_n 0, 1) := by decide +kernel
theorem dX11_mayKeep_7 : decode cX11_mayKeep 7 = .ok (.iload_n 1, 1) := by decide +kernel
theorem dX11_mayKeep_8 : decode cX11_mayKeep 8 = .ok (.invokevirtual 170, 3) := by decide +kernel
theorem dX11_mayKeep_11 : decode cX11_mayKeep 11 = .ok (.if_icmp .eq 7, 3) := by decide +kernel
theorem dX11_mayKeep_14 : decode cX11_mayKeep 14 = .ok (.iconst 1, 1) := by decide +kernel
theorem dX11_mayKeep_15 : decode cX11_mayKeep 15 = .ok (.goto 4, 3) := by decide +kernel
theorem dX11_mayKeep_18 : decode cX11_mayKeep 18 = .ok (.iconst 0, 1) := by decide +kernel
theorem dX11_mayKeep_19 : decode cX11_mayKeep 19 = .ok (.ireturn, 1) := by decide +kernel
set_option maxRecDepth 20000 in
theorem ggX11_nextDeal_X11_kind : GoodIn wsX11_nextDeal wsX11_kind := goodIn_r _ [7, 2, 24, 25, 26, 27, 28, 29, 30, 31, 32, 33, 34, 35, 36, 37, 38, 39, 40, 41, 42, 43, 44, 45, 46, 47, 48, 49, 50, 51, 52, 53, 54] (by decide +kernel) (by decide +kernel)
set_option maxRecDepth 20000 in
theorem gX11_nextDeal_X11_kind : GoodIn wsX11_nextDeal (wsV RX11 155 RX11 yX11_kind wsX11_kind) := goodIn_app (goodIn_of _ (by decide +kernel)) ggX11_nextDeal_X11_kind
set_option maxRecDepth 20000 in
theorem ggX11_nextDeal_X11_keeper : GoodIn wsX11_nextDeal wsX11_keeper := goodIn_r _ [11, 2, 24, 25, 26, 27, 28, 29, 30, 31, 32, 33, 34, 35, 36, 37, 38, 39, 40, 41, 42, 43, 44, 45, 46, 47, 48, 49, 50, 51, 52, 53, 54] (by decide +kernel) (by decide +kernel)
set_option maxRecDepth 20000 in
theorem gX11_nextDeal_X11_keeper : GoodIn wsX11_nextDeal (wsV RX11 167 RX11 yX11_keeper wsX11_keeper) := goodIn_app (goodIn_of _ (by decide +kernel)) ggX11_nextDeal_X11_keeper
set_option maxRecDepth 20000 in
theorem ggX11_nextDeal_X11_mayKeep : GoodIn wsX11_nextDeal wsX11_mayKeep := goodIn_r _ [15, 16, 17, 18, 6, 19, 2, 24, 25, 26, 27, 28, 29, 30, 31, 32, 33, 34, 35, 36, 37, 38, 39, 40, 41, 42, 43, 44, 45, 46, 47, 48, 49, 50, 51, 52, 53, 54] (by decide +kernel) (by decide +kernel)
set_option maxRecDepth 20000 in
theorem gX11_nextDeal_X11_mayKeep : GoodIn wsX11_nextDeal (wsV RX11 221 RX11 yX11_mayKeep wsX11_mayKeep) := goodIn_app (goodIn_of _ (by decide +kernel)) ggX11_nextDeal_X11_mayKeep
set_option maxRecDepth 20000 in
theorem ggX11_nextDeal_X11_leastKeeper : GoodIn wsX11_nextDeal wsX11_leastKeeper := goodIn_r _ [23, 12, 13, 14, 6, 15, 16, 17, 18, 19, 2, 24, 25, 26, 27, 28, 29, 30, 31, 32, 33, 34, 35, 36, 37, 38, 39, 40, 41, 42, 43, 44, 45, 46, 47, 48, 49, 50, 51, 52, 53, 54] (by decide +kernel) (by decide +kernel)
set_option maxRecDepth 20000 in
theorem gX11_nextDeal_X11_leastKeeper : GoodIn wsX11_nextDeal (wsV RX11 224 RX11 yX11_leastKeeper wsX11_leastKeeper) := goodIn_app (goodIn_of _ (by decide +kernel)) ggX11_nextDeal_X11_leastKeeper
theorem dX11_nextDeal_0 : decode cX11_nextDeal 0 = .ok (.aload_n 0, 1) := by decide +kernel
theorem dX11_nextDeal_1 : decode cX11_nextDeal 1 = .ok (.getfield 135, 3) := by decide +kernel
theorem dX11_nextDeal_4 : decode cX11_nextDeal 4 = .ok (.iconst 1, 1) := by decide +kernel
theorem dX11_nextDeal_5 : decode cX11_nextDeal 5 = .ok (.isub, 1) := by decide +kernel
theorem dX11_nextDeal_6 : decode cX11_nextDeal 6 = .ok (.istore_n 1, 1) := by decide +kernel
theorem dX11_nextDeal_7 : decode cX11_nextDeal 7 = .ok (.iload_n 1, 1) := by decide +kernel
theorem dX11_nextDeal_8 : decode cX11_nextDeal 8 = .ok (.ifCond .lt 85, 3) := by decide +kernel
theorem dX11_nextDeal_11 : decode cX11_nextDeal 11 = .ok (.aload_n 0, 1) := by decide +kernel
theorem dX11_nextDeal_12 : decode cX11_nextDeal 12 = .ok (.iload_n 1, 1) := by decide +kernel
theorem dX11_nextDeal_13 : decode cX11_nextDeal 13 = .ok (.invokevirtual 155, 3) := by decide +kernel
theorem dX11_nextDeal_16 : decode cX11_nextDeal 16 = .ok (.iconst 2, 1) := by decide +kernel
theorem dX11_nextDeal_17 : decode cX11_nextDeal 17 = .ok (.if_icmp .eq 70, 3) := by decide +kernel
theorem dX11_nextDeal_20 : decode cX11_nextDeal 20 = .ok (.aload_n 0, 1) := by decide +kernel
theorem dX11_nextDeal_21 : decode cX11_nextDeal 21 = .ok (.iload_n 1, 1) := by decide +kernel
theorem dX11_nextDeal_22 : decode cX11_nextDeal 22 = .ok (.invokevirtual 167, 3) := by decide +kernel
theorem dX11_nextDeal_25 : decode cX11_nextDeal 25 = .ok (.iconst 1, 1) := by decide +kernel
theorem dX11_nextDeal_26 : decode cX11_nextDeal 26 = .ok (.iadd, 1) := by decide +kernel
theorem dX11_nextDeal_27 : decode cX11_nextDeal 27 = .ok (.istore_n 2, 1) := by decide +kernel
theorem dX11_nextDeal_28 : decode cX11_nextDeal 28 = .ok (.iload_n 2, 1) := by decide +kernel
theorem dX11_nextDeal_29 : decode cX11_nextDeal 29 = .ok (.aload_n 0, 1) := by decide +kernel
theorem dX11_nextDeal_30 : decode cX11_nextDeal 30 = .ok (.getfield 135, 3) := by decide +kernel
theorem dX11_nextDeal_33 : decode cX11_nextDeal 33 = .ok (.if_icmp .ge 18, 3) := by decide +kernel
theorem dX11_nextDeal_36 : decode cX11_nextDeal 36 = .ok (.aload_n 0, 1) := by decide +kernel
theorem dX11_nextDeal_37 : decode cX11_nextDeal 37 = .ok (.iload_n 1, 1) := by decide +kernel
theorem dX11_nextDeal_38 : decode cX11_nextDeal 38 = .ok (.iload_n 2, 1) := by decide +kernel
theorem dX11_nextDeal_39 : decode cX11_nextDeal 39 = .ok (.invokevirtual 221, 3) := by decide +kernel
theorem dX11_nextDeal_42 : decode cX11_nextDeal 42 = .ok (.ifCond .ne 9, 3) := by decide +kernel
theorem dX11_nextDeal_45 : decode cX11_nextDeal 45 = .ok (.iinc 2 1, 3) := by decide +kernel
theorem dX11_nextDeal_48 : decode cX11_nextDeal 48 = .ok (.goto (-20), 3) := by decide +kernel
theorem dX11_nextDeal_51 : decode cX11_nextDeal 51 = .ok (.iload_n 2, 1) := by decide +kernel
theorem dX11_nextDeal_52 : decode cX11_nextDeal 52 = .ok (.aload_n 0, 1) := by decide +kernel
theorem dX11_nextDeal_53 : decode cX11_nextDeal 53 = .ok (.getfield 135, 3) := by decide +kernel
theorem dX11_nextDeal_56 : decode cX11_nextDeal 56 = .ok (.if_icmp .ge 16, 3) := by decide +kernel
theorem dX11_nextDeal_59 : decode cX11_nextDeal 59 = .ok (.aload_n 0, 1) := by decide +kernel
theorem dX11_nextDeal_60 : decode cX11_nextDeal 60 = .ok (.getfield 29, 3) := by decide +kernel
theorem dX11_nextDeal_63 : decode cX11_nextDeal 63 = .ok (.iconst 4, 1) := by decide +kernel
theorem dX11_nextDeal_64 : decode cX11_nextDeal 64 = .ok (.iload_n 1, 1) := by decide +kernel
theorem dX11_nextDeal_65 : decode cX11_nextDeal 65 = .ok (.imul, 1) := by decide +kernel
theorem dX11_nextDeal_66 : decode cX11_nextDeal 66 = .ok (.iconst 1, 1) := by decide +kernel
theorem dX11_nextDeal_67 : decode cX11_nextDeal 67 = .ok (.iadd, 1) := by decide +kernel
theorem dX11_nextDeal_68 : decode cX11_nextDeal 68 = .ok (.iload_n 2, 1) := by decide +kernel
theorem dX11_nextDeal_69 : decode cX11_nextDeal 69 = .ok (.iastore, 1) := by decide +kernel
theorem dX11_nextDeal_70 : decode cX11_nextDeal 70 = .ok (.iconst 1, 1) := by decide +kernel
theorem dX11_nextDeal_71 : decode cX11_nextDeal 71 = .ok (.ireturn, 1) := by decide +kernel
theorem dX11_nextDeal_72 : decode cX11_nextDeal 72 = .ok (.aload_n 0, 1) := by decide +kernel
theorem dX11_nextDeal_73 : decode cX11_nextDeal 73 = .ok (.getfield 29, 3) := by decide +kernel
theorem dX11_nextDeal_76 : decode cX11_nextDeal 76 = .ok (.iconst 4, 1) := by decide +kernel
theorem dX11_nextDeal_77 : decode cX11_nextDeal 77 = .ok (.iload_n 1, 1) := by decide +kernel
theorem dX11_nextDeal_78 : decode cX11_nextDeal 78 = .ok (.imul, 1) := by decide +kernel
theorem dX11_nextDeal_79 : decode cX11_nextDeal 79 = .ok (.iconst 1, 1) := by decide +kernel
theorem dX11_nextDeal_80 : decode cX11_nextDeal 80 = .ok (.iadd, 1) := by decide +kernel
theorem dX11_nextDeal_81 : decode cX11_nextDeal 81 = .ok (.aload_n 0, 1) := by decide +kernel
theorem dX11_nextDeal_82 : decode cX11_nextDeal 82 = .ok (.iload_n 1, 1) := by decide +kernel
theorem dX11_nextDeal_83 : decode cX11_nextDeal 83 = .ok (.invokevirtual 224, 3) := by decide +kernel
theorem dX11_nextDeal_86 : decode cX11_nextDeal 86 = .ok (.iastore, 1) := by decide +kernel
theorem dX11_nextDeal_87 : decode cX11_nextDeal 87 = .ok (.iinc 1 (-1), 3) := by decide +kernel
theorem dX11_nextDeal_90 : decode cX11_nextDeal 90 = .ok (.goto (-83), 3) := by decide +kernel
theorem dX11_nextDeal_93 : decode cX11_nextDeal 93 = .ok (.iconst 0, 1) := by decide +kernel
theorem dX11_nextDeal_94 : decode cX11_nextDeal 94 = .ok (.ireturn, 1) := by decide +kernel
set_option maxRecDepth 20000 in
theorem ggX11_leastKeeper_X11_mayKeep : GoodIn wsX11_leastKeeper wsX11_mayKeep := goodIn_r _ [5, 6, 7, 8, 4, 9, 10, 11, 12, 13, 14, 15, 16, 17, 18, 19, 20, 21, 22, 23, 24, 25, 26, 27, 28, 29, 30, 31, 32, 33, 34, 35, 36, 37, 38, 39, 40, 41] (by decide +kernel) (by decide +kernel)
set_option maxRecDepth 20000 in
theorem gX11_leastKeeper_X11_mayKeep : GoodIn wsX11_leastKeeper (wsV RX11 221 RX11 yX11_mayKeep wsX11_mayKeep) := goodIn_app (goodIn_of _ (by decide +kernel)) ggX11_leastKeeper_X11_mayKeep
theorem dX11_leastKeeper_0 : decode cX11_leastKeeper 0 = .ok (.iconst 0, 1) := by decide +kernel
theorem dX11_leastKeeper_1 : decode cX11_leastKeeper 1 = .ok (.istore_n 2, 1) := by decide +kernel
theorem dX11_leastKeeper_2 : decode cX11_leastKeeper 2 = .ok (.aload_n 0, 1) := by decide +kernel
theorem dX11_leastKeeper_3 : decode cX11_leastKeeper 3 = .ok (.iload_n 1, 1) := by decide +kernel
theorem dX11_leastKeeper_4 : decode cX11_leastKeeper 4 = .ok (.iload_n 2, 1) := by decide +kernel
theorem dX11_leastKeeper_5 : decode cX11_leastKeeper 5 = .ok (.invokevirtual 221, 3) := by decide +kernel
theorem dX11_leastKeeper_8 : decode cX11_leastKeeper 8 = .ok (.ifCond .ne 9, 3) := by decide +kernel
theorem dX11_leastKeeper_11 : decode cX11_leastKeeper 11 = .ok (.iinc 2 1, 3) := by decide +kernel
theorem dX11_leastKeeper_14 : decode cX11_leastKeeper 14 = .ok (.goto (-12), 3) := by decide +kernel
theorem dX11_leastKeeper_17 : decode cX11_leastKeeper 17 = .ok (.iload_n 2, 1) := by decide +kernel
theorem dX11_leastKeeper_18 : decode cX11_leastKeeper 18 = .ok (.ireturn, 1) := by decide +kernel
set_option maxRecDepth 20000 in
theorem ggX11_deals_X11_in : GoodIn wsX11_deals wsX11_in := goodIn_r _ [10] (by decide +kernel) (by decide +kernel)
set_option maxRecDepth 20000 in
theorem gX11_deals_X11_in : GoodIn wsX11_deals (va_wsS RX11 76 yX11_in wsX11_in) := goodIn_app (goodIn_of _ (by decide +kernel)) ggX11_deals_X11_in
set_option maxRecDepth 20000 in
theorem ggX11_deals_X11_isRow : GoodIn wsX11_deals wsX11_isRow := goodIn_r _ [13, 7, 8, 9, 10] (by decide +kernel) (by decide +kernel)
set_option maxRecDepth 20000 in
theorem gX11_deals_X11_isRow : GoodIn wsX11_deals (va_wsS RX11 86 yX11_isRow wsX11_isRow) := goodIn_app (goodIn_of _ (by decide +kernel)) ggX11_deals_X11_isRow
set_option maxRecDepth 20000 in
theorem ggX11_deals_X11_keeper : GoodIn wsX11_deals wsX11_keeper := goodIn_r _ [17, 3, 92, 93, 94, 95, 96, 97, 98, 99, 100, 101, 102, 103, 104, 105, 106, 107, 108, 109, 110, 111, 112, 113, 114, 115, 116, 117, 118, 119, 120, 121, 122] (by decide +kernel) (by decide +kernel)
set_option maxRecDepth 20000 in
theorem gX11_deals_X11_keeper : GoodIn wsX11_deals (wsV RX11 167 RX11 yX11_keeper wsX11_keeper) := goodIn_app (goodIn_of _ (by decide +kernel)) ggX11_deals_X11_keeper
set_option maxRecDepth 20000 in
theorem ggX11_deals_X11_kind : GoodIn wsX11_deals wsX11_kind := goodIn_r _ [21, 3, 92, 93, 94, 95, 96, 97, 98, 99, 100, 101, 102, 103, 104, 105, 106, 107, 108, 109, 110, 111, 112, 113, 114, 115, 116, 117, 118, 119, 120, 121, 122] (by decide +kernel) (by decide +kernel)
set_option maxRecDepth 20000 in
theorem gX11_deals_X11_kind : GoodIn wsX11_deals (wsV RX11 155 RX11 yX11_kind wsX11_kind) := goodIn_app (goodIn_of _ (by decide +kernel)) ggX11_deals_X11_kind
set_option maxRecDepth 20000 in
theorem ggX11_deals_X11_leastKeeper : GoodIn wsX11_deals wsX11_leastKeeper := goodIn_r _ [25, 26, 27, 28, 9, 29, 30, 31, 32, 33, 3, 92, 93, 94, 95, 96, 97, 98, 99, 100, 101, 102, 103, 104, 105, 106, 107, 108, 109, 110, 111, 112, 113, 114, 115, 116, 117, 118, 119, 120, 121, 122] (by decide +kernel) (by decide +kernel)
set_option maxRecDepth 20000 in
theorem gX11_deals_X11_leastKeeper : GoodIn wsX11_deals (wsV RX11 224 RX11 yX11_leastKeeper wsX11_leastKeeper) := goodIn_app (goodIn_of _ (by decide +kernel)) ggX11_deals_X11_leastKeeper
set_option maxRecDepth 20000 in
theorem ggX11_deals_X11_hasNoBand : GoodIn wsX11_deals wsX11_hasNoBand := goodIn_r _ [37, 38, 39, 40, 9, 41, 1, 42, 43, 44, 45, 46, 47, 48, 49, 50, 51, 52, 53, 54, 55, 56, 57, 58, 59, 60, 61, 3, 18, 19, 20, 21, 62, 63, 64, 65, 14, 15, 16, 17, 66, 67, 68, 69, 70, 71, 72, 73, 74, 75, 76, 77, 78, 79, 80, 81, 82, 83, 84, 85, 86, 87, 30, 31, 32, 33, 92, 93, 94, 95, 96, 97, 98, 99, 100, 101, 102, 103, 104, 105, 106, 107, 108, 109, 110, 111, 112, 113, 114, 115, 116, 117, 118, 119, 120, 121, 122] (by decide +kernel) (by decide +kernel)
set_option maxRecDepth 20000 in
theorem gX11_deals_X11_hasNoBand : GoodIn wsX11_deals (wsV RX11 227 RX11 yX11_hasNoBand wsX11_hasNoBand) := goodIn_app (goodIn_of _ (by decide +kernel)) ggX11_deals_X11_hasNoBand
set_option maxRecDepth 20000 in
theorem ggX11_deals_X11_nextDeal : GoodIn wsX11_deals wsX11_nextDeal := goodIn_r _ [91, 1, 3, 18, 19, 20, 9, 21, 14, 15, 16, 17, 26, 27, 28, 29, 30, 31, 32, 33, 22, 23, 24, 25, 92, 93, 94, 95, 96, 97, 98, 99, 100, 101, 102, 103, 104, 105, 106, 107, 108, 109, 110, 111, 112, 113, 114, 115, 116, 117, 118, 119, 120, 121, 122] (by decide +kernel) (by decide +kernel)
set_option maxRecDepth 20000 in
theorem gX11_deals_X11_nextDeal : GoodIn wsX11_deals (wsV RX11 230 RX11 yX11_nextDeal wsX11_nextDeal) := goodIn_app (goodIn_of _ (by decide +kernel)) ggX11_deals_X11_nextDeal
theorem dX11_deals_0 : decode cX11_deals 0 = .ok (.iload_n 1, 1) := by decide +kernel
theorem dX11_deals_1 : decode cX11_deals 1 = .ok (.iconst 1, 1) := by decide +kernel
theorem dX11_deals_2 : decode cX11_deals 2 = .ok (.iconst 5, 1) := by decide +kernel
theorem dX11_deals_3 : decode cX11_deals 3 = .ok (.invokestatic 76, 3) := by decide +kernel
theorem dX11_deals_6 : decode cX11_deals 6 = .ok (.ifCond .eq 18, 3) := by decide +kernel
theorem dX11_deals_9 : decode cX11_deals 9 = .ok (.iload_n 1, 1) := by decide +kernel
theorem dX11_deals_10 : decode cX11_deals 10 = .ok (.aload_n 0, 1) := by decide +kernel
theorem dX11_deals_11 : decode cX11_deals 11 = .ok (.getfield 135, 3) := by decide +kernel
theorem dX11_deals_14 : decode cX11_deals 14 = .ok (.if_icmp .gt 10, 3) := by decide +kernel
theorem dX11_deals_17 : decode cX11_deals 17 = .ok (.iload_n 2, 1) := by decide +kernel
theorem dX11_deals_18 : decode cX11_deals 18 = .ok (.invokestatic 86, 3) := by decide +kernel
theorem dX11_deals_21 : decode cX11_deals 21 = .ok (.ifCond .ne 5, 3) := by decide +kernel
theorem dX11_deals_24 : decode cX11_deals 24 = .ok (.iconst (-1), 1) := by decide +kernel
theorem dX11_deals_25 : decode cX11_deals 25 = .ok (.ireturn, 1) := by decide +kernel
theorem dX11_deals_26 : decode cX11_deals 26 = .ok (.aload_n 0, 1) := by decide +kernel
theorem dX11_deals_27 : decode cX11_deals 27 = .ok (.getfield 135, 3) := by decide +kernel
theorem dX11_deals_30 : decode cX11_deals 30 = .ok (.iconst 5, 1) := by decide +kernel
theorem dX11_deals_31 : decode cX11_deals 31 = .ok (.if_icmp .le 6, 3) := by decide +kernel
theorem dX11_deals_34 : decode cX11_deals 34 = .ok (.bipush (-6), 2) := by decide +kernel
theorem dX11_deals_36 : decode cX11_deals 36 = .ok (.ireturn, 1) := by decide +kernel
theorem dX11_deals_37 : decode cX11_deals 37 = .ok (.iconst 0, 1) := by decide +kernel
theorem dX11_deals_38 : decode cX11_deals 38 = .ok (.istore_n 3, 1) := by decide +kernel
theorem dX11_deals_39 : decode cX11_deals 39 = .ok (.iload_n 3, 1) := by decide +kernel
theorem dX11_deals_40 : decode cX11_deals 40 = .ok (.aload_n 0, 1) := by decide +kernel
theorem dX11_deals_41 : decode cX11_deals 41 = .ok (.getfield 135, 3) := by decide +kernel
theorem dX11_deals_44 : decode cX11_deals 44 = .ok (.if_icmp .ge 49, 3) := by decide +kernel
theorem dX11_deals_47 : decode cX11_deals 47 = .ok (.aload_n 0, 1) := by decide +kernel
theorem dX11_deals_48 : decode cX11_deals 48 = .ok (.getfield 56, 3) := by decide +kernel
theorem dX11_deals_51 : decode cX11_deals 51 = .ok (.iload_n 3, 1) := by decide +kernel
theorem dX11_deals_52 : decode cX11_deals 52 = .ok (.aload_n 0, 1) := by decide +kernel
theorem dX11_deals_53 : decode cX11_deals 53 = .ok (.iload_n 3, 1) := by decide +kernel
theorem dX11_deals_54 : decode cX11_deals 54 = .ok (.invokevirtual 167, 3) := by decide +kernel
theorem dX11_deals_57 : decode cX11_deals 57 = .ok (.iastore, 1) := by decide +kernel
theorem dX11_deals_58 : decode cX11_deals 58 = .ok (.aload_n 0, 1) := by decide +kernel
theorem dX11_deals_59 : decode cX11_deals 59 = .ok (.getfield 29, 3) := by decide +kernel
theorem dX11_deals_62 : decode cX11_deals 62 = .ok (.iconst 4, 1) := by decide +kernel
theorem dX11_deals_63 : decode cX11_deals 63 = .ok (.iload_n 3, 1) := by decide +kernel
theorem dX11_deals_64 : decode cX11_deals 64 = .ok (.imul, 1) := by decide +kernel
theorem dX11_deals_65 : decode cX11_deals 65 = .ok (.iconst 1, 1) := by decide +kernel
theorem dX11_deals_66 : decode cX11_deals 66 = .ok (.iadd, 1) := by decide +kernel
theorem dX11_deals_67 : decode cX11_deals 67 = .ok (.aload_n 0, 1) := by decide +kernel
theorem dX11_deals_68 : decode cX11_deals 68 = .ok (.iload_n 3, 1) := by decide +kernel
theorem dX11_deals_69 : decode cX11_deals 69 = .ok (.invokevirtual 155, 3) := by decide +kernel
theorem dX11_deals_72 : decode cX11_deals 72 = .ok (.iconst 2, 1) := by decide +kernel
theorem dX11_deals_73 : decode cX11_deals 73 = .ok (.if_icmp .ne 8, 3) := by decide +kernel
theorem dX11_deals_76 : decode cX11_deals 76 = .ok (.bipush (-9), 2) := by decide +kernel
theorem dX11_deals_78 : decode cX11_deals 78 = .ok (.goto 8, 3) := by decide +kernel
theorem dX11_deals_81 : decode cX11_deals 81 = .ok (.aload_n 0, 1) := by decide +kernel
theorem dX11_deals_82 : decode cX11_deals 82 = .ok (.iload_n 3, 1) := by decide +kernel
theorem dX11_deals_83 : decode cX11_deals 83 = .ok (.invokevirtual 224, 3) := by decide +kernel
theorem dX11_deals_86 : decode cX11_deals 86 = .ok (.iastore, 1) := by decide +kernel
theorem dX11_deals_87 : decode cX11_deals 87 = .ok (.iinc 3 1, 3) := by decide +kernel
theorem dX11_deals_90 : decode cX11_deals 90 = .ok (.goto (-51), 3) := by decide +kernel
theorem dX11_deals_93 : decode cX11_deals 93 = .ok (.iconst 0, 1) := by decide +kernel
theorem dX11_deals_94 : decode cX11_deals 94 = .ok (.istore_n 3, 1) := by decide +kernel
theorem dX11_deals_95 : decode cX11_deals 95 = .ok (.iconst 1, 1) := by decide +kernel
theorem dX11_deals_96 : decode cX11_deals 96 = .ok (.istore 4, 2) := by decide +kernel
theorem dX11_deals_98 : decode cX11_deals 98 = .ok (.iload 4, 2) := by decide +kernel
theorem dX11_deals_100 : decode cX11_deals 100 = .ok (.ifCond .eq 58, 3) := by decide +kernel
theorem dX11_deals_103 : decode cX11_deals 103 = .ok (.aload_n 0, 1) := by decide +kernel
theorem dX11_deals_104 : decode cX11_deals 104 = .ok (.iload_n 1, 1) := by decide +kernel
theorem dX11_deals_105 : decode cX11_deals 105 = .ok (.invokevirtual 227, 3) := by decide +kernel
theorem dX11_deals_108 : decode cX11_deals 108 = .ok (.ifCond .eq 41, 3) := by decide +kernel
theorem dX11_deals_111 : decode cX11_deals 111 = .ok (.iconst 0, 1) := by decide +kernel
theorem dX11_deals_112 : decode cX11_deals 112 = .ok (.istore 5, 2) := by decide +kernel
theorem dX11_deals_114 : decode cX11_deals 114 = .ok (.iload 5, 2) := by decide +kernel
theorem dX11_deals_116 : decode cX11_deals 116 = .ok (.aload_n 0, 1) := by decide +kernel
theorem dX11_deals_117 : decode cX11_deals 117 = .ok (.getfield 135, 3) := by decide +kernel
theorem dX11_deals_120 : decode cX11_deals 120 = .ok (.if_icmp .ge 26, 3) := by decide +kernel
theorem dX11_deals_123 : decode cX11_deals 123 = .ok (.iload_n 3, 1) := by decide +kernel
theorem dX11_deals_124 : decode cX11_deals 124 = .ok (.ifCond .ne 22, 3) := by decide +kernel
theorem dX11_deals_127 : decode cX11_deals 127 = .ok (.aload_n 0, 1) := by decide +kernel
theorem dX11_deals_128 : decode cX11_deals 128 = .ok (.getfield 59, 3) := by decide +kernel
theorem dX11_deals_131 : decode cX11_deals 131 = .ok (.iload 5, 2) := by decide +kernel
theorem dX11_deals_133 : decode cX11_deals 133 = .ok (.aload_n 0, 1) := by decide +kernel
theorem dX11_deals_134 : decode cX11_deals 134 = .ok (.iload 5, 2) := by decide +kernel
theorem dX11_deals_136 : decode cX11_deals 136 = .ok (.invokevirtual 167, 3) := by decide +kernel
theorem dX11_deals_139 : decode cX11_deals 139 = .ok (.iastore, 1) := by decide +kernel
theorem dX11_deals_140 : decode cX11_deals 140 = .ok (.iinc 5 1, 3) := by decide +kernel
theorem dX11_deals_143 : decode cX11_deals 143 = .ok (.goto (-29), 3) := by decide +kernel
theorem dX11_deals_146 : decode cX11_deals 146 = .ok (.iinc 3 1, 3) := by decide +kernel
theorem dX11_deals_149 : decode cX11_deals 149 = .ok (.aload_n 0, 1) := by decide +kernel
theorem dX11_deals_150 : decode cX11_deals 150 = .ok (.invokevirtual 230, 3) := by decide +kernel
theorem dX11_deals_153 : decode cX11_deals 153 = .ok (.istore 4, 2) := by decide +kernel
theorem dX11_deals_155 : decode cX11_deals 155 = .ok (.goto (-57), 3) := by decide +kernel
theorem dX11_deals_158 : decode cX11_deals 158 = .ok (.iconst 0, 1) := by decide +kernel
theorem dX11_deals_159 : decode cX11_deals 159 = .ok (.istore 5, 2) := by decide +kernel
theorem dX11_deals_161 : decode cX11_deals 161 = .ok (.iload 5, 2) := by decide +kernel
theorem dX11_deals_163 : decode cX11_deals 163 = .ok (.aload_n 0, 1) := by decide +kernel
theorem dX11_deals_164 : decode cX11_deals 164 = .ok (.getfield 135, 3) := by decide +kernel
theorem dX11_deals_167 : decode cX11_deals 167 = .ok (.if_icmp .ge 27, 3) := by decide +kernel
theorem dX11_deals_170 : decode cX11_deals 170 = .ok (.aload_n 0, 1) := by decide +kernel
theorem dX11_deals_171 : decode cX11_deals 171 = .ok (.getfield 29, 3) := by decide +kernel
theorem dX11_deals_174 : decode cX11_deals 174 = .ok (.iconst 4, 1) := by decide +kernel
theorem dX11_deals_175 : decode cX11_deals 175 = .ok (.iload 5, 2) := by decide +kernel
theorem dX11_deals_177 : decode cX11_deals 177 = .ok (.imul, 1) := by decide +kernel
theorem dX11_deals_178 : decode cX11_deals 178 = .ok (.iconst 1, 1) := by decide +kernel
theorem dX11_deals_179 : decode cX11_deals 179 = .ok (.iadd, 1) := by decide +kernel
theorem dX11_deals_180 : decode cX11_deals 180 = .ok (.aload_n 0, 1) := by decide +kernel
theorem dX11_deals_181 : decode cX11_deals 181 = .ok (.getfield 56, 3) := by decide +kernel
theorem dX11_deals_184 : decode cX11_deals 184 = .ok (.iload 5, 2) := by decide +kernel
theorem dX11_deals_186 : decode cX11_deals 186 = .ok (.iaload, 1) := by decide +kernel
theorem dX11_deals_187 : decode cX11_deals 187 = .ok (.iastore, 1) := by decide +kernel
theorem dX11_deals_188 : decode cX11_deals 188 = .ok (.iinc 5 1, 3) := by decide +kernel
theorem dX11_deals_191 : decode cX11_deals 191 = .ok (.goto (-30), 3) := by decide +kernel
theorem dX11_deals_194 : decode cX11_deals 194 = .ok (.iload_n 3, 1) := by decide +kernel
theorem dX11_deals_195 : decode cX11_deals 195 = .ok (.ifCond .le 61, 3) := by decide +kernel
theorem dX11_deals_198 : decode cX11_deals 198 = .ok (.aload_n 0, 1) := by decide +kernel
theorem dX11_deals_199 : decode cX11_deals 199 = .ok (.getfield 13, 3) := by decide +kernel
theorem dX11_deals_202 : decode cX11_deals 202 = .ok (.iload_n 2, 1) := by decide +kernel
theorem dX11_deals_203 : decode cX11_deals 203 = .ok (.aload_n 0, 1) := by decide +kernel
theorem dX11_deals_204 : decode cX11_deals 204 = .ok (.getfield 135, 3) := by decide +kernel
theorem dX11_deals_207 : decode cX11_deals 207 = .ok (.iastore, 1) := by decide +kernel
theorem dX11_deals_208 : decode cX11_deals 208 = .ok (.iconst 0, 1) := by decide +kernel
theorem dX11_deals_209 : decode cX11_deals 209 = .ok (.istore 5, 2) := by decide +kernel
theorem dX11_deals_211 : decode cX11_deals 211 = .ok (.iload 5, 2) := by decide +kernel
theorem dX11_deals_213 : decode cX11_deals 213 = .ok (.bipush 60, 2) := by decide +kernel
theorem dX11_deals_215 : decode cX11_deals 215 = .ok (.if_icmp .ge 41, 3) := by decide +kernel
theorem dX11_deals_218 : decode cX11_deals 218 = .ok (.aload_n 0, 1) := by decide +kernel
theorem dX11_deals_219 : decode cX11_deals 219 = .ok (.getfield 16, 3) := by decide +kernel
theorem dX11_deals_222 : decode cX11_deals 222 = .ok (.bipush 60, 2) := by decide +kernel
theorem dX11_deals_224 : decode cX11_deals 224 = .ok (.iload_n 2, 1) := by decide +kernel
theorem dX11_deals_225 : decode cX11_deals 225 = .ok (.imul, 1) := by decide +kernel
theorem dX11_deals_226 : decode cX11_deals 226 = .ok (.iload 5, 2) := by decide +kernel
theorem dX11_deals_228 : decode cX11_deals 228 = .ok (.iadd, 1) := by decide +kernel
theorem dX11_deals_229 : decode cX11_deals 229 = .ok (.iload 5, 2) := by decide +kernel
theorem dX11_deals_231 : decode cX11_deals 231 = .ok (.aload_n 0, 1) := by decide +kernel
theorem dX11_deals_232 : decode cX11_deals 232 = .ok (.getfield 135, 3) := by decide +kernel
theorem dX11_deals_235 : decode cX11_deals 235 = .ok (.if_icmp .ge 13, 3) := by decide +kernel
theorem dX11_deals_238 : decode cX11_deals 238 = .ok (.aload_n 0, 1) := by decide +kernel
theorem dX11_deals_239 : decode cX11_deals 239 = .ok (.getfield 59, 3) := by decide +kernel
theorem dX11_deals_242 : decode cX11_deals 242 = .ok (.iload 5, 2) := by decide +kernel
theorem dX11_deals_244 : decode cX11_deals 244 = .ok (.iaload, 1) := by decide +kernel
theorem dX11_deals_245 : decode cX11_deals 245 = .ok (.goto 4, 3) := by decide +kernel
theorem dX11_deals_248 : decode cX11_deals 248 = .ok (.iconst 0, 1) := by decide +kernel
theorem dX11_deals_249 : decode cX11_deals 249 = .ok (.iastore, 1) := by decide +kernel
theorem dX11_deals_250 : decode cX11_deals 250 = .ok (.iinc 5 1, 3) := by decide +kernel
theorem dX11_deals_253 : decode cX11_deals 253 = .ok (.goto (-42), 3) := by decide +kernel
theorem dX11_deals_256 : decode cX11_deals 256 = .ok (.iload_n 3, 1) := by decide +kernel
theorem dX11_deals_257 : decode cX11_deals 257 = .ok (.ireturn, 1) := by decide +kernel
set_option maxRecDepth 20000 in
theorem ggX11_dealt_X11_isRow : GoodIn wsX11_dealt wsX11_isRow := goodIn_r _ [7, 8, 9, 6, 10] (by decide +kernel) (by decide +kernel)
set_option maxRecDepth 20000 in
theorem gX11_dealt_X11_isRow : GoodIn wsX11_dealt (va_wsS RX11 86 yX11_isRow wsX11_isRow) := goodIn_app (goodIn_of _ (by decide +kernel)) ggX11_dealt_X11_isRow
set_option maxRecDepth 20000 in
theorem ggX11_dealt_X11_meets : GoodIn wsX11_dealt wsX11_meets := goodIn_r _ [14, 15, 16, 38, 39, 40, 41, 42, 43, 44, 45, 46, 47, 48, 49, 50, 51, 52, 53, 54, 55, 56, 57, 58, 59, 60, 61, 62, 63, 64, 65, 66, 67, 68] (by decide +kernel) (by decide +kernel)
set_option maxRecDepth 20000 in
theorem gX11_dealt_X11_meets : GoodIn wsX11_dealt (wsV RX11 90 RX11 yX11_meets wsX11_meets) := goodIn_app (goodIn_of _ (by decide +kernel)) ggX11_dealt_X11_meets
set_option maxRecDepth 20000 in
theorem ggX11_dealt_X11_kind : GoodIn wsX11_dealt wsX11_kind := goodIn_r _ [20, 3, 38, 39, 40, 41, 42, 43, 44, 45, 46, 47, 48, 49, 50, 51, 52, 53, 54, 55, 56, 57, 58, 59, 60, 61, 62, 63, 64, 65, 66, 67, 68] (by decide +kernel) (by decide +kernel)
set_option maxRecDepth 20000 in
theorem gX11_dealt_X11_kind : GoodIn wsX11_dealt (wsV RX11 155 RX11 yX11_kind wsX11_kind) := goodIn_app (goodIn_of _ (by decide +kernel)) ggX11_dealt_X11_kind
set_option maxRecDepth 20000 in
theorem ggX11_dealt_X11_rowAt : GoodIn wsX11_dealt wsX11_rowAt := goodIn_r _ [24, 25, 38, 39, 40, 41, 42, 43, 44, 45, 46, 47, 48, 49, 50, 51, 52, 53, 54, 55, 56, 57, 58, 59, 60, 61, 62, 63, 64, 65, 66, 67, 68] (by decide +kernel) (by decide +kernel)
set_option maxRecDepth 20000 in
theorem gX11_dealt_X11_rowAt : GoodIn wsX11_dealt (wsV RX11 94 RX11 yX11_rowAt wsX11_rowAt) := goodIn_app (goodIn_of _ (by decide +kernel)) ggX11_dealt_X11_rowAt
set_option maxRecDepth 20000 in
theorem ggX11_dealt_X11_isCell : GoodIn wsX11_dealt wsX11_isCell := goodIn_r _ [29, 2, 8, 9, 6, 10, 38, 39, 40, 41, 42, 43, 44, 45, 46, 47, 48, 49, 50, 51, 52, 53, 54, 55, 56, 57, 58, 59, 60, 61, 62, 63, 64, 65, 66, 67, 68] (by decide +kernel) (by decide +kernel)
set_option maxRecDepth 20000 in
theorem gX11_dealt_X11_isCell : GoodIn wsX11_dealt (wsV RX11 158 RX11 yX11_isCell wsX11_isCell) := goodIn_app (goodIn_of _ (by decide +kernel)) ggX11_dealt_X11_isCell
set_option maxRecDepth 20000 in
theorem ggX11_dealt_X11_mayKeep : GoodIn wsX11_dealt wsX11_mayKeep := goodIn_r _ [33, 34, 35, 36, 6, 37, 3, 38, 39, 40, 41, 42, 43, 44, 45, 46, 47, 48, 49, 50, 51, 52, 53, 54, 55, 56, 57, 58, 59, 60, 61, 62, 63, 64, 65, 66, 67, 68] (by decide +kernel) (by decide +kernel)
set_option maxRecDepth 20000 in
theorem gX11_dealt_X11_mayKeep : GoodIn wsX11_dealt (wsV RX11 221 RX11 yX11_mayKeep wsX11_mayKeep) := goodIn_app (goodIn_of _ (by decide +kernel)) ggX11_dealt_X11_mayKeep
theorem dX11_dealt_0 : decode cX11_dealt 0 = .ok (.iload_n 1, 1) := by decide +kernel
theorem dX11_dealt_1 : decode cX11_dealt 1 = .ok (.invokestatic 86, 3) := by decide +kernel
theorem dX11_dealt_4 : decode cX11_dealt 4 = .ok (.ifCond .ne 5, 3) := by decide +kernel
theorem dX11_dealt_7 : decode cX11_dealt 7 = .ok (.iconst (-1), 1) := by decide +kernel
theorem dX11_dealt_8 : decode cX11_dealt 8 = .ok (.ireturn, 1) := by decide +kernel
theorem dX11_dealt_9 : decode cX11_dealt 9 = .ok (.aload_n 0, 1) := by decide +kernel
theorem dX11_dealt_10 : decode cX11_dealt 10 = .ok (.getfield 13, 3) := by decide +kernel
theorem dX11_dealt_13 : decode cX11_dealt 13 = .ok (.iload_n 1, 1) := by decide +kernel
theorem dX11_dealt_14 : decode cX11_dealt 14 = .ok (.iaload, 1) := by decide +kernel
theorem dX11_dealt_15 : decode cX11_dealt 15 = .ok (.ifCond .ge 9, 3) := by decide +kernel
theorem dX11_dealt_18 : decode cX11_dealt 18 = .ok (.aload_n 0, 1) := by decide +kernel
theorem dX11_dealt_19 : decode cX11_dealt 19 = .ok (.iconst 1, 1) := by decide +kernel
theorem dX11_dealt_20 : decode cX11_dealt 20 = .ok (.invokevirtual 90, 3) := by decide +kernel
theorem dX11_dealt_23 : decode cX11_dealt 23 = .ok (.ireturn, 1) := by decide +kernel
theorem dX11_dealt_24 : decode cX11_dealt 24 = .ok (.aload_n 0, 1) := by decide +kernel
theorem dX11_dealt_25 : decode cX11_dealt 25 = .ok (.getfield 13, 3) := by decide +kernel
theorem dX11_dealt_28 : decode cX11_dealt 28 = .ok (.iload_n 1, 1) := by decide +kernel
theorem dX11_dealt_29 : decode cX11_dealt 29 = .ok (.iaload, 1) := by decide +kernel
theorem dX11_dealt_30 : decode cX11_dealt 30 = .ok (.aload_n 0, 1) := by decide +kernel
theorem dX11_dealt_31 : decode cX11_dealt 31 = .ok (.getfield 135, 3) := by decide +kernel
theorem dX11_dealt_34 : decode cX11_dealt 34 = .ok (.if_icmp .eq 9, 3) := by decide +kernel
theorem dX11_dealt_37 : decode cX11_dealt 37 = .ok (.aload_n 0, 1) := by decide +kernel
theorem dX11_dealt_38 : decode cX11_dealt 38 = .ok (.iconst 5, 1) := by decide +kernel
theorem dX11_dealt_39 : decode cX11_dealt 39 = .ok (.invokevirtual 90, 3) := by decide +kernel
theorem dX11_dealt_42 : decode cX11_dealt 42 = .ok (.ireturn, 1) := by decide +kernel
theorem dX11_dealt_43 : decode cX11_dealt 43 = .ok (.iconst 1, 1) := by decide +kernel
theorem dX11_dealt_44 : decode cX11_dealt 44 = .ok (.istore_n 2, 1) := by decide +kernel
theorem dX11_dealt_45 : decode cX11_dealt 45 = .ok (.iconst 0, 1) := by decide +kernel
theorem dX11_dealt_46 : decode cX11_dealt 46 = .ok (.istore_n 3, 1) := by decide +kernel
theorem dX11_dealt_47 : decode cX11_dealt 47 = .ok (.iload_n 3, 1) := by decide +kernel
theorem dX11_dealt_48 : decode cX11_dealt 48 = .ok (.aload_n 0, 1) := by decide +kernel
theorem dX11_dealt_49 : decode cX11_dealt 49 = .ok (.getfield 135, 3) := by decide +kernel
theorem dX11_dealt_52 : decode cX11_dealt 52 = .ok (.if_icmp .ge 55, 3) := by decide +kernel
theorem dX11_dealt_55 : decode cX11_dealt 55 = .ok (.iload_n 2, 1) := by decide +kernel
theorem dX11_dealt_56 : decode cX11_dealt 56 = .ok (.ifCond .eq 43, 3) := by decide +kernel
theorem dX11_dealt_59 : decode cX11_dealt 59 = .ok (.aload_n 0, 1) := by decide +kernel
theorem dX11_dealt_60 : decode cX11_dealt 60 = .ok (.iload_n 3, 1) := by decide +kernel
theorem dX11_dealt_61 : decode cX11_dealt 61 = .ok (.invokevirtual 155, 3) := by decide +kernel
theorem dX11_dealt_64 : decode cX11_dealt 64 = .ok (.iconst 2, 1) := by decide +kernel
theorem dX11_dealt_65 : decode cX11_dealt 65 = .ok (.if_icmp .eq 30, 3) := by decide +kernel
theorem dX11_dealt_68 : decode cX11_dealt 68 = .ok (.aload_n 0, 1) := by decide +kernel
theorem dX11_dealt_69 : decode cX11_dealt 69 = .ok (.aload_n 0, 1) := by decide +kernel
theorem dX11_dealt_70 : decode cX11_dealt 70 = .ok (.iload_n 1, 1) := by decide +kernel
theorem dX11_dealt_71 : decode cX11_dealt 71 = .ok (.iload_n 3, 1) := by decide +kernel
theorem dX11_dealt_72 : decode cX11_dealt 72 = .ok (.invokevirtual 94, 3) := by decide +kernel
theorem dX11_dealt_75 : decode cX11_dealt 75 = .ok (.invokevirtual 158, 3) := by decide +kernel
theorem dX11_dealt_78 : decode cX11_dealt 78 = .ok (.ifCond .eq 21, 3) := by decide +kernel
theorem dX11_dealt_81 : decode cX11_dealt 81 = .ok (.aload_n 0, 1) := by decide +kernel
theorem dX11_dealt_82 : decode cX11_dealt 82 = .ok (.iload_n 3, 1) := by decide +kernel
theorem dX11_dealt_83 : decode cX11_dealt 83 = .ok (.aload_n 0, 1) := by decide +kernel
theorem dX11_dealt_84 : decode cX11_dealt 84 = .ok (.iload_n 1, 1) := by decide +kernel
theorem dX11_dealt_85 : decode cX11_dealt 85 = .ok (.iload_n 3, 1) := by decide +kernel
theorem dX11_dealt_86 : decode cX11_dealt 86 = .ok (.invokevirtual 94, 3) := by decide +kernel
theorem dX11_dealt_89 : decode cX11_dealt 89 = .ok (.invokevirtual 221, 3) := by decide +kernel
theorem dX11_dealt_92 : decode cX11_dealt 92 = .ok (.ifCond .eq 7, 3) := by decide +kernel
theorem dX11_dealt_95 : decode cX11_dealt 95 = .ok (.iconst 1, 1) := by decide +kernel
theorem dX11_dealt_96 : decode cX11_dealt 96 = .ok (.goto 4, 3) := by decide +kernel
theorem dX11_dealt_99 : decode cX11_dealt 99 = .ok (.iconst 0, 1) := by decide +kernel
theorem dX11_dealt_100 : decode cX11_dealt 100 = .ok (.istore_n 2, 1) := by decide +kernel
theorem dX11_dealt_101 : decode cX11_dealt 101 = .ok (.iinc 3 1, 3) := by decide +kernel
theorem dX11_dealt_104 : decode cX11_dealt 104 = .ok (.goto (-57), 3) := by decide +kernel
theorem dX11_dealt_107 : decode cX11_dealt 107 = .ok (.iload_n 2, 1) := by decide +kernel
theorem dX11_dealt_108 : decode cX11_dealt 108 = .ok (.ifCond .ne 9, 3) := by decide +kernel
theorem dX11_dealt_111 : decode cX11_dealt 111 = .ok (.aload_n 0, 1) := by decide +kernel
theorem dX11_dealt_112 : decode cX11_dealt 112 = .ok (.iconst 3, 1) := by decide +kernel
theorem dX11_dealt_113 : decode cX11_dealt 113 = .ok (.invokevirtual 90, 3) := by decide +kernel
theorem dX11_dealt_116 : decode cX11_dealt 116 = .ok (.ireturn, 1) := by decide +kernel
theorem dX11_dealt_117 : decode cX11_dealt 117 = .ok (.iconst 0, 1) := by decide +kernel
theorem dX11_dealt_118 : decode cX11_dealt 118 = .ok (.istore_n 3, 1) := by decide +kernel
theorem dX11_dealt_119 : decode cX11_dealt 119 = .ok (.iload_n 3, 1) := by decide +kernel
theorem dX11_dealt_120 : decode cX11_dealt 120 = .ok (.aload_n 0, 1) := by decide +kernel
theorem dX11_dealt_121 : decode cX11_dealt 121 = .ok (.getfield 135, 3) := by decide +kernel
theorem dX11_dealt_124 : decode cX11_dealt 124 = .ok (.if_icmp .ge 39, 3) := by decide +kernel
theorem dX11_dealt_127 : decode cX11_dealt 127 = .ok (.aload_n 0, 1) := by decide +kernel
theorem dX11_dealt_128 : decode cX11_dealt 128 = .ok (.getfield 29, 3) := by decide +kernel
theorem dX11_dealt_131 : decode cX11_dealt 131 = .ok (.iconst 4, 1) := by decide +kernel
theorem dX11_dealt_132 : decode cX11_dealt 132 = .ok (.iload_n 3, 1) := by decide +kernel
theorem dX11_dealt_133 : decode cX11_dealt 133 = .ok (.imul, 1) := by decide +kernel
theorem dX11_dealt_134 : decode cX11_dealt 134 = .ok (.iconst 1, 1) := by decide +kernel
theorem dX11_dealt_135 : decode cX11_dealt 135 = .ok (.iadd, 1) := by decide +kernel
theorem dX11_dealt_136 : decode cX11_dealt 136 = .ok (.aload_n 0, 1) := by decide +kernel
theorem dX11_dealt_137 : decode cX11_dealt 137 = .ok (.iload_n 3, 1) := by decide +kernel
theorem dX11_dealt_138 : decode cX11_dealt 138 = .ok (.invokevirtual 155, 3) := by decide +kernel
theorem dX11_dealt_141 : decode cX11_dealt 141 = .ok (.iconst 2, 1) := by decide +kernel
theorem dX11_dealt_142 : decode cX11_dealt 142 = .ok (.if_icmp .ne 8, 3) := by decide +kernel
theorem dX11_dealt_145 : decode cX11_dealt 145 = .ok (.bipush (-9), 2) := by decide +kernel
theorem dX11_dealt_147 : decode cX11_dealt 147 = .ok (.goto 9, 3) := by decide +kernel
theorem dX11_dealt_150 : decode cX11_dealt 150 = .ok (.aload_n 0, 1) := by decide +kernel
theorem dX11_dealt_151 : decode cX11_dealt 151 = .ok (.iload_n 1, 1) := by decide +kernel
theorem dX11_dealt_152 : decode cX11_dealt 152 = .ok (.iload_n 3, 1) := by decide +kernel
theorem dX11_dealt_153 : decode cX11_dealt 153 = .ok (.invokevirtual 94, 3) := by decide +kernel
theorem dX11_dealt_156 : decode cX11_dealt 156 = .ok (.iastore, 1) := by decide +kernel
theorem dX11_dealt_157 : decode cX11_dealt 157 = .ok (.iinc 3 1, 3) := by decide +kernel
theorem dX11_dealt_160 : decode cX11_dealt 160 = .ok (.goto (-41), 3) := by decide +kernel
theorem dX11_dealt_163 : decode cX11_dealt 163 = .ok (.iconst 1, 1) := by decide +kernel
theorem dX11_dealt_164 : decode cX11_dealt 164 = .ok (.ireturn, 1) := by decide +kernel
set_option maxRecDepth 20000 in
theorem ggX11_outCost_X11_all : GoodIn wsX11_outCost wsX11_all := goodIn_r _ [6, 7, 66, 67, 68, 69, 70, 71, 72, 73, 74, 75, 76, 77, 78, 79, 80, 81, 82, 83, 84, 85, 86, 87, 88, 89, 90, 91, 92, 93, 94, 95, 96] (by decide +kernel) (by decide +kernel)
set_option maxRecDepth 20000 in
theorem gX11_outCost_X11_all : GoodIn wsX11_outCost (wsV RX11 147 RX11 yX11_all wsX11_all) := goodIn_app (goodIn_of _ (by decide +kernel)) ggX11_outCost_X11_all
set_option maxRecDepth 20000 in
theorem ggX11_outCost_X11_layLeasts : GoodIn wsX11_outCost wsX11_layLeasts := goodIn_r _ [11, 1, 12, 7, 2, 3, 4, 5, 6, 13, 14, 15, 16, 17, 18, 19, 20, 21, 22, 23, 24, 25, 26, 27, 28, 29, 30, 31, 32, 33, 34, 35, 36, 37, 38, 39, 40, 41, 42, 43, 44, 45, 46, 47, 48, 49, 50, 51, 52, 53, 54, 55, 56, 57, 58, 59, 60, 61, 66, 67, 68, 69, 70, 71, 72, 73, 74, 75, 76, 77, 78, 79, 80, 81, 82, 83, 84, 85, 86, 87, 88, 89, 90, 91, 92, 93, 94, 95, 96] (by decide +kernel) (by decide +kernel)
set_option maxRecDepth 20000 in
theorem gX11_outCost_X11_layLeasts : GoodIn wsX11_outCost (wsV RX11 205 RX11 yX11_layLeasts wsX11_layLeasts) := goodIn_app (goodIn_of _ (by decide +kernel)) ggX11_outCost_X11_layLeasts
set_option maxRecDepth 20000 in
theorem ggX11_outCost_X11_firstWith : GoodIn wsX11_outCost wsX11_firstWith := goodIn_r _ [65, 12, 1, 2, 3, 4, 5, 6, 7, 66, 67, 68, 69, 70, 71, 72, 73, 74, 75, 76, 77, 78, 79, 80, 81, 82, 83, 84, 85, 86, 87, 88, 89, 90, 91, 92, 93, 94, 95, 96] (by decide +kernel) (by decide +kernel)
set_option maxRecDepth 20000 in
theorem gX11_outCost_X11_firstWith : GoodIn wsX11_outCost (wsV RX11 209 RX11 yX11_firstWith wsX11_firstWith) := goodIn_app (goodIn_of _ (by decide +kernel)) ggX11_outCost_X11_firstWith
theorem dX11_outCost_0 : decode cX11_outCost 0 = .ok (.aload_n 0, 1) := by decide +kernel
theorem dX11_outCost_1 : decode cX11_outCost 1 = .ok (.aload_n 0, 1) := by decide +kernel
theorem dX11_outCost_2 : decode cX11_outCost 2 = .ok (.invokevirtual 147, 3) := by decide +kernel
theorem dX11_outCost_5 : decode cX11_outCost 5 = .ok (.invokevirtual 205, 3) := by decide +kernel
theorem dX11_outCost_8 : decode cX11_outCost 8 = .ok (.aload_n 0, 1) := by decide +kernel
theorem dX11_outCost_9 : decode cX11_outCost 9 = .ok (.iconst 1, 1) := by decide +kernel
theorem dX11_outCost_10 : decode cX11_outCost 10 = .ok (.iload_n 1, 1) := by decide +kernel
theorem dX11_outCost_11 : decode cX11_outCost 11 = .ok (.ishl, 1) := by decide +kernel
theorem dX11_outCost_12 : decode cX11_outCost 12 = .ok (.invokevirtual 209, 3) := by decide +kernel
theorem dX11_outCost_15 : decode cX11_outCost 15 = .ok (.istore_n 2, 1) := by decide +kernel
theorem dX11_outCost_16 : decode cX11_outCost 16 = .ok (.iload_n 2, 1) := by decide +kernel
theorem dX11_outCost_17 : decode cX11_outCost 17 = .ok (.bipush (-9), 2) := by decide +kernel
theorem dX11_outCost_19 : decode cX11_outCost 19 = .ok (.if_icmp .ne 8, 3) := by decide +kernel
theorem dX11_outCost_22 : decode cX11_outCost 22 = .ok (.bipush 99, 2) := by decide +kernel
theorem dX11_outCost_24 : decode cX11_outCost 24 = .ok (.goto 9, 3) := by decide +kernel
theorem dX11_outCost_27 : decode cX11_outCost 27 = .ok (.aload_n 0, 1) := by decide +kernel
theorem dX11_outCost_28 : decode cX11_outCost 28 = .ok (.getfield 47, 3) := by decide +kernel
theorem dX11_outCost_31 : decode cX11_outCost 31 = .ok (.iload_n 2, 1) := by decide +kernel
theorem dX11_outCost_32 : decode cX11_outCost 32 = .ok (.iaload, 1) := by decide +kernel
theorem dX11_outCost_33 : decode cX11_outCost 33 = .ok (.ireturn, 1) := by decide +kernel
set_option maxRecDepth 20000 in
theorem ggX11_trade_X11_keeper : GoodIn wsX11_trade wsX11_keeper := goodIn_r _ [6, 1, 74, 75, 76, 77, 78, 79, 80, 81, 82, 83, 84, 85, 86, 87, 88, 89, 90, 91, 92, 93, 94, 95, 96, 97, 98, 99, 100, 101, 102, 103, 104] (by decide +kernel) (by decide +kernel)
set_option maxRecDepth 20000 in
theorem gX11_trade_X11_keeper : GoodIn wsX11_trade (wsV RX11 167 RX11 yX11_keeper wsX11_keeper) := goodIn_app (goodIn_of _ (by decide +kernel)) ggX11_trade_X11_keeper
set_option maxRecDepth 20000 in
theorem ggX11_trade_X11_kind : GoodIn wsX11_trade wsX11_kind := goodIn_r _ [10, 1, 74, 75, 76, 77, 78, 79, 80, 81, 82, 83, 84, 85, 86, 87, 88, 89, 90, 91, 92, 93, 94, 95, 96, 97, 98, 99, 100, 101, 102, 103, 104] (by decide +kernel) (by decide +kernel)
set_option maxRecDepth 20000 in
theorem gX11_trade_X11_kind : GoodIn wsX11_trade (wsV RX11 155 RX11 yX11_kind wsX11_kind) := goodIn_app (goodIn_of _ (by decide +kernel)) ggX11_trade_X11_kind
set_option maxRecDepth 20000 in
theorem ggX11_trade_X11_mayKeep : GoodIn wsX11_trade wsX11_mayKeep := goodIn_r _ [14, 15, 16, 17, 5, 18, 1, 74, 75, 76, 77, 78, 79, 80, 81, 82, 83, 84, 85, 86, 87, 88, 89, 90, 91, 92, 93, 94, 95, 96, 97, 98, 99, 100, 101, 102, 103, 104] (by decide +kernel) (by decide +kernel)
set_option maxRecDepth 20000 in
theorem gX11_trade_X11_mayKeep : GoodIn wsX11_trade (wsV RX11 221 RX11 yX11_mayKeep wsX11_mayKeep) := goodIn_app (goodIn_of _ (by decide +kernel)) ggX11_trade_X11_mayKeep
set_option maxRecDepth 20000 in
theorem ggX11_trade_X11_outCost : GoodIn wsX11_trade wsX11_outCost := goodIn_r _ [22, 23, 24, 25, 26, 5, 27, 28, 29, 30, 31, 32, 33, 34, 35, 36, 37, 38, 39, 40, 1, 7, 8, 9, 10, 41, 42, 43, 44, 45, 46, 47, 2, 3, 4, 6, 48, 49, 50, 51, 52, 53, 54, 55, 56, 57, 58, 59, 60, 61, 62, 63, 64, 65, 66, 67, 68, 69, 15, 16, 17, 18, 70, 71, 72, 73, 74, 75, 76, 77, 78, 79, 80, 81, 82, 83, 84, 85, 86, 87, 88, 89, 90, 91, 92, 93, 94, 95, 96, 97, 98, 99, 100, 101, 102, 103, 104] (by decide +kernel) (by decide +kernel)
set_option maxRecDepth 20000 in
theorem gX11_trade_X11_outCost : GoodIn wsX11_trade (wsV RX11 234 RX11 yX11_outCost wsX11_outCost) := goodIn_app (goodIn_of _ (by decide +kernel)) ggX11_trade_X11_outCost
theorem dX11_trade_0 : decode cX11_trade 0 = .ok (.aload_n 0, 1) := by decide +kernel
theorem dX11_trade_1 : decode cX11_trade 1 = .ok (.iload_n 1, 1) := by decide +kernel
theorem dX11_trade_2 : decode cX11_trade 2 = .ok (.invokevirtual 167, 3) := by decide +kernel
theorem dX11_trade_5 : decode cX11_trade 5 = .ok (.istore_n 3, 1) := by decide +kernel
theorem dX11_trade_6 : decode cX11_trade 6 = .ok (.aload_n 0, 1) := by decide +kernel
theorem dX11_trade_7 : decode cX11_trade 7 = .ok (.iload_n 2, 1) := by decide +kernel
theorem dX11_trade_8 : decode cX11_trade 8 = .ok (.invokevirtual 167, 3) := by decide +kernel
theorem dX11_trade_11 : decode cX11_trade 11 = .ok (.istore 4, 2) := by decide +kernel
theorem dX11_trade_13 : decode cX11_trade 13 = .ok (.aload_n 0, 1) := by decide +kernel
theorem dX11_trade_14 : decode cX11_trade 14 = .ok (.iload_n 1, 1) := by decide +kernel
theorem dX11_trade_15 : decode cX11_trade 15 = .ok (.invokevirtual 155, 3) := by decide +kernel
theorem dX11_trade_18 : decode cX11_trade 18 = .ok (.iconst 2, 1) := by decide +kernel
theorem dX11_trade_19 : decode cX11_trade 19 = .ok (.if_icmp .eq 37, 3) := by decide +kernel
theorem dX11_trade_22 : decode cX11_trade 22 = .ok (.aload_n 0, 1) := by decide +kernel
theorem dX11_trade_23 : decode cX11_trade 23 = .ok (.iload_n 2, 1) := by decide +kernel
theorem dX11_trade_24 : decode cX11_trade 24 = .ok (.invokevirtual 155, 3) := by decide +kernel
theorem dX11_trade_27 : decode cX11_trade 27 = .ok (.iconst 2, 1) := by decide +kernel
theorem dX11_trade_28 : decode cX11_trade 28 = .ok (.if_icmp .eq 28, 3) := by decide +kernel
theorem dX11_trade_31 : decode cX11_trade 31 = .ok (.iload_n 3, 1) := by decide +kernel
theorem dX11_trade_32 : decode cX11_trade 32 = .ok (.iload 4, 2) := by decide +kernel
theorem dX11_trade_34 : decode cX11_trade 34 = .ok (.if_icmp .eq 22, 3) := by decide +kernel
theorem dX11_trade_37 : decode cX11_trade 37 = .ok (.aload_n 0, 1) := by decide +kernel
theorem dX11_trade_38 : decode cX11_trade 38 = .ok (.iload_n 1, 1) := by decide +kernel
theorem dX11_trade_39 : decode cX11_trade 39 = .ok (.iload 4, 2) := by decide +kernel
theorem dX11_trade_41 : decode cX11_trade 41 = .ok (.invokevirtual 221, 3) := by decide +kernel
theorem dX11_trade_44 : decode cX11_trade 44 = .ok (.ifCond .eq 12, 3) := by decide +kernel
theorem dX11_trade_47 : decode cX11_trade 47 = .ok (.aload_n 0, 1) := by decide +kernel
theorem dX11_trade_48 : decode cX11_trade 48 = .ok (.iload_n 2, 1) := by decide +kernel
theorem dX11_trade_49 : decode cX11_trade 49 = .ok (.iload_n 3, 1) := by decide +kernel
theorem dX11_trade_50 : decode cX11_trade 50 = .ok (.invokevirtual 221, 3) := by decide +kernel
theorem dX11_trade_53 : decode cX11_trade 53 = .ok (.ifCond .ne 5, 3) := by decide +kernel
theorem dX11_trade_56 : decode cX11_trade 56 = .ok (.iconst 0, 1) := by decide +kernel
theorem dX11_trade_57 : decode cX11_trade 57 = .ok (.ireturn, 1) := by decide +kernel
theorem dX11_trade_58 : decode cX11_trade 58 = .ok (.aload_n 0, 1) := by decide +kernel
theorem dX11_trade_59 : decode cX11_trade 59 = .ok (.iload_n 3, 1) := by decide +kernel
theorem dX11_trade_60 : decode cX11_trade 60 = .ok (.invokevirtual 234, 3) := by decide +kernel
theorem dX11_trade_63 : decode cX11_trade 63 = .ok (.istore 5, 2) := by decide +kernel
theorem dX11_trade_65 : decode cX11_trade 65 = .ok (.aload_n 0, 1) := by decide +kernel
theorem dX11_trade_66 : decode cX11_trade 66 = .ok (.iload 4, 2) := by decide +kernel
theorem dX11_trade_68 : decode cX11_trade 68 = .ok (.invokevirtual 234, 3) := by decide +kernel
theorem dX11_trade_71 : decode cX11_trade 71 = .ok (.istore 6, 2) := by decide +kernel
theorem dX11_trade_73 : decode cX11_trade 73 = .ok (.aload_n 0, 1) := by decide +kernel
theorem dX11_trade_74 : decode cX11_trade 74 = .ok (.getfield 29, 3) := by decide +kernel
theorem dX11_trade_77 : decode cX11_trade 77 = .ok (.iconst 4, 1) := by decide +kernel
theorem dX11_trade_78 : decode cX11_trade 78 = .ok (.iload_n 1, 1) := by decide +kernel
theorem dX11_trade_79 : decode cX11_trade 79 = .ok (.imul, 1) := by decide +kernel
theorem dX11_trade_80 : decode cX11_trade 80 = .ok (.iconst 1, 1) := by decide +kernel
theorem dX11_trade_81 : decode cX11_trade 81 = .ok (.iadd, 1) := by decide +kernel
theorem dX11_trade_82 : decode cX11_trade 82 = .ok (.iload 4, 2) := by decide +kernel
theorem dX11_trade_84 : decode cX11_trade 84 = .ok (.iastore, 1) := by decide +kernel
theorem dX11_trade_85 : decode cX11_trade 85 = .ok (.aload_n 0, 1) := by decide +kernel
theorem dX11_trade_86 : decode cX11_trade 86 = .ok (.getfield 29, 3) := by decide +kernel
theorem dX11_trade_89 : decode cX11_trade 89 = .ok (.iconst 4, 1) := by decide +kernel
theorem dX11_trade_90 : decode cX11_trade 90 = .ok (.iload_n 2, 1) := by decide +kernel
theorem dX11_trade_91 : decode cX11_trade 91 = .ok (.imul, 1) := by decide +kernel
theorem dX11_trade_92 : decode cX11_trade 92 = .ok (.iconst 1, 1) := by decide +kernel
theorem dX11_trade_93 : decode cX11_trade 93 = .ok (.iadd, 1) := by decide +kernel
theorem dX11_trade_94 : decode cX11_trade 94 = .ok (.iload_n 3, 1) := by decide +kernel
theorem dX11_trade_95 : decode cX11_trade 95 = .ok (.iastore, 1) := by decide +kernel
theorem dX11_trade_96 : decode cX11_trade 96 = .ok (.aload_n 0, 1) := by decide +kernel
theorem dX11_trade_97 : decode cX11_trade 97 = .ok (.iload_n 3, 1) := by decide +kernel
theorem dX11_trade_98 : decode cX11_trade 98 = .ok (.invokevirtual 234, 3) := by decide +kernel
theorem dX11_trade_101 : decode cX11_trade 101 = .ok (.iload 5, 2) := by decide +kernel
theorem dX11_trade_103 : decode cX11_trade 103 = .ok (.if_icmp .ge 16, 3) := by decide +kernel
theorem dX11_trade_106 : decode cX11_trade 106 = .ok (.aload_n 0, 1) := by decide +kernel
theorem dX11_trade_107 : decode cX11_trade 107 = .ok (.iload 4, 2) := by decide +kernel
theorem dX11_trade_109 : decode cX11_trade 109 = .ok (.invokevirtual 234, 3) := by decide +kernel
theorem dX11_trade_112 : decode cX11_trade 112 = .ok (.iload 6, 2) := by decide +kernel
theorem dX11_trade_114 : decode cX11_trade 114 = .ok (.if_icmp .ge 5, 3) := by decide +kernel
theorem dX11_trade_117 : decode cX11_trade 117 = .ok (.iconst 1, 1) := by decide +kernel
theorem dX11_trade_118 : decode cX11_trade 118 = .ok (.ireturn, 1) := by decide +kernel
theorem dX11_trade_119 : decode cX11_trade 119 = .ok (.aload_n 0, 1) := by decide +kernel
theorem dX11_trade_120 : decode cX11_trade 120 = .ok (.getfield 29, 3) := by decide +kernel
theorem dX11_trade_123 : decode cX11_trade 123 = .ok (.iconst 4, 1) := by decide +kernel
theorem dX11_trade_124 : decode cX11_trade 124 = .ok (.iload_n 1, 1) := by decide +kernel
theorem dX11_trade_125 : decode cX11_trade 125 = .ok (.imul, 1) := by decide +kernel
theorem dX11_trade_126 : decode cX11_trade 126 = .ok (.iconst 1, 1) := by decide +kernel
theorem dX11_trade_127 : decode cX11_trade 127 = .ok (.iadd, 1) := by decide +kernel
theorem dX11_trade_128 : decode cX11_trade 128 = .ok (.iload_n 3, 1) := by decide +kernel
theorem dX11_trade_129 : decode cX11_trade 129 = .ok (.iastore, 1) := by decide +kernel
theorem dX11_trade_130 : decode cX11_trade 130 = .ok (.aload_n 0, 1) := by decide +kernel
theorem dX11_trade_131 : decode cX11_trade 131 = .ok (.getfield 29, 3) := by decide +kernel
theorem dX11_trade_134 : decode cX11_trade 134 = .ok (.iconst 4, 1) := by decide +kernel
theorem dX11_trade_135 : decode cX11_trade 135 = .ok (.iload_n 2, 1) := by decide +kernel
theorem dX11_trade_136 : decode cX11_trade 136 = .ok (.imul, 1) := by decide +kernel
theorem dX11_trade_137 : decode cX11_trade 137 = .ok (.iconst 1, 1) := by decide +kernel
theorem dX11_trade_138 : decode cX11_trade 138 = .ok (.iadd, 1) := by decide +kernel
theorem dX11_trade_139 : decode cX11_trade 139 = .ok (.iload 4, 2) := by decide +kernel
theorem dX11_trade_141 : decode cX11_trade 141 = .ok (.iastore, 1) := by decide +kernel
theorem dX11_trade_142 : decode cX11_trade 142 = .ok (.iconst 0, 1) := by decide +kernel
theorem dX11_trade_143 : decode cX11_trade 143 = .ok (.ireturn, 1) := by decide +kernel
set_option maxRecDepth 20000 in
theorem ggX11_tradesOnce_X11_trade : GoodIn wsX11_tradesOnce wsX11_trade := goodIn_r _ [6, 7, 8, 9, 10, 5, 11, 12, 13, 14, 15, 16, 17, 18, 19, 20, 21, 22, 23, 24, 25, 26, 27, 28, 29, 30, 31, 32, 1, 33, 34, 35, 36, 37, 38, 39, 40, 41, 42, 43, 44, 45, 46, 47, 48, 49, 50, 51, 52, 53, 54, 55, 56, 57, 58, 59, 60, 61, 62, 63, 64, 65, 66, 67, 68, 69, 70, 71, 72, 73, 74, 75, 76, 77, 78, 79, 80, 81, 82, 83, 84, 85, 86, 87, 88, 89, 90, 91, 92, 93, 94, 95, 96, 97, 98, 99, 100, 101, 102, 103, 104, 105, 106, 107, 108] (by decide +kernel) (by decide +kernel)
set_option maxRecDepth 20000 in
theorem gX11_tradesOnce_X11_trade : GoodIn wsX11_tradesOnce (wsV RX11 237 RX11 yX11_trade wsX11_trade) := goodIn_app (goodIn_of _ (by decide +kernel)) ggX11_tradesOnce_X11_trade
theorem dX11_tradesOnce_0 : decode cX11_tradesOnce 0 = .ok (.iconst 0, 1) := by decide +kernel
theorem dX11_tradesOnce_1 : decode cX11_tradesOnce 1 = .ok (.istore_n 1, 1) := by decide +kernel
theorem dX11_tradesOnce_2 : decode cX11_tradesOnce 2 = .ok (.iload_n 1, 1) := by decide +kernel
theorem dX11_tradesOnce_3 : decode cX11_tradesOnce 3 = .ok (.aload_n 0, 1) := by decide +kernel
theorem dX11_tradesOnce_4 : decode cX11_tradesOnce 4 = .ok (.getfield 135, 3) := by decide +kernel
theorem dX11_tradesOnce_7 : decode cX11_tradesOnce 7 = .ok (.if_icmp .ge 38, 3) := by decide +kernel
theorem dX11_tradesOnce_10 : decode cX11_tradesOnce 10 = .ok (.iload_n 1, 1) := by decide +kernel
theorem dX11_tradesOnce_11 : decode cX11_tradesOnce 11 = .ok (.iconst 1, 1) := by decide +kernel
theorem dX11_tradesOnce_12 : decode cX11_tradesOnce 12 = .ok (.iadd, 1) := by decide +kernel
theorem dX11_tradesOnce_13 : decode cX11_tradesOnce 13 = .ok (.istore_n 2, 1) := by decide +kernel
theorem dX11_tradesOnce_14 : decode cX11_tradesOnce 14 = .ok (.iload_n 2, 1) := by decide +kernel
theorem dX11_tradesOnce_15 : decode cX11_tradesOnce 15 = .ok (.aload_n 0, 1) := by decide +kernel
theorem dX11_tradesOnce_16 : decode cX11_tradesOnce 16 = .ok (.getfield 135, 3) := by decide +kernel
theorem dX11_tradesOnce_19 : decode cX11_tradesOnce 19 = .ok (.if_icmp .ge 20, 3) := by decide +kernel
theorem dX11_tradesOnce_22 : decode cX11_tradesOnce 22 = .ok (.aload_n 0, 1) := by decide +kernel
theorem dX11_tradesOnce_23 : decode cX11_tradesOnce 23 = .ok (.iload_n 1, 1) := by decide +kernel
theorem dX11_tradesOnce_24 : decode cX11_tradesOnce 24 = .ok (.iload_n 2, 1) := by decide +kernel
theorem dX11_tradesOnce_25 : decode cX11_tradesOnce 25 = .ok (.invokevirtual 237, 3) := by decide +kernel
theorem dX11_tradesOnce_28 : decode cX11_tradesOnce 28 = .ok (.ifCond .eq 5, 3) := by decide +kernel
theorem dX11_tradesOnce_31 : decode cX11_tradesOnce 31 = .ok (.iconst 1, 1) := by decide +kernel
theorem dX11_tradesOnce_32 : decode cX11_tradesOnce 32 = .ok (.ireturn, 1) := by decide +kernel
theorem dX11_tradesOnce_33 : decode cX11_tradesOnce 33 = .ok (.iinc 2 1, 3) := by decide +kernel
theorem dX11_tradesOnce_36 : decode cX11_tradesOnce 36 = .ok (.goto (-22), 3) := by decide +kernel
theorem dX11_tradesOnce_39 : decode cX11_tradesOnce 39 = .ok (.iinc 1 1, 3) := by decide +kernel
theorem dX11_tradesOnce_42 : decode cX11_tradesOnce 42 = .ok (.goto (-40), 3) := by decide +kernel
theorem dX11_tradesOnce_45 : decode cX11_tradesOnce 45 = .ok (.iconst 0, 1) := by decide +kernel
theorem dX11_tradesOnce_46 : decode cX11_tradesOnce 46 = .ok (.ireturn, 1) := by decide +kernel
set_option maxRecDepth 20000 in
theorem ggX11_trades_X11_tradesOnce : GoodIn wsX11_trades wsX11_tradesOnce := goodIn_r _ [5, 6, 7, 8, 9, 4, 10, 11, 12, 13, 14, 15, 16, 17, 18, 19, 20, 21, 22, 23, 24, 25, 26, 27, 28, 29, 30, 31, 32, 33, 34, 35, 36, 37, 38, 39, 40, 41, 42, 43, 44, 45, 46, 47, 48, 49, 50, 51, 52, 53, 54, 55, 56, 57, 58, 59, 60, 61, 62, 63, 64, 65, 66, 67, 68, 69, 70, 71, 72, 73, 74, 75, 76, 77, 78, 79, 80, 81, 82, 83, 84, 85, 86, 87, 88, 89, 90, 91, 92, 93, 94, 95, 96, 97, 98, 99, 100, 101, 102, 103, 104, 105, 106, 107, 108, 109, 110, 111, 112] (by decide +kernel) (by decide +kernel)
set_option maxRecDepth 20000 in
theorem gX11_trades_X11_tradesOnce : GoodIn wsX11_trades (wsV RX11 240 RX11 yX11_tradesOnce wsX11_tradesOnce) := goodIn_app (goodIn_of _ (by decide +kernel)) ggX11_trades_X11_tradesOnce
theorem dX11_trades_0 : decode cX11_trades 0 = .ok (.iconst 0, 1) := by decide +kernel
theorem dX11_trades_1 : decode cX11_trades 1 = .ok (.istore_n 1, 1) := by decide +kernel
theorem dX11_trades_2 : decode cX11_trades 2 = .ok (.iload_n 1, 1) := by decide +kernel
theorem dX11_trades_3 : decode cX11_trades 3 = .ok (.bipush 20, 2) := by decide +kernel
theorem dX11_trades_5 : decode cX11_trades 5 = .ok (.if_icmp .ge 16, 3) := by decide +kernel
theorem dX11_trades_8 : decode cX11_trades 8 = .ok (.aload_n 0, 1) := by decide +kernel
theorem dX11_trades_9 : decode cX11_trades 9 = .ok (.invokevirtual 240, 3) := by decide +kernel
theorem dX11_trades_12 : decode cX11_trades 12 = .ok (.ifCond .eq 9, 3) := by decide +kernel
theorem dX11_trades_15 : decode cX11_trades 15 = .ok (.iinc 1 1, 3) := by decide +kernel
theorem dX11_trades_18 : decode cX11_trades 18 = .ok (.goto (-16), 3) := by decide +kernel
theorem dX11_trades_21 : decode cX11_trades 21 = .ok (.iload_n 1, 1) := by decide +kernel
theorem dX11_trades_22 : decode cX11_trades 22 = .ok (.ireturn, 1) := by decide +kernel
set_option maxRecDepth 20000 in
theorem ggX11_saw_X11_isCell : GoodIn wsX11_saw wsX11_isCell := goodIn_r _ [8, 9, 10, 11, 7, 12, 13, 14, 15, 16, 17, 18, 19, 20, 21, 22, 23, 24, 25, 26, 27, 28, 29, 30, 31, 32, 33, 34, 35, 36, 37, 38, 39, 40, 41, 42, 43] (by decide +kernel) (by decide +kernel)
set_option maxRecDepth 20000 in
theorem gX11_saw_X11_isCell : GoodIn wsX11_saw (wsV RX11 158 RX11 yX11_isCell wsX11_isCell) := goodIn_app (goodIn_of _ (by decide +kernel)) ggX11_saw_X11_isCell
set_option maxRecDepth 20000 in
theorem ggX11_saw_X11_in : GoodIn wsX11_saw wsX11_in := goodIn_r _ [12] (by decide +kernel) (by decide +kernel)
set_option maxRecDepth 20000 in
theorem gX11_saw_X11_in : GoodIn wsX11_saw (va_wsS RX11 76 yX11_in wsX11_in) := goodIn_app (goodIn_of _ (by decide +kernel)) ggX11_saw_X11_in
theorem dX11_saw_0 : decode cX11_saw 0 = .ok (.aload_n 0, 1) := by decide +kernel
theorem dX11_saw_1 : decode cX11_saw 1 = .ok (.iload_n 1, 1) := by decide +kernel
theorem dX11_saw_2 : decode cX11_saw 2 = .ok (.invokevirtual 158, 3) := by decide +kernel
theorem dX11_saw_5 : decode cX11_saw 5 = .ok (.ifCond .eq 12, 3) := by decide +kernel
theorem dX11_saw_8 : decode cX11_saw 8 = .ok (.iload_n 2, 1) := by decide +kernel
theorem dX11_saw_9 : decode cX11_saw 9 = .ok (.iconst 0, 1) := by decide +kernel
theorem dX11_saw_10 : decode cX11_saw 10 = .ok (.iconst 1, 1) := by decide +kernel
theorem dX11_saw_11 : decode cX11_saw 11 = .ok (.invokestatic 76, 3) := by decide +kernel
theorem dX11_saw_14 : decode cX11_saw 14 = .ok (.ifCond .ne 5, 3) := by decide +kernel
theorem dX11_saw_17 : decode cX11_saw 17 = .ok (.iconst (-1), 1) := by decide +kernel
theorem dX11_saw_18 : decode cX11_saw 18 = .ok (.ireturn, 1) := by decide +kernel
theorem dX11_saw_19 : decode cX11_saw 19 = .ok (.aload_n 0, 1) := by decide +kernel
theorem dX11_saw_20 : decode cX11_saw 20 = .ok (.getfield 144, 3) := by decide +kernel
theorem dX11_saw_23 : decode cX11_saw 23 = .ok (.bipush 8, 2) := by decide +kernel
theorem dX11_saw_25 : decode cX11_saw 25 = .ok (.if_icmp .ne 6, 3) := by decide +kernel
theorem dX11_saw_28 : decode cX11_saw 28 = .ok (.bipush (-2), 2) := by decide +kernel
theorem dX11_saw_30 : decode cX11_saw 30 = .ok (.ireturn, 1) := by decide +kernel
theorem dX11_saw_31 : decode cX11_saw 31 = .ok (.aload_n 0, 1) := by decide +kernel
theorem dX11_saw_32 : decode cX11_saw 32 = .ok (.getfield 62, 3) := by decide +kernel
theorem dX11_saw_35 : decode cX11_saw 35 = .ok (.aload_n 0, 1) := by decide +kernel
theorem dX11_saw_36 : decode cX11_saw 36 = .ok (.getfield 144, 3) := by decide +kernel
theorem dX11_saw_39 : decode cX11_saw 39 = .ok (.iload_n 1, 1) := by decide +kernel
theorem dX11_saw_40 : decode cX11_saw 40 = .ok (.iastore, 1) := by decide +kernel
theorem dX11_saw_41 : decode cX11_saw 41 = .ok (.aload_n 0, 1) := by decide +kernel
theorem dX11_saw_42 : decode cX11_saw 42 = .ok (.getfield 65, 3) := by decide +kernel
theorem dX11_saw_45 : decode cX11_saw 45 = .ok (.aload_n 0, 1) := by decide +kernel
theorem dX11_saw_46 : decode cX11_saw 46 = .ok (.getfield 144, 3) := by decide +kernel
theorem dX11_saw_49 : decode cX11_saw 49 = .ok (.iload_n 2, 1) := by decide +kernel
theorem dX11_saw_50 : decode cX11_saw 50 = .ok (.iastore, 1) := by decide +kernel
theorem dX11_saw_51 : decode cX11_saw 51 = .ok (.aload_n 0, 1) := by decide +kernel
theorem dX11_saw_52 : decode cX11_saw 52 = .ok (.dup, 1) := by decide +kernel
theorem dX11_saw_53 : decode cX11_saw 53 = .ok (.getfield 144, 3) := by decide +kernel
theorem dX11_saw_56 : decode cX11_saw 56 = .ok (.iconst 1, 1) := by decide +kernel
theorem dX11_saw_57 : decode cX11_saw 57 = .ok (.iadd, 1) := by decide +kernel
theorem dX11_saw_58 : decode cX11_saw 58 = .ok (.putfield 144, 3) := by decide +kernel
theorem dX11_saw_61 : decode cX11_saw 61 = .ok (.aload_n 0, 1) := by decide +kernel
theorem dX11_saw_62 : decode cX11_saw 62 = .ok (.getfield 144, 3) := by decide +kernel
theorem dX11_saw_65 : decode cX11_saw 65 = .ok (.iconst 1, 1) := by decide +kernel
theorem dX11_saw_66 : decode cX11_saw 66 = .ok (.isub, 1) := by decide +kernel
theorem dX11_saw_67 : decode cX11_saw 67 = .ok (.ireturn, 1) := by decide +kernel
set_option maxRecDepth 20000 in
theorem ggX11_forget_X11_in : GoodIn wsX11_forget wsX11_in := goodIn_r _ [5] (by decide +kernel) (by decide +kernel)
set_option maxRecDepth 20000 in
theorem gX11_forget_X11_in : GoodIn wsX11_forget (va_wsS RX11 76 yX11_in wsX11_in) := goodIn_app (goodIn_of _ (by decide +kernel)) ggX11_forget_X11_in
theorem dX11_forget_0 : decode cX11_forget 0 = .ok (.iload_n 1, 1) := by decide +kernel
theorem dX11_forget_1 : decode cX11_forget 1 = .ok (.iconst 0, 1) := by decide +kernel
theorem dX11_forget_2 : decode cX11_forget 2 = .ok (.aload_n 0, 1) := by decide +kernel
theorem dX11_forget_3 : decode cX11_forget 3 = .ok (.getfield 144, 3) := by decide +kernel
theorem dX11_forget_6 : decode cX11_forget 6 = .ok (.invokestatic 76, 3) := by decide +kernel
theorem dX11_forget_9 : decode cX11_forget 9 = .ok (.ifCond .ne 5, 3) := by decide +kernel
theorem dX11_forget_12 : decode cX11_forget 12 = .ok (.iconst (-1), 1) := by decide +kernel
theorem dX11_forget_13 : decode cX11_forget 13 = .ok (.ireturn, 1) := by decide +kernel
theorem dX11_forget_14 : decode cX11_forget 14 = .ok (.aload_n 0, 1) := by decide +kernel
theorem dX11_forget_15 : decode cX11_forget 15 = .ok (.getfield 144, 3) := by decide +kernel
theorem dX11_forget_18 : decode cX11_forget 18 = .ok (.iload_n 1, 1) := by decide +kernel
theorem dX11_forget_19 : decode cX11_forget 19 = .ok (.isub, 1) := by decide +kernel
theorem dX11_forget_20 : decode cX11_forget 20 = .ok (.istore_n 2, 1) := by decide +kernel
theorem dX11_forget_21 : decode cX11_forget 21 = .ok (.aload_n 0, 1) := by decide +kernel
theorem dX11_forget_22 : decode cX11_forget 22 = .ok (.iload_n 1, 1) := by decide +kernel
theorem dX11_forget_23 : decode cX11_forget 23 = .ok (.putfield 144, 3) := by decide +kernel
theorem dX11_forget_26 : decode cX11_forget 26 = .ok (.iload_n 2, 1) := by decide +kernel
theorem dX11_forget_27 : decode cX11_forget 27 = .ok (.ireturn, 1) := by decide +kernel
set_option maxRecDepth 20000 in
theorem ggX11_fits_X11_has : GoodIn wsX11_fits wsX11_has := goodIn_r _ [9] (by decide +kernel) (by decide +kernel)
set_option maxRecDepth 20000 in
theorem gX11_fits_X11_has : GoodIn wsX11_fits (va_wsS RX11 151 yX11_has wsX11_has) := goodIn_app (goodIn_of _ (by decide +kernel)) ggX11_fits_X11_has
theorem dX11_fits_0 : decode cX11_fits 0 = .ok (.aload_n 0, 1) := by decide +kernel
theorem dX11_fits_1 : decode cX11_fits 1 = .ok (.getfield 50, 3) := by decide +kernel
theorem dX11_fits_4 : decode cX11_fits 4 = .ok (.iload_n 1, 1) := by decide +kernel
theorem dX11_fits_5 : decode cX11_fits 5 = .ok (.iaload, 1) := by decide +kernel
theorem dX11_fits_6 : decode cX11_fits 6 = .ok (.ifCond .le 17, 3) := by decide +kernel
theorem dX11_fits_9 : decode cX11_fits 9 = .ok (.aload_n 0, 1) := by decide +kernel
theorem dX11_fits_10 : decode cX11_fits 10 = .ok (.getfield 47, 3) := by decide +kernel
theorem dX11_fits_13 : decode cX11_fits 13 = .ok (.iload_n 1, 1) := by decide +kernel
theorem dX11_fits_14 : decode cX11_fits 14 = .ok (.iaload, 1) := by decide +kernel
theorem dX11_fits_15 : decode cX11_fits 15 = .ok (.iload_n 2, 1) := by decide +kernel
theorem dX11_fits_16 : decode cX11_fits 16 = .ok (.if_icmp .gt 7, 3) := by decide +kernel
theorem dX11_fits_19 : decode cX11_fits 19 = .ok (.iconst 1, 1) := by decide +kernel
theorem dX11_fits_20 : decode cX11_fits 20 = .ok (.goto 4, 3) := by decide +kernel
theorem dX11_fits_23 : decode cX11_fits 23 = .ok (.iconst 0, 1) := by decide +kernel
theorem dX11_fits_24 : decode cX11_fits 24 = .ok (.istore_n 3, 1) := by decide +kernel
theorem dX11_fits_25 : decode cX11_fits 25 = .ok (.iconst 0, 1) := by decide +kernel
theorem dX11_fits_26 : decode cX11_fits 26 = .ok (.istore 4, 2) := by decide +kernel
theorem dX11_fits_28 : decode cX11_fits 28 = .ok (.iload 4, 2) := by decide +kernel
theorem dX11_fits_30 : decode cX11_fits 30 = .ok (.aload_n 0, 1) := by decide +kernel
theorem dX11_fits_31 : decode cX11_fits 31 = .ok (.getfield 144, 3) := by decide +kernel
theorem dX11_fits_34 : decode cX11_fits 34 = .ok (.if_icmp .ge 49, 3) := by decide +kernel
theorem dX11_fits_37 : decode cX11_fits 37 = .ok (.iload_n 3, 1) := by decide +kernel
theorem dX11_fits_38 : decode cX11_fits 38 = .ok (.ifCond .eq 37, 3) := by decide +kernel
theorem dX11_fits_41 : decode cX11_fits 41 = .ok (.iload_n 1, 1) := by decide +kernel
theorem dX11_fits_42 : decode cX11_fits 42 = .ok (.aload_n 0, 1) := by decide +kernel
theorem dX11_fits_43 : decode cX11_fits 43 = .ok (.getfield 62, 3) := by decide +kernel
theorem dX11_fits_46 : decode cX11_fits 46 = .ok (.iload 4, 2) := by decide +kernel
theorem dX11_fits_48 : decode cX11_fits 48 = .ok (.iaload, 1) := by decide +kernel
theorem dX11_fits_49 : decode cX11_fits 49 = .ok (.invokestatic 151, 3) := by decide +kernel
theorem dX11_fits_52 : decode cX11_fits 52 = .ok (.aload_n 0, 1) := by decide +kernel
theorem dX11_fits_53 : decode cX11_fits 53 = .ok (.getfield 65, 3) := by decide +kernel
theorem dX11_fits_56 : decode cX11_fits 56 = .ok (.iload 4, 2) := by decide +kernel
theorem dX11_fits_58 : decode cX11_fits 58 = .ok (.iaload, 1) := by decide +kernel
theorem dX11_fits_59 : decode cX11_fits 59 = .ok (.iconst 1, 1) := by decide +kernel
theorem dX11_fits_60 : decode cX11_fits 60 = .ok (.if_icmp .ne 7, 3) := by decide +kernel
theorem dX11_fits_63 : decode cX11_fits 63 = .ok (.iconst 1, 1) := by decide +kernel
theorem dX11_fits_64 : decode cX11_fits 64 = .ok (.goto 4, 3) := by decide +kernel
theorem dX11_fits_67 : decode cX11_fits 67 = .ok (.iconst 0, 1) := by decide +kernel
theorem dX11_fits_68 : decode cX11_fits 68 = .ok (.if_icmp .ne 7, 3) := by decide +kernel
theorem dX11_fits_71 : decode cX11_fits 71 = .ok (.iconst 1, 1) := by decide +kernel
theorem dX11_fits_72 : decode cX11_fits 72 = .ok (.goto 4, 3) := by decide +kernel
theorem dX11_fits_75 : decode cX11_fits 75 = .ok (.iconst 0, 1) := by decide +kernel
theorem dX11_fits_76 : decode cX11_fits 76 = .ok (.istore_n 3, 1) := by decide +kernel
theorem dX11_fits_77 : decode cX11_fits 77 = .ok (.iinc 4 1, 3) := by decide +kernel
theorem dX11_fits_80 : decode cX11_fits 80 = .ok (.goto (-52), 3) := by decide +kernel
theorem dX11_fits_83 : decode cX11_fits 83 = .ok (.iload_n 3, 1) := by decide +kernel
theorem dX11_fits_84 : decode cX11_fits 84 = .ok (.ireturn, 1) := by decide +kernel
set_option maxRecDepth 20000 in
theorem ggX11_culprits_X11_in : GoodIn wsX11_culprits wsX11_in := goodIn_r _ [4] (by decide +kernel) (by decide +kernel)
set_option maxRecDepth 20000 in
theorem gX11_culprits_X11_in : GoodIn wsX11_culprits (va_wsS RX11 76 yX11_in wsX11_in) := goodIn_app (goodIn_of _ (by decide +kernel)) ggX11_culprits_X11_in
set_option maxRecDepth 20000 in
theorem ggX11_culprits_X11_all : GoodIn wsX11_culprits wsX11_all := goodIn_r _ [8, 9, 77, 78, 79, 80, 81, 82, 83, 84, 85, 86, 87, 88, 89, 90, 91, 92, 93, 94, 95, 96, 97, 98, 99, 100, 101, 102, 103, 104, 105, 106, 107] (by decide +kernel) (by decide +kernel)
set_option maxRecDepth 20000 in
theorem gX11_culprits_X11_all : GoodIn wsX11_culprits (wsV RX11 147 RX11 yX11_all wsX11_all) := goodIn_app (goodIn_of _ (by decide +kernel)) ggX11_culprits_X11_all
set_option maxRecDepth 20000 in
theorem ggX11_culprits_X11_layLeasts : GoodIn wsX11_culprits wsX11_layLeasts := goodIn_r _ [13, 14, 15, 9, 5, 6, 7, 3, 8, 16, 17, 18, 19, 20, 21, 22, 23, 24, 25, 26, 27, 28, 29, 30, 31, 32, 33, 34, 35, 36, 37, 38, 39, 40, 41, 42, 43, 44, 45, 46, 47, 48, 49, 50, 51, 52, 53, 54, 55, 56, 57, 58, 59, 60, 61, 62, 63, 64, 77, 78, 79, 80, 81, 82, 83, 84, 85, 86, 87, 88, 89, 90, 91, 92, 93, 94, 95, 96, 97, 98, 99, 100, 101, 102, 103, 104, 105, 106, 107] (by decide +kernel) (by decide +kernel)
set_option maxRecDepth 20000 in
theorem gX11_culprits_X11_layLeasts : GoodIn wsX11_culprits (wsV RX11 205 RX11 yX11_layLeasts wsX11_layLeasts) := goodIn_app (goodIn_of _ (by decide +kernel)) ggX11_culprits_X11_layLeasts
set_option maxRecDepth 20000 in
theorem ggX11_culprits_X11_fits : GoodIn wsX11_culprits wsX11_fits := goodIn_r _ [68, 15, 14, 69, 70, 71, 16, 17, 3, 18, 77, 78, 79, 80, 81, 82, 83, 84, 85, 86, 87, 88, 89, 90, 91, 92, 93, 94, 95, 96, 97, 98, 99, 100, 101, 102, 103, 104, 105, 106, 107] (by decide +kernel) (by decide +kernel)
set_option maxRecDepth 20000 in
theorem gX11_culprits_X11_fits : GoodIn wsX11_culprits (wsV RX11 243 RX11 yX11_fits wsX11_fits) := goodIn_app (goodIn_of _ (by decide +kernel)) ggX11_culprits_X11_fits
set_option maxRecDepth 20000 in
theorem ggX11_culprits_X11_tells : GoodIn wsX11_culprits wsX11_tells := goodIn_r _ [75, 76, 77, 78, 79, 80, 81, 82, 83, 84, 85, 86, 87, 88, 89, 90, 91, 92, 93, 94, 95, 96, 97, 98, 99, 100, 101, 102, 103, 104, 105, 106, 107] (by decide +kernel) (by decide +kernel)
set_option maxRecDepth 20000 in
theorem gX11_culprits_X11_tells : GoodIn wsX11_culprits (wsV RX11 98 RX11 yX11_tells wsX11_tells) := goodIn_app (goodIn_of _ (by decide +kernel)) ggX11_culprits_X11_tells
theorem dX11_culprits_0 : decode cX11_culprits 0 = .ok (.iload_n 1, 1) := by decide +kernel
theorem dX11_culprits_1 : decode cX11_culprits 1 = .ok (.iconst 0, 1) := by decide +kernel
theorem dX11_culprits_2 : decode cX11_culprits 2 = .ok (.bipush 99, 2) := by decide +kernel
theorem dX11_culprits_4 : decode cX11_culprits 4 = .ok (.invokestatic 76, 3) := by decide +kernel
theorem dX11_culprits_7 : decode cX11_culprits 7 = .ok (.ifCond .ne 5, 3) := by decide +kernel
theorem dX11_culprits_10 : decode cX11_culprits 10 = .ok (.iconst (-1), 1) := by decide +kernel
theorem dX11_culprits_11 : decode cX11_culprits 11 = .ok (.ireturn, 1) := by decide +kernel
theorem dX11_culprits_12 : decode cX11_culprits 12 = .ok (.aload_n 0, 1) := by decide +kernel
theorem dX11_culprits_13 : decode cX11_culprits 13 = .ok (.aload_n 0, 1) := by decide +kernel
theorem dX11_culprits_14 : decode cX11_culprits 14 = .ok (.invokevirtual 147, 3) := by decide +kernel
theorem dX11_culprits_17 : decode cX11_culprits 17 = .ok (.invokevirtual 205, 3) := by decide +kernel
theorem dX11_culprits_20 : decode cX11_culprits 20 = .ok (.iconst 0, 1) := by decide +kernel
theorem dX11_culprits_21 : decode cX11_culprits 21 = .ok (.istore_n 2, 1) := by decide +kernel
theorem dX11_culprits_22 : decode cX11_culprits 22 = .ok (.aload_n 0, 1) := by decide +kernel
theorem dX11_culprits_23 : decode cX11_culprits 23 = .ok (.invokevirtual 147, 3) := by decide +kernel
theorem dX11_culprits_26 : decode cX11_culprits 26 = .ok (.istore_n 3, 1) := by decide +kernel
theorem dX11_culprits_27 : decode cX11_culprits 27 = .ok (.iconst 0, 1) := by decide +kernel
theorem dX11_culprits_28 : decode cX11_culprits 28 = .ok (.istore 4, 2) := by decide +kernel
theorem dX11_culprits_30 : decode cX11_culprits 30 = .ok (.iconst 0, 1) := by decide +kernel
theorem dX11_culprits_31 : decode cX11_culprits 31 = .ok (.istore 5, 2) := by decide +kernel
theorem dX11_culprits_33 : decode cX11_culprits 33 = .ok (.iload 5, 2) := by decide +kernel
theorem dX11_culprits_35 : decode cX11_culprits 35 = .ok (.aload_n 0, 1) := by decide +kernel
theorem dX11_culprits_36 : decode cX11_culprits 36 = .ok (.invokevirtual 147, 3) := by decide +kernel
theorem dX11_culprits_39 : decode cX11_culprits 39 = .ok (.if_icmp .gt 32, 3) := by decide +kernel
theorem dX11_culprits_42 : decode cX11_culprits 42 = .ok (.aload_n 0, 1) := by decide +kernel
theorem dX11_culprits_43 : decode cX11_culprits 43 = .ok (.iload 5, 2) := by decide +kernel
theorem dX11_culprits_45 : decode cX11_culprits 45 = .ok (.iload_n 1, 1) := by decide +kernel
theorem dX11_culprits_46 : decode cX11_culprits 46 = .ok (.invokevirtual 243, 3) := by decide +kernel
theorem dX11_culprits_49 : decode cX11_culprits 49 = .ok (.ifCond .eq 16, 3) := by decide +kernel
theorem dX11_culprits_52 : decode cX11_culprits 52 = .ok (.iload_n 2, 1) := by decide +kernel
theorem dX11_culprits_53 : decode cX11_culprits 53 = .ok (.iload 5, 2) := by decide +kernel
theorem dX11_culprits_55 : decode cX11_culprits 55 = .ok (.ior, 1) := by decide +kernel
theorem dX11_culprits_56 : decode cX11_culprits 56 = .ok (.istore_n 2, 1) := by decide +kernel
theorem dX11_culprits_57 : decode cX11_culprits 57 = .ok (.iload_n 3, 1) := by decide +kernel
theorem dX11_culprits_58 : decode cX11_culprits 58 = .ok (.iload 5, 2) := by decide +kernel
theorem dX11_culprits_60 : decode cX11_culprits 60 = .ok (.iand, 1) := by decide +kernel
theorem dX11_culprits_61 : decode cX11_culprits 61 = .ok (.istore_n 3, 1) := by decide +kernel
theorem dX11_culprits_62 : decode cX11_culprits 62 = .ok (.iconst 1, 1) := by decide +kernel
theorem dX11_culprits_63 : decode cX11_culprits 63 = .ok (.istore 4, 2) := by decide +kernel
theorem dX11_culprits_65 : decode cX11_culprits 65 = .ok (.iinc 5 1, 3) := by decide +kernel
theorem dX11_culprits_68 : decode cX11_culprits 68 = .ok (.goto (-35), 3) := by decide +kernel
theorem dX11_culprits_71 : decode cX11_culprits 71 = .ok (.iload 4, 2) := by decide +kernel
theorem dX11_culprits_73 : decode cX11_culprits 73 = .ok (.ifCond .eq 12, 3) := by decide +kernel
theorem dX11_culprits_76 : decode cX11_culprits 76 = .ok (.aload_n 0, 1) := by decide +kernel
theorem dX11_culprits_77 : decode cX11_culprits 77 = .ok (.iload_n 3, 1) := by decide +kernel
theorem dX11_culprits_78 : decode cX11_culprits 78 = .ok (.iload_n 2, 1) := by decide +kernel
theorem dX11_culprits_79 : decode cX11_culprits 79 = .ok (.invokevirtual 98, 3) := by decide +kernel
theorem dX11_culprits_82 : decode cX11_culprits 82 = .ok (.goto 5, 3) := by decide +kernel
theorem dX11_culprits_85 : decode cX11_culprits 85 = .ok (.bipush (-9), 2) := by decide +kernel
theorem dX11_culprits_87 : decode cX11_culprits 87 = .ok (.ireturn, 1) := by decide +kernel
set_option maxRecDepth 20000 in
theorem ggX11_odds_X11_in : GoodIn wsX11_odds wsX11_in := goodIn_r _ [4] (by decide +kernel) (by decide +kernel)
set_option maxRecDepth 20000 in
theorem gX11_odds_X11_in : GoodIn wsX11_odds (va_wsS RX11 76 yX11_in wsX11_in) := goodIn_app (goodIn_of _ (by decide +kernel)) ggX11_odds_X11_in
set_option maxRecDepth 20000 in
theorem ggX11_odds_X11_isCell : GoodIn wsX11_odds wsX11_isCell := goodIn_r _ [8, 9, 1, 2, 3, 4, 88, 89, 90, 91, 92, 93, 94, 95, 96, 97, 98, 99, 100, 101, 102, 103, 104, 105, 106, 107, 108, 109, 110, 111, 112, 113, 114, 115, 116, 117, 118] (by decide +kernel) (by decide +kernel)
set_option maxRecDepth 20000 in
theorem gX11_odds_X11_isCell : GoodIn wsX11_odds (wsV RX11 158 RX11 yX11_isCell wsX11_isCell) := goodIn_app (goodIn_of _ (by decide +kernel)) ggX11_odds_X11_isCell
set_option maxRecDepth 20000 in
theorem ggX11_odds_X11_all : GoodIn wsX11_odds wsX11_all := goodIn_r _ [13, 9, 88, 89, 90, 91, 92, 93, 94, 95, 96, 97, 98, 99, 100, 101, 102, 103, 104, 105, 106, 107, 108, 109, 110, 111, 112, 113, 114, 115, 116, 117, 118] (by decide +kernel) (by decide +kernel)
set_option maxRecDepth 20000 in
theorem gX11_odds_X11_all : GoodIn wsX11_odds (wsV RX11 147 RX11 yX11_all wsX11_all) := goodIn_app (goodIn_of _ (by decide +kernel)) ggX11_odds_X11_all
set_option maxRecDepth 20000 in
theorem ggX11_odds_X11_layLeasts : GoodIn wsX11_odds wsX11_layLeasts := goodIn_r _ [17, 18, 19, 9, 10, 11, 12, 3, 13, 20, 21, 22, 23, 24, 25, 26, 27, 28, 29, 30, 31, 32, 33, 34, 35, 36, 37, 38, 39, 40, 41, 42, 43, 44, 45, 46, 47, 48, 49, 50, 51, 52, 53, 54, 55, 56, 57, 58, 59, 60, 61, 62, 63, 64, 65, 66, 67, 68, 88, 89, 90, 91, 92, 93, 94, 95, 96, 97, 98, 99, 100, 101, 102, 103, 104, 105, 106, 107, 108, 109, 110, 111, 112, 113, 114, 115, 116, 117, 118] (by decide +kernel) (by decide +kernel)
set_option maxRecDepth 20000 in
theorem gX11_odds_X11_layLeasts : GoodIn wsX11_odds (wsV RX11 205 RX11 yX11_layLeasts wsX11_layLeasts) := goodIn_app (goodIn_of _ (by decide +kernel)) ggX11_odds_X11_layLeasts
set_option maxRecDepth 20000 in
theorem ggX11_odds_X11_fits : GoodIn wsX11_odds wsX11_fits := goodIn_r _ [72, 19, 18, 73, 74, 75, 20, 21, 3, 22, 88, 89, 90, 91, 92, 93, 94, 95, 96, 97, 98, 99, 100, 101, 102, 103, 104, 105, 106, 107, 108, 109, 110, 111, 112, 113, 114, 115, 116, 117, 118] (by decide +kernel) (by decide +kernel)
set_option maxRecDepth 20000 in
theorem gX11_odds_X11_fits : GoodIn wsX11_odds (wsV RX11 243 RX11 yX11_fits wsX11_fits) := goodIn_app (goodIn_of _ (by decide +kernel)) ggX11_odds_X11_fits
set_option maxRecDepth 20000 in
theorem ggX11_odds_X11_has : GoodIn wsX11_odds wsX11_has := goodIn_r _ [22] (by decide +kernel) (by decide +kernel)
set_option maxRecDepth 20000 in
theorem gX11_odds_X11_has : GoodIn wsX11_odds (va_wsS RX11 151 yX11_has wsX11_has) := goodIn_app (goodIn_of _ (by decide +kernel)) ggX11_odds_X11_has
set_option maxRecDepth 20000 in
theorem ggX11_odds_X11_meets : GoodIn wsX11_odds wsX11_meets := goodIn_r _ [79, 80, 81, 88, 89, 90, 91, 92, 93, 94, 95, 96, 97, 98, 99, 100, 101, 102, 103, 104, 105, 106, 107, 108, 109, 110, 111, 112, 113, 114, 115, 116, 117, 118] (by decide +kernel) (by decide +kernel)
set_option maxRecDepth 20000 in
theorem gX11_odds_X11_meets : GoodIn wsX11_odds (wsV RX11 90 RX11 yX11_meets wsX11_meets) := goodIn_app (goodIn_of _ (by decide +kernel)) ggX11_odds_X11_meets
set_option maxRecDepth 20000 in
theorem ggX11_odds_X11_fraction : GoodIn wsX11_odds wsX11_fraction := goodIn_r _ [85, 86, 87, 88, 89, 90, 91, 92, 93, 94, 95, 96, 97, 98, 99, 100, 101, 102, 103, 104, 105, 106, 107, 108, 109, 110, 111, 112, 113, 114, 115, 116, 117, 118] (by decide +kernel) (by decide +kernel)
set_option maxRecDepth 20000 in
theorem gX11_odds_X11_fraction : GoodIn wsX11_odds (wsV RX11 246 RX11 yX11_fraction wsX11_fraction) := goodIn_app (goodIn_of _ (by decide +kernel)) ggX11_odds_X11_fraction
theorem dX11_odds_0 : decode cX11_odds 0 = .ok (.iload_n 1, 1) := by decide +kernel
theorem dX11_odds_1 : decode cX11_odds 1 = .ok (.iconst 0, 1) := by decide +kernel
theorem dX11_odds_2 : decode cX11_odds 2 = .ok (.bipush 99, 2) := by decide +kernel
theorem dX11_odds_4 : decode cX11_odds 4 = .ok (.invokestatic 76, 3) := by decide +kernel
theorem dX11_odds_7 : decode cX11_odds 7 = .ok (.ifCond .eq 11, 3) := by decide +kernel
theorem dX11_odds_10 : decode cX11_odds 10 = .ok (.aload_n 0, 1) := by decide +kernel
theorem dX11_odds_11 : decode cX11_odds 11 = .ok (.iload_n 2, 1) := by decide +kernel
theorem dX11_odds_12 : decode cX11_odds 12 = .ok (.invokevirtual 158, 3) := by decide +kernel
theorem dX11_odds_15 : decode cX11_odds 15 = .ok (.ifCond .ne 5, 3) := by decide +kernel
theorem dX11_odds_18 : decode cX11_odds 18 = .ok (.iconst (-1), 1) := by decide +kernel
theorem dX11_odds_19 : decode cX11_odds 19 = .ok (.ireturn, 1) := by decide +kernel
theorem dX11_odds_20 : decode cX11_odds 20 = .ok (.aload_n 0, 1) := by decide +kernel
theorem dX11_odds_21 : decode cX11_odds 21 = .ok (.aload_n 0, 1) := by decide +kernel
theorem dX11_odds_22 : decode cX11_odds 22 = .ok (.invokevirtual 147, 3) := by decide +kernel
theorem dX11_odds_25 : decode cX11_odds 25 = .ok (.invokevirtual 205, 3) := by decide +kernel
theorem dX11_odds_28 : decode cX11_odds 28 = .ok (.iconst 0, 1) := by decide +kernel
theorem dX11_odds_29 : decode cX11_odds 29 = .ok (.istore_n 3, 1) := by decide +kernel
theorem dX11_odds_30 : decode cX11_odds 30 = .ok (.iconst 0, 1) := by decide +kernel
theorem dX11_odds_31 : decode cX11_odds 31 = .ok (.istore 4, 2) := by decide +kernel
theorem dX11_odds_33 : decode cX11_odds 33 = .ok (.iconst 0, 1) := by decide +kernel
theorem dX11_odds_34 : decode cX11_odds 34 = .ok (.istore 5, 2) := by decide +kernel
theorem dX11_odds_36 : decode cX11_odds 36 = .ok (.iload 5, 2) := by decide +kernel
theorem dX11_odds_38 : decode cX11_odds 38 = .ok (.aload_n 0, 1) := by decide +kernel
theorem dX11_odds_39 : decode cX11_odds 39 = .ok (.invokevirtual 147, 3) := by decide +kernel
theorem dX11_odds_42 : decode cX11_odds 42 = .ok (.if_icmp .gt 56, 3) := by decide +kernel
theorem dX11_odds_45 : decode cX11_odds 45 = .ok (.iload_n 3, 1) := by decide +kernel
theorem dX11_odds_46 : decode cX11_odds 46 = .ok (.aload_n 0, 1) := by decide +kernel
theorem dX11_odds_47 : decode cX11_odds 47 = .ok (.iload 5, 2) := by decide +kernel
theorem dX11_odds_49 : decode cX11_odds 49 = .ok (.iload_n 1, 1) := by decide +kernel
theorem dX11_odds_50 : decode cX11_odds 50 = .ok (.invokevirtual 243, 3) := by decide +kernel
theorem dX11_odds_53 : decode cX11_odds 53 = .ok (.ifCond .eq 7, 3) := by decide +kernel
theorem dX11_odds_56 : decode cX11_odds 56 = .ok (.iconst 1, 1) := by decide +kernel
theorem dX11_odds_57 : decode cX11_odds 57 = .ok (.goto 4, 3) := by decide +kernel
theorem dX11_odds_60 : decode cX11_odds 60 = .ok (.iconst 0, 1) := by decide +kernel
theorem dX11_odds_61 : decode cX11_odds 61 = .ok (.iadd, 1) := by decide +kernel
theorem dX11_odds_62 : decode cX11_odds 62 = .ok (.istore_n 3, 1) := by decide +kernel
theorem dX11_odds_63 : decode cX11_odds 63 = .ok (.iload 4, 2) := by decide +kernel
theorem dX11_odds_65 : decode cX11_odds 65 = .ok (.aload_n 0, 1) := by decide +kernel
theorem dX11_odds_66 : decode cX11_odds 66 = .ok (.iload 5, 2) := by decide +kernel
theorem dX11_odds_68 : decode cX11_odds 68 = .ok (.iload_n 1, 1) := by decide +kernel
theorem dX11_odds_69 : decode cX11_odds 69 = .ok (.invokevirtual 243, 3) := by decide +kernel
theorem dX11_odds_72 : decode cX11_odds 72 = .ok (.ifCond .eq 16, 3) := by decide +kernel
theorem dX11_odds_75 : decode cX11_odds 75 = .ok (.iload 5, 2) := by decide +kernel
theorem dX11_odds_77 : decode cX11_odds 77 = .ok (.iload_n 2, 1) := by decide +kernel
theorem dX11_odds_78 : decode cX11_odds 78 = .ok (.invokestatic 151, 3) := by decide +kernel
theorem dX11_odds_81 : decode cX11_odds 81 = .ok (.ifCond .eq 7, 3) := by decide +kernel
theorem dX11_odds_84 : decode cX11_odds 84 = .ok (.iconst 1, 1) := by decide +kernel
theorem dX11_odds_85 : decode cX11_odds 85 = .ok (.goto 4, 3) := by decide +kernel
theorem dX11_odds_88 : decode cX11_odds 88 = .ok (.iconst 0, 1) := by decide +kernel
theorem dX11_odds_89 : decode cX11_odds 89 = .ok (.iadd, 1) := by decide +kernel
theorem dX11_odds_90 : decode cX11_odds 90 = .ok (.istore 4, 2) := by decide +kernel
theorem dX11_odds_92 : decode cX11_odds 92 = .ok (.iinc 5 1, 3) := by decide +kernel
theorem dX11_odds_95 : decode cX11_odds 95 = .ok (.goto (-59), 3) := by decide +kernel
theorem dX11_odds_98 : decode cX11_odds 98 = .ok (.iload_n 3, 1) := by decide +kernel
theorem dX11_odds_99 : decode cX11_odds 99 = .ok (.ifCond .ne 11, 3) := by decide +kernel
theorem dX11_odds_102 : decode cX11_odds 102 = .ok (.aload_n 0, 1) := by decide +kernel
theorem dX11_odds_103 : decode cX11_odds 103 = .ok (.iconst 4, 1) := by decide +kernel
theorem dX11_odds_104 : decode cX11_odds 104 = .ok (.invokevirtual 90, 3) := by decide +kernel
theorem dX11_odds_107 : decode cX11_odds 107 = .ok (.goto 14, 3) := by decide +kernel
theorem dX11_odds_110 : decode cX11_odds 110 = .ok (.aload_n 0, 1) := by decide +kernel
theorem dX11_odds_111 : decode cX11_odds 111 = .ok (.iload 4, 2) := by decide +kernel
theorem dX11_odds_113 : decode cX11_odds 113 = .ok (.i2l, 1) := by decide +kernel
theorem dX11_odds_114 : decode cX11_odds 114 = .ok (.iload_n 3, 1) := by decide +kernel
theorem dX11_odds_115 : decode cX11_odds 115 = .ok (.i2l, 1) := by decide +kernel
theorem dX11_odds_116 : decode cX11_odds 116 = .ok (.iload 4, 2) := by decide +kernel
theorem dX11_odds_118 : decode cX11_odds 118 = .ok (.invokevirtual 246, 3) := by decide +kernel
theorem dX11_odds_121 : decode cX11_odds 121 = .ok (.ireturn, 1) := by decide +kernel
set_option maxRecDepth 20000 in
theorem ggX11_counted_X11_isTwo : GoodIn wsX11_counted wsX11_isTwo := goodIn_r _ [11, 12, 13, 14, 10, 15, 16, 24, 25, 26, 27, 28, 29, 30, 31, 32, 33, 34, 35, 36, 37, 38, 39, 40, 41, 42, 43, 44, 45, 46, 47, 48, 49, 50, 51, 52, 53, 54] (by decide +kernel) (by decide +kernel)
set_option maxRecDepth 20000 in
theorem gX11_counted_X11_isTwo : GoodIn wsX11_counted (wsV RX11 161 RX11 yX11_isTwo wsX11_isTwo) := goodIn_app (goodIn_of _ (by decide +kernel)) ggX11_counted_X11_isTwo
set_option maxRecDepth 20000 in
theorem ggX11_counted_X11_isLate : GoodIn wsX11_counted wsX11_isLate := goodIn_r _ [20, 12, 13, 14, 10, 15, 16, 24, 25, 26, 27, 28, 29, 30, 31, 32, 33, 34, 35, 36, 37, 38, 39, 40, 41, 42, 43, 44, 45, 46, 47, 48, 49, 50, 51, 52, 53, 54] (by decide +kernel) (by decide +kernel)
set_option maxRecDepth 20000 in
theorem gX11_counted_X11_isLate : GoodIn wsX11_counted (wsV RX11 164 RX11 yX11_isLate wsX11_isLate) := goodIn_app (goodIn_of _ (by decide +kernel)) ggX11_counted_X11_isLate
set_option maxRecDepth 20000 in
theorem ggX11_counted_X11_bits : GoodIn wsX11_counted wsX11_bits := goodIn_r _ [23] (by decide +kernel) (by decide +kernel)
set_option maxRecDepth 20000 in
theorem gX11_counted_X11_bits : GoodIn wsX11_counted (va_wsS RX11 188 yX11_bits wsX11_bits) := goodIn_app (goodIn_of _ (by decide +kernel)) ggX11_counted_X11_bits
theorem dX11_counted_0 : decode cX11_counted 0 = .ok (.iconst 0, 1) := by decide +kernel
theorem dX11_counted_1 : decode cX11_counted 1 = .ok (.istore_n 2, 1) := by decide +kernel
theorem dX11_counted_2 : decode cX11_counted 2 = .ok (.iconst 0, 1) := by decide +kernel
theorem dX11_counted_3 : decode cX11_counted 3 = .ok (.istore_n 3, 1) := by decide +kernel
theorem dX11_counted_4 : decode cX11_counted 4 = .ok (.iload_n 3, 1) := by decide +kernel
theorem dX11_counted_5 : decode cX11_counted 5 = .ok (.aload_n 0, 1) := by decide +kernel
theorem dX11_counted_6 : decode cX11_counted 6 = .ok (.getfield 135, 3) := by decide +kernel
theorem dX11_counted_9 : decode cX11_counted 9 = .ok (.if_icmp .ge 64, 3) := by decide +kernel
theorem dX11_counted_12 : decode cX11_counted 12 = .ok (.iload_n 2, 1) := by decide +kernel
theorem dX11_counted_13 : decode cX11_counted 13 = .ok (.iload_n 1, 1) := by decide +kernel
theorem dX11_counted_14 : decode cX11_counted 14 = .ok (.iconst 2, 1) := by decide +kernel
theorem dX11_counted_15 : decode cX11_counted 15 = .ok (.if_icmp .ne 11, 3) := by decide +kernel
theorem dX11_counted_18 : decode cX11_counted 18 = .ok (.aload_n 0, 1) := by decide +kernel
theorem dX11_counted_19 : decode cX11_counted 19 = .ok (.iload_n 3, 1) := by decide +kernel
theorem dX11_counted_20 : decode cX11_counted 20 = .ok (.invokevirtual 161, 3) := by decide +kernel
theorem dX11_counted_23 : decode cX11_counted 23 = .ok (.ifCond .ne 16, 3) := by decide +kernel
theorem dX11_counted_26 : decode cX11_counted 26 = .ok (.iload_n 1, 1) := by decide +kernel
theorem dX11_counted_27 : decode cX11_counted 27 = .ok (.iconst 3, 1) := by decide +kernel
theorem dX11_counted_28 : decode cX11_counted 28 = .ok (.if_icmp .ne 15, 3) := by decide +kernel
theorem dX11_counted_31 : decode cX11_counted 31 = .ok (.aload_n 0, 1) := by decide +kernel
theorem dX11_counted_32 : decode cX11_counted 32 = .ok (.iload_n 3, 1) := by decide +kernel
theorem dX11_counted_33 : decode cX11_counted 33 = .ok (.invokevirtual 164, 3) := by decide +kernel
theorem dX11_counted_36 : decode cX11_counted 36 = .ok (.ifCond .eq 7, 3) := by decide +kernel
theorem dX11_counted_39 : decode cX11_counted 39 = .ok (.iconst 1, 1) := by decide +kernel
theorem dX11_counted_40 : decode cX11_counted 40 = .ok (.goto 4, 3) := by decide +kernel
theorem dX11_counted_43 : decode cX11_counted 43 = .ok (.iconst 0, 1) := by decide +kernel
theorem dX11_counted_44 : decode cX11_counted 44 = .ok (.iadd, 1) := by decide +kernel
theorem dX11_counted_45 : decode cX11_counted 45 = .ok (.istore_n 2, 1) := by decide +kernel
theorem dX11_counted_46 : decode cX11_counted 46 = .ok (.iload_n 2, 1) := by decide +kernel
theorem dX11_counted_47 : decode cX11_counted 47 = .ok (.iload_n 1, 1) := by decide +kernel
theorem dX11_counted_48 : decode cX11_counted 48 = .ok (.iconst 4, 1) := by decide +kernel
theorem dX11_counted_49 : decode cX11_counted 49 = .ok (.if_icmp .ne 15, 3) := by decide +kernel
theorem dX11_counted_52 : decode cX11_counted 52 = .ok (.aload_n 0, 1) := by decide +kernel
theorem dX11_counted_53 : decode cX11_counted 53 = .ok (.getfield 32, 3) := by decide +kernel
theorem dX11_counted_56 : decode cX11_counted 56 = .ok (.iload_n 3, 1) := by decide +kernel
theorem dX11_counted_57 : decode cX11_counted 57 = .ok (.iaload, 1) := by decide +kernel
theorem dX11_counted_58 : decode cX11_counted 58 = .ok (.invokestatic 188, 3) := by decide +kernel
theorem dX11_counted_61 : decode cX11_counted 61 = .ok (.goto 4, 3) := by decide +kernel
theorem dX11_counted_64 : decode cX11_counted 64 = .ok (.iconst 0, 1) := by decide +kernel
theorem dX11_counted_65 : decode cX11_counted 65 = .ok (.iadd, 1) := by decide +kernel
theorem dX11_counted_66 : decode cX11_counted 66 = .ok (.istore_n 2, 1) := by decide +kernel
theorem dX11_counted_67 : decode cX11_counted 67 = .ok (.iinc 3 1, 3) := by decide +kernel
theorem dX11_counted_70 : decode cX11_counted 70 = .ok (.goto (-66), 3) := by decide +kernel
theorem dX11_counted_73 : decode cX11_counted 73 = .ok (.iconst 0, 1) := by decide +kernel
theorem dX11_counted_74 : decode cX11_counted 74 = .ok (.istore_n 3, 1) := by decide +kernel
theorem dX11_counted_75 : decode cX11_counted 75 = .ok (.iload_n 3, 1) := by decide +kernel
theorem dX11_counted_76 : decode cX11_counted 76 = .ok (.bipush 6, 2) := by decide +kernel
theorem dX11_counted_78 : decode cX11_counted 78 = .ok (.if_icmp .ge 32, 3) := by decide +kernel
theorem dX11_counted_81 : decode cX11_counted 81 = .ok (.iload_n 2, 1) := by decide +kernel
theorem dX11_counted_82 : decode cX11_counted 82 = .ok (.iload_n 1, 1) := by decide +kernel
theorem dX11_counted_83 : decode cX11_counted 83 = .ok (.bipush 6, 2) := by decide +kernel
theorem dX11_counted_85 : decode cX11_counted 85 = .ok (.if_icmp .ne 16, 3) := by decide +kernel
theorem dX11_counted_88 : decode cX11_counted 88 = .ok (.aload_n 0, 1) := by decide +kernel
theorem dX11_counted_89 : decode cX11_counted 89 = .ok (.getfield 13, 3) := by decide +kernel
theorem dX11_counted_92 : decode cX11_counted 92 = .ok (.iload_n 3, 1) := by decide +kernel
theorem dX11_counted_93 : decode cX11_counted 93 = .ok (.iaload, 1) := by decide +kernel
theorem dX11_counted_94 : decode cX11_counted 94 = .ok (.ifCond .lt 7, 3) := by decide +kernel
theorem dX11_counted_97 : decode cX11_counted 97 = .ok (.iconst 1, 1) := by decide +kernel
theorem dX11_counted_98 : decode cX11_counted 98 = .ok (.goto 4, 3) := by decide +kernel
theorem dX11_counted_101 : decode cX11_counted 101 = .ok (.iconst 0, 1) := by decide +kernel
theorem dX11_counted_102 : decode cX11_counted 102 = .ok (.iadd, 1) := by decide +kernel
theorem dX11_counted_103 : decode cX11_counted 103 = .ok (.istore_n 2, 1) := by decide +kernel
theorem dX11_counted_104 : decode cX11_counted 104 = .ok (.iinc 3 1, 3) := by decide +kernel
theorem dX11_counted_107 : decode cX11_counted 107 = .ok (.goto (-32), 3) := by decide +kernel
theorem dX11_counted_110 : decode cX11_counted 110 = .ok (.iconst 0, 1) := by decide +kernel
theorem dX11_counted_111 : decode cX11_counted 111 = .ok (.istore_n 3, 1) := by decide +kernel
theorem dX11_counted_112 : decode cX11_counted 112 = .ok (.iload_n 3, 1) := by decide +kernel
theorem dX11_counted_113 : decode cX11_counted 113 = .ok (.iconst 4, 1) := by decide +kernel
theorem dX11_counted_114 : decode cX11_counted 114 = .ok (.if_icmp .ge 32, 3) := by decide +kernel
theorem dX11_counted_117 : decode cX11_counted 117 = .ok (.iload_n 2, 1) := by decide +kernel
theorem dX11_counted_118 : decode cX11_counted 118 = .ok (.iload_n 1, 1) := by decide +kernel
theorem dX11_counted_119 : decode cX11_counted 119 = .ok (.bipush 7, 2) := by decide +kernel
theorem dX11_counted_121 : decode cX11_counted 121 = .ok (.if_icmp .ne 16, 3) := by decide +kernel
theorem dX11_counted_124 : decode cX11_counted 124 = .ok (.aload_n 0, 1) := by decide +kernel
theorem dX11_counted_125 : decode cX11_counted 125 = .ok (.getfield 22, 3) := by decide +kernel
theorem dX11_counted_128 : decode cX11_counted 128 = .ok (.iload_n 3, 1) := by decide +kernel
theorem dX11_counted_129 : decode cX11_counted 129 = .ok (.iaload, 1) := by decide +kernel
theorem dX11_counted_130 : decode cX11_counted 130 = .ok (.ifCond .lt 7, 3) := by decide +kernel
theorem dX11_counted_133 : decode cX11_counted 133 = .ok (.iconst 1, 1) := by decide +kernel
theorem dX11_counted_134 : decode cX11_counted 134 = .ok (.goto 4, 3) := by decide +kernel
theorem dX11_counted_137 : decode cX11_counted 137 = .ok (.iconst 0, 1) := by decide +kernel
theorem dX11_counted_138 : decode cX11_counted 138 = .ok (.iadd, 1) := by decide +kernel
theorem dX11_counted_139 : decode cX11_counted 139 = .ok (.istore_n 2, 1) := by decide +kernel
theorem dX11_counted_140 : decode cX11_counted 140 = .ok (.iinc 3 1, 3) := by decide +kernel
theorem dX11_counted_143 : decode cX11_counted 143 = .ok (.goto (-31), 3) := by decide +kernel
theorem dX11_counted_146 : decode cX11_counted 146 = .ok (.iload_n 1, 1) := by decide +kernel
theorem dX11_counted_147 : decode cX11_counted 147 = .ok (.tableswitch 59 0 5 #[37, 42, 59, 59, 50, 54], 37) := by decide +kernel
theorem dX11_counted_184 : decode cX11_counted 184 = .ok (.aload_n 0, 1) := by decide +kernel
theorem dX11_counted_185 : decode cX11_counted 185 = .ok (.getfield 135, 3) := by decide +kernel
theorem dX11_counted_188 : decode cX11_counted 188 = .ok (.ireturn, 1) := by decide +kernel
theorem dX11_counted_189 : decode cX11_counted 189 = .ok (.aload_n 0, 1) := by decide +kernel
theorem dX11_counted_190 : decode cX11_counted 190 = .ok (.getfield 138, 3) := by decide +kernel
theorem dX11_counted_193 : decode cX11_counted 193 = .ok (.invokestatic 188, 3) := by decide +kernel
theorem dX11_counted_196 : decode cX11_counted 196 = .ok (.ireturn, 1) := by decide +kernel
theorem dX11_counted_197 : decode cX11_counted 197 = .ok (.iload_n 2, 1) := by decide +kernel
theorem dX11_counted_198 : decode cX11_counted 198 = .ok (.iconst 2, 1) := by decide +kernel
theorem dX11_counted_199 : decode cX11_counted 199 = .ok (.idiv, 1) := by decide +kernel
theorem dX11_counted_200 : decode cX11_counted 200 = .ok (.ireturn, 1) := by decide +kernel
theorem dX11_counted_201 : decode cX11_counted 201 = .ok (.aload_n 0, 1) := by decide +kernel
theorem dX11_counted_202 : decode cX11_counted 202 = .ok (.getfield 144, 3) := by decide +kernel
theorem dX11_counted_205 : decode cX11_counted 205 = .ok (.ireturn, 1) := by decide +kernel
theorem dX11_counted_206 : decode cX11_counted 206 = .ok (.iload_n 2, 1) := by decide +kernel
theorem dX11_counted_207 : decode cX11_counted 207 = .ok (.ireturn, 1) := by decide +kernel
set_option maxRecDepth 20000 in
theorem ggX11_count_X11_in : GoodIn wsX11_count wsX11_in := goodIn_r _ [4] (by decide +kernel) (by decide +kernel)
set_option maxRecDepth 20000 in
theorem gX11_count_X11_in : GoodIn wsX11_count (va_wsS RX11 76 yX11_in wsX11_in) := goodIn_app (goodIn_of _ (by decide +kernel)) ggX11_count_X11_in
set_option maxRecDepth 20000 in
theorem ggX11_count_X11_counted : GoodIn wsX11_count wsX11_counted := goodIn_r _ [8, 9, 10, 11, 12, 13, 14, 15, 16, 17, 3, 18, 19, 20, 21, 22, 23, 24, 25, 26, 27, 28, 29, 30, 31, 32, 33, 34, 35, 36, 37, 38, 39, 40, 41, 42, 43, 44, 45, 46, 47, 48, 49, 50, 51, 52, 53, 54, 55, 56, 57, 58, 59, 60, 61] (by decide +kernel) (by decide +kernel)
set_option maxRecDepth 20000 in
theorem gX11_count_X11_counted : GoodIn wsX11_count (wsV RX11 250 RX11 yX11_counted wsX11_counted) := goodIn_app (goodIn_of _ (by decide +kernel)) ggX11_count_X11_counted
theorem dX11_count_0 : decode cX11_count 0 = .ok (.iload_n 1, 1) := by decide +kernel
theorem dX11_count_1 : decode cX11_count 1 = .ok (.iconst 0, 1) := by decide +kernel
theorem dX11_count_2 : decode cX11_count 2 = .ok (.bipush 7, 2) := by decide +kernel
theorem dX11_count_4 : decode cX11_count 4 = .ok (.invokestatic 76, 3) := by decide +kernel
theorem dX11_count_7 : decode cX11_count 7 = .ok (.ifCond .eq 11, 3) := by decide +kernel
theorem dX11_count_10 : decode cX11_count 10 = .ok (.aload_n 0, 1) := by decide +kernel
theorem dX11_count_11 : decode cX11_count 11 = .ok (.iload_n 1, 1) := by decide +kernel
theorem dX11_count_12 : decode cX11_count 12 = .ok (.invokevirtual 250, 3) := by decide +kernel
theorem dX11_count_15 : decode cX11_count 15 = .ok (.goto 4, 3) := by decide +kernel
theorem dX11_count_18 : decode cX11_count 18 = .ok (.iconst (-1), 1) := by decide +kernel
theorem dX11_count_19 : decode cX11_count 19 = .ok (.ireturn, 1) := by decide +kernel
theorem dX11_mix_0 : decode cX11_mix 0 = .ok (.aload_n 0, 1) := by decide +kernel
theorem dX11_mix_1 : decode cX11_mix 1 = .ok (.ldc2_w 253, 3) := by decide +kernel
theorem dX11_mix_4 : decode cX11_mix 4 = .ok (.aload_n 0, 1) := by decide +kernel
theorem dX11_mix_5 : decode cX11_mix 5 = .ok (.getfield 255, 3) := by decide +kernel
theorem dX11_mix_8 : decode cX11_mix 8 = .ok (.lmul, 1) := by decide +kernel
theorem dX11_mix_9 : decode cX11_mix 9 = .ok (.lload_n 1, 1) := by decide +kernel
theorem dX11_mix_10 : decode cX11_mix 10 = .ok (.ladd, 1) := by decide +kernel
theorem dX11_mix_11 : decode cX11_mix 11 = .ok (.putfield 255, 3) := by decide +kernel
theorem dX11_mix_14 : decode cX11_mix 14 = .ok (.return_, 1) := by decide +kernel
set_option maxRecDepth 20000 in
theorem ggX11_mixJail_X11_mix : GoodIn wsX11_mixJail wsX11_mix := goodIn_r _ [16, 17, 18, 19, 20, 21, 22, 23, 24, 25, 26, 27, 28, 29, 30, 31, 32, 33, 34, 35, 36, 37, 38, 39, 40, 41, 42, 43, 44, 45, 46, 47, 48, 49] (by decide +kernel) (by decide +kernel)
set_option maxRecDepth 20000 in
theorem gX11_mixJail_X11_mix : GoodIn wsX11_mixJail (wsV RX11 258 RX11 yX11_mix wsX11_mix) := goodIn_app (goodIn_of _ (by decide +kernel)) ggX11_mixJail_X11_mix
theorem dX11_mixJail_0 : decode cX11_mixJail 0 = .ok (.aload_n 0, 1) := by decide +kernel
theorem dX11_mixJail_1 : decode cX11_mixJail 1 = .ok (.aload_n 0, 1) := by decide +kernel
theorem dX11_mixJail_2 : decode cX11_mixJail 2 = .ok (.getfield 138, 3) := by decide +kernel
theorem dX11_mixJail_5 : decode cX11_mixJail 5 = .ok (.i2l, 1) := by decide +kernel
theorem dX11_mixJail_6 : decode cX11_mixJail 6 = .ok (.invokevirtual 258, 3) := by decide +kernel
theorem dX11_mixJail_9 : decode cX11_mixJail 9 = .ok (.aload_n 0, 1) := by decide +kernel
theorem dX11_mixJail_10 : decode cX11_mixJail 10 = .ok (.aload_n 0, 1) := by decide +kernel
theorem dX11_mixJail_11 : decode cX11_mixJail 11 = .ok (.getfield 141, 3) := by decide +kernel
theorem dX11_mixJail_14 : decode cX11_mixJail 14 = .ok (.i2l, 1) := by decide +kernel
theorem dX11_mixJail_15 : decode cX11_mixJail 15 = .ok (.invokevirtual 258, 3) := by decide +kernel
theorem dX11_mixJail_18 : decode cX11_mixJail 18 = .ok (.iconst 0, 1) := by decide +kernel
theorem dX11_mixJail_19 : decode cX11_mixJail 19 = .ok (.istore_n 1, 1) := by decide +kernel
theorem dX11_mixJail_20 : decode cX11_mixJail 20 = .ok (.iload_n 1, 1) := by decide +kernel
theorem dX11_mixJail_21 : decode cX11_mixJail 21 = .ok (.aload_n 0, 1) := by decide +kernel
theorem dX11_mixJail_22 : decode cX11_mixJail 22 = .ok (.getfield 135, 3) := by decide +kernel
theorem dX11_mixJail_25 : decode cX11_mixJail 25 = .ok (.if_icmp .ge 48, 3) := by decide +kernel
